section
-- ===== PART A: goes FIRST, ahead of the names: the tables' words, and 'selects' of the private methods out of them =====
/-- a private method of a class that the tables say can be made, by its rows of tables_1 -/
def lw_okq (q : MethodName × Nat) : Prop := (q.1.cls ≠ "java/lang/invoke/MethodHandle" ∧ q.1.cls ≠ "java/lang/invoke/VarHandle") ∧ Cond.instantiable q.1.cls q.2 ∈ tables_1 ∧ Cond.privateMethod q.1 ∈ tables_1 ∧ Cond.instanceMethod q.1 ∈ tables_1
theorem lw_p0 : lw_okq (⟨"ModelDesk", "readText", "()I"⟩, 7) := ⟨⟨by decide +kernel, by decide +kernel⟩, List.mem_of_getElem? (i := 6) (by decide +kernel), List.mem_of_getElem? (i := 121) (by decide +kernel), List.mem_of_getElem? (i := 122) (by decide +kernel)⟩
theorem lw_p1 : lw_okq (⟨"ModelDesk$Reader", "open", "()I"⟩, 10) := ⟨⟨by decide +kernel, by decide +kernel⟩, List.mem_of_getElem? (i := 14) (by decide +kernel), List.mem_of_getElem? (i := 137) (by decide +kernel), List.mem_of_getElem? (i := 138) (by decide +kernel)⟩
theorem lw_p2 : lw_okq (⟨"ModelDesk$Reader", "takeBeforePart", "(I)I"⟩, 10) := ⟨⟨by decide +kernel, by decide +kernel⟩, List.mem_of_getElem? (i := 14) (by decide +kernel), List.mem_of_getElem? (i := 141) (by decide +kernel), List.mem_of_getElem? (i := 142) (by decide +kernel)⟩
theorem lw_p3 : lw_okq (⟨"ModelDesk$Reader", "takeName", "(I)I"⟩, 10) := ⟨⟨by decide +kernel, by decide +kernel⟩, List.mem_of_getElem? (i := 14) (by decide +kernel), List.mem_of_getElem? (i := 145) (by decide +kernel), List.mem_of_getElem? (i := 146) (by decide +kernel)⟩
theorem lw_p4 : lw_okq (⟨"ModelDesk$Reader", "takeSign", "(I)I"⟩, 10) := ⟨⟨by decide +kernel, by decide +kernel⟩, List.mem_of_getElem? (i := 14) (by decide +kernel), List.mem_of_getElem? (i := 161) (by decide +kernel), List.mem_of_getElem? (i := 162) (by decide +kernel)⟩
theorem lw_p5 : lw_okq (⟨"ModelDesk$Reader", "close", "()I"⟩, 10) := ⟨⟨by decide +kernel, by decide +kernel⟩, List.mem_of_getElem? (i := 14) (by decide +kernel), List.mem_of_getElem? (i := 172) (by decide +kernel), List.mem_of_getElem? (i := 173) (by decide +kernel)⟩
theorem lw_p6 : lw_okq (⟨"ModelDesk$Reader", "joinPart", "(I)V"⟩, 10) := ⟨⟨by decide +kernel, by decide +kernel⟩, List.mem_of_getElem? (i := 14) (by decide +kernel), List.mem_of_getElem? (i := 176) (by decide +kernel), List.mem_of_getElem? (i := 177) (by decide +kernel)⟩
theorem lw_p7 : lw_okq (⟨"ModelDesk$Reader", "takeSeparator", "(I)I"⟩, 10) := ⟨⟨by decide +kernel, by decide +kernel⟩, List.mem_of_getElem? (i := 14) (by decide +kernel), List.mem_of_getElem? (i := 180) (by decide +kernel), List.mem_of_getElem? (i := 181) (by decide +kernel)⟩
theorem lw_p8 : lw_okq (⟨"ModelDesk", "startRow", "()V"⟩, 7) := ⟨⟨by decide +kernel, by decide +kernel⟩, List.mem_of_getElem? (i := 6) (by decide +kernel), List.mem_of_getElem? (i := 189) (by decide +kernel), List.mem_of_getElem? (i := 190) (by decide +kernel)⟩
theorem lw_p9 : lw_okq (⟨"ModelDesk$Model", "namesTwiceIn", "(J)I"⟩, 6) := ⟨⟨by decide +kernel, by decide +kernel⟩, List.mem_of_getElem? (i := 20) (by decide +kernel), List.mem_of_getElem? (i := 201) (by decide +kernel), List.mem_of_getElem? (i := 202) (by decide +kernel)⟩
theorem lw_p10 : lw_okq (⟨"ModelDeskModel", "parse", "()I"⟩, 18) := ⟨⟨by decide +kernel, by decide +kernel⟩, List.mem_of_getElem? (i := 261) (by decide +kernel), List.mem_of_getElem? (i := 331) (by decide +kernel), List.mem_of_getElem? (i := 332) (by decide +kernel)⟩
theorem lw_p11 : lw_okq (⟨"ModelDeskModel", "at", "(I)I"⟩, 18) := ⟨⟨by decide +kernel, by decide +kernel⟩, List.mem_of_getElem? (i := 261) (by decide +kernel), List.mem_of_getElem? (i := 335) (by decide +kernel), List.mem_of_getElem? (i := 336) (by decide +kernel)⟩
theorem lw_p12 : lw_okq (⟨"ModelDeskModel", "open", "()Z"⟩, 18) := ⟨⟨by decide +kernel, by decide +kernel⟩, List.mem_of_getElem? (i := 261) (by decide +kernel), List.mem_of_getElem? (i := 339) (by decide +kernel), List.mem_of_getElem? (i := 340) (by decide +kernel)⟩
theorem lw_p13 : lw_okq (⟨"ModelDeskModel", "node", "(I)I"⟩, 18) := ⟨⟨by decide +kernel, by decide +kernel⟩, List.mem_of_getElem? (i := 261) (by decide +kernel), List.mem_of_getElem? (i := 343) (by decide +kernel), List.mem_of_getElem? (i := 344) (by decide +kernel)⟩
theorem lw_p14 : lw_okq (⟨"ModelDeskModel", "signed", "(II)I"⟩, 18) := ⟨⟨by decide +kernel, by decide +kernel⟩, List.mem_of_getElem? (i := 261) (by decide +kernel), List.mem_of_getElem? (i := 350) (by decide +kernel), List.mem_of_getElem? (i := 351) (by decide +kernel)⟩
theorem lw_p15 : lw_okq (⟨"ModelDeskModel", "add", "(I)V"⟩, 18) := ⟨⟨by decide +kernel, by decide +kernel⟩, List.mem_of_getElem? (i := 261) (by decide +kernel), List.mem_of_getElem? (i := 354) (by decide +kernel), List.mem_of_getElem? (i := 355) (by decide +kernel)⟩
def lw_privs_1 : List (MethodName × Nat) := [(⟨"ModelDesk", "readText", "()I"⟩, 7), (⟨"ModelDesk$Reader", "open", "()I"⟩, 10), (⟨"ModelDesk$Reader", "takeBeforePart", "(I)I"⟩, 10), (⟨"ModelDesk$Reader", "takeName", "(I)I"⟩, 10), (⟨"ModelDesk$Reader", "takeSign", "(I)I"⟩, 10), (⟨"ModelDesk$Reader", "close", "()I"⟩, 10), (⟨"ModelDesk$Reader", "joinPart", "(I)V"⟩, 10), (⟨"ModelDesk$Reader", "takeSeparator", "(I)I"⟩, 10), (⟨"ModelDesk", "startRow", "()V"⟩, 7), (⟨"ModelDesk$Model", "namesTwiceIn", "(J)I"⟩, 6), (⟨"ModelDeskModel", "parse", "()I"⟩, 18), (⟨"ModelDeskModel", "at", "(I)I"⟩, 18), (⟨"ModelDeskModel", "open", "()Z"⟩, 18), (⟨"ModelDeskModel", "node", "(I)I"⟩, 18), (⟨"ModelDeskModel", "signed", "(II)I"⟩, 18), (⟨"ModelDeskModel", "add", "(I)V"⟩, 18)]
theorem lw_r1 : ∀ q ∈ lw_privs_1, lw_okq q := List.forall_mem_cons.mpr ⟨lw_p0, List.forall_mem_cons.mpr ⟨lw_p1, List.forall_mem_cons.mpr ⟨lw_p2, List.forall_mem_cons.mpr ⟨lw_p3, List.forall_mem_cons.mpr ⟨lw_p4, List.forall_mem_cons.mpr ⟨lw_p5, List.forall_mem_cons.mpr ⟨lw_p6, List.forall_mem_cons.mpr ⟨lw_p7, List.forall_mem_cons.mpr ⟨lw_p8, List.forall_mem_cons.mpr ⟨lw_p9, List.forall_mem_cons.mpr ⟨lw_p10, List.forall_mem_cons.mpr ⟨lw_p11, List.forall_mem_cons.mpr ⟨lw_p12, List.forall_mem_cons.mpr ⟨lw_p13, List.forall_mem_cons.mpr ⟨lw_p14, List.forall_mem_cons.mpr ⟨lw_p15, fun _ h => absurd h List.not_mem_nil⟩⟩⟩⟩⟩⟩⟩⟩⟩⟩⟩⟩⟩⟩⟩⟩
theorem lw_p16 : lw_okq (⟨"ModelDeskModel", "close", "()I"⟩, 18) := ⟨⟨by decide +kernel, by decide +kernel⟩, List.mem_of_getElem? (i := 261) (by decide +kernel), List.mem_of_getElem? (i := 358) (by decide +kernel), List.mem_of_getElem? (i := 359) (by decide +kernel)⟩
theorem lw_p17 : lw_okq (⟨"ModelDeskModel", "firsts", "(I)J"⟩, 18) := ⟨⟨by decide +kernel, by decide +kernel⟩, List.mem_of_getElem? (i := 261) (by decide +kernel), List.mem_of_getElem? (i := 366) (by decide +kernel), List.mem_of_getElem? (i := 367) (by decide +kernel)⟩
theorem lw_p18 : lw_okq (⟨"ModelDeskModel", "begins", "(II)Z"⟩, 18) := ⟨⟨by decide +kernel, by decide +kernel⟩, List.mem_of_getElem? (i := 261) (by decide +kernel), List.mem_of_getElem? (i := 370) (by decide +kernel), List.mem_of_getElem? (i := 371) (by decide +kernel)⟩
theorem lw_p19 : lw_okq (⟨"ModelDeskModel", "ends", "(I)Z"⟩, 18) := ⟨⟨by decide +kernel, by decide +kernel⟩, List.mem_of_getElem? (i := 261) (by decide +kernel), List.mem_of_getElem? (i := 382) (by decide +kernel), List.mem_of_getElem? (i := 383) (by decide +kernel)⟩
theorem lw_p20 : lw_okq (⟨"ModelDeskModel", "twice", "(J)I"⟩, 18) := ⟨⟨by decide +kernel, by decide +kernel⟩, List.mem_of_getElem? (i := 261) (by decide +kernel), List.mem_of_getElem? (i := 391) (by decide +kernel), List.mem_of_getElem? (i := 392) (by decide +kernel)⟩
theorem lw_p21 : lw_okq (⟨"ModelDeskModel", "able", "(J)J"⟩, 18) := ⟨⟨by decide +kernel, by decide +kernel⟩, List.mem_of_getElem? (i := 261) (by decide +kernel), List.mem_of_getElem? (i := 413) (by decide +kernel), List.mem_of_getElem? (i := 414) (by decide +kernel)⟩
def lw_privs_2 : List (MethodName × Nat) := [(⟨"ModelDeskModel", "close", "()I"⟩, 18), (⟨"ModelDeskModel", "firsts", "(I)J"⟩, 18), (⟨"ModelDeskModel", "begins", "(II)Z"⟩, 18), (⟨"ModelDeskModel", "ends", "(I)Z"⟩, 18), (⟨"ModelDeskModel", "twice", "(J)I"⟩, 18), (⟨"ModelDeskModel", "able", "(J)J"⟩, 18)]
theorem lw_r2 : ∀ q ∈ lw_privs_2, lw_okq q := List.forall_mem_cons.mpr ⟨lw_p16, List.forall_mem_cons.mpr ⟨lw_p17, List.forall_mem_cons.mpr ⟨lw_p18, List.forall_mem_cons.mpr ⟨lw_p19, List.forall_mem_cons.mpr ⟨lw_p20, List.forall_mem_cons.mpr ⟨lw_p21, fun _ h => absurd h List.not_mem_nil⟩⟩⟩⟩⟩⟩
def lw_privs : List (MethodName × Nat) := lw_privs_1 ++ (lw_privs_2)
def lw_tbl : List Cond := k2_sels lw_privs ++ tables_1
theorem lw_privs_ok : ∀ q ∈ lw_privs, lw_okq q := by
  show ∀ q ∈ lw_privs_1 ++ (lw_privs_2), lw_okq q
  exact List.forall_mem_append.mpr ⟨lw_r1, lw_r2⟩
end
section
/-! NAMES: classes, fields, methods, words by their places in the tables (laid by program) -/
def tbG : List Cond := lw_tbl.filter goodWord
def RX0 : String := "ModelDesk$Model"
def TX0 : u_T := fun k => match k with
  | 0 => ("ModelDesk$Model", "names", "[I", true)
  | 1 => ("ModelDesk$Model", "nexts", "[J", true)
  | 2 => ("ModelDesk$Model", "places", "I", false)
  | 3 => ("ModelDesk$Model", "firsts", "J", false)
  | 4 => ("ModelDesk$Model", "lasts", "J", false)
  | _ => ("ModelDesk$Model", "empty", "Z", false)
def tyX0 : Nat → FieldType := fun k => match k with
  | 0 => .array .int
  | 1 => .array .long
  | 2 => .int
  | 3 => .long
  | 4 => .long
  | _ => .boolean
theorem nmX0 : ∀ a, a < 6 → ∀ b, b < 6 → a ≠ b → (TX0 a).2.1 ≠ (TX0 b).2.1 := by decide +kernel
theorem tyX0_ok : ∀ k, k < 6 → parseFieldDescriptor (TX0 k).2.2.1 = some (tyX0 k) := by decide +kernel
def RX1 : String := "ModelDesk$Reader"
def TX1 : u_T := fun k => match k with
  | 0 => ("ModelDesk$Reader", "model", "LModelDesk$Model;", true)
  | 1 => ("ModelDesk$Reader", "openFirsts", "[J", true)
  | 2 => ("ModelDesk$Reader", "openLasts", "[J", true)
  | 3 => ("ModelDesk$Reader", "openEmpty", "[Z", true)
  | 4 => ("ModelDesk$Reader", "separators", "[I", true)
  | 5 => ("ModelDesk$Reader", "depth", "I", false)
  | 6 => ("ModelDesk$Reader", "state", "I", false)
  | 7 => ("ModelDesk$Reader", "partFirsts", "J", false)
  | 8 => ("ModelDesk$Reader", "partLasts", "J", false)
  | _ => ("ModelDesk$Reader", "partEmpty", "Z", false)
def tyX1 : Nat → FieldType := fun k => match k with
  | 0 => .object "ModelDesk$Model"
  | 1 => .array .long
  | 2 => .array .long
  | 3 => .array .boolean
  | 4 => .array .int
  | 5 => .int
  | 6 => .int
  | 7 => .long
  | 8 => .long
  | _ => .boolean
theorem nmX1 : ∀ a, a < 10 → ∀ b, b < 10 → a ≠ b → (TX1 a).2.1 ≠ (TX1 b).2.1 := by decide +kernel
theorem tyX1_ok : ∀ k, k < 10 → parseFieldDescriptor (TX1 k).2.2.1 = some (tyX1 k) := by decide +kernel
def RX2 : String := "ModelDesk"
def TX2 : u_T := fun k => match k with
  | 0 => ("ModelDesk", "text", "[B", true)
  | 1 => ("ModelDesk", "length", "I", false)
  | 2 => ("ModelDesk", "reader", "LModelDesk$Reader;", true)
  | 3 => ("ModelDesk", "model", "LModelDesk$Model;", true)
  | 4 => ("ModelDesk", "ready", "J", false)
  | 5 => ("ModelDesk", "whole", "Z", false)
  | _ => ("ModelDesk", "came", "I", false)
def tyX2 : Nat → FieldType := fun k => match k with
  | 0 => .array .byte
  | 1 => .int
  | 2 => .object "ModelDesk$Reader"
  | 3 => .object "ModelDesk$Model"
  | 4 => .long
  | 5 => .boolean
  | _ => .int
theorem nmX2 : ∀ a, a < 7 → ∀ b, b < 7 → a ≠ b → (TX2 a).2.1 ≠ (TX2 b).2.1 := by decide +kernel
theorem tyX2_ok : ∀ k, k < 7 → parseFieldDescriptor (TX2 k).2.2.1 = some (tyX2 k) := by decide +kernel
def RX3 : String := "ModelDeskModel"
def TX3 : u_T := fun k => match k with
  | 0 => ("ModelDeskModel", "text", "[I", true)
  | 1 => ("ModelDeskModel", "size", "I", false)
  | 2 => ("ModelDeskModel", "nodes", "I", false)
  | 3 => ("ModelDeskModel", "kinds", "[I", true)
  | 4 => ("ModelDeskModel", "parents", "[I", true)
  | 5 => ("ModelDeskModel", "before", "[I", true)
  | 6 => ("ModelDeskModel", "after", "[I", true)
  | 7 => ("ModelDeskModel", "missing", "[Z", true)
  | 8 => ("ModelDeskModel", "places", "I", false)
  | 9 => ("ModelDeskModel", "leaf", "[I", true)
  | 10 => ("ModelDeskModel", "names", "[I", true)
  | 11 => ("ModelDeskModel", "isModel", "Z", false)
  | 12 => ("ModelDeskModel", "depth", "I", false)
  | 13 => ("ModelDeskModel", "lasts", "[I", true)
  | 14 => ("ModelDeskModel", "sorts", "[I", true)
  | 15 => ("ModelDeskModel", "root", "I", false)
  | 16 => ("ModelDeskModel", "came", "I", false)
  | _ => ("ModelDeskModel", "now", "J", false)
def tyX3 : Nat → FieldType := fun k => match k with
  | 0 => .array .int
  | 1 => .int
  | 2 => .int
  | 3 => .array .int
  | 4 => .array .int
  | 5 => .array .int
  | 6 => .array .int
  | 7 => .array .boolean
  | 8 => .int
  | 9 => .array .int
  | 10 => .array .int
  | 11 => .boolean
  | 12 => .int
  | 13 => .array .int
  | 14 => .array .int
  | 15 => .int
  | 16 => .int
  | _ => .long
theorem nmX3 : ∀ a, a < 18 → ∀ b, b < 18 → a ≠ b → (TX3 a).2.1 ≠ (TX3 b).2.1 := by decide +kernel
theorem tyX3_ok : ∀ k, k < 18 → parseFieldDescriptor (TX3 k).2.2.1 = some (tyX3 k) := by decide +kernel
abbrev vwCl : List vw_C := [(RX0, TX0, 6), (RX1, TX1, 10), (RX2, TX2, 7), (RX3, TX3, 18)]
abbrev cX0_init : ByteArray := prog_2_method_1_code
def yX0_init : MethodName := ⟨RX0, "<init>", "()V"⟩
abbrev wsX0_init : List Cond := .code yX0_init cX0_init 1 none :: tbG
abbrev cX0_clear : ByteArray := prog_2_method_2_code
def yX0_clear : MethodName := ⟨RX0, "clear", "()V"⟩
abbrev wsX0_clear : List Cond := .code yX0_clear cX0_clear 1 none :: tbG
abbrev cX0_isFull : ByteArray := prog_2_method_3_code
def yX0_isFull : MethodName := ⟨RX0, "isFull", "()Z"⟩
abbrev wsX0_isFull : List Cond := .code yX0_isFull cX0_isFull 1 (some .boolean) :: tbG
abbrev cX0_addPlace : ByteArray := prog_2_method_5_code
def yX0_addPlace : MethodName := ⟨RX0, "addPlace", "(I)V"⟩
abbrev wsX0_addPlace : List Cond := .code yX0_addPlace cX0_addPlace 2 none :: tbG
abbrev cX0_connect : ByteArray := prog_2_method_6_code
def yX0_connect : MethodName := ⟨RX0, "connect", "(JJ)V"⟩
abbrev wsX0_connect : List Cond := .code yX0_connect cX0_connect 6 none :: tbG
abbrev cX0_holds : ByteArray := prog_2_method_12_code
def yX0_holds : MethodName := ⟨RX0, "holds", "(JI)Z"⟩
abbrev wsX0_holds : List Cond := .code yX0_holds cX0_holds 3 (some .boolean) :: tbG
abbrev cX0_competingNames : ByteArray := prog_2_method_10_code
def yX0_competingNames : MethodName := ⟨RX0, "competingNames", "()I"⟩
abbrev wsX0_competingNames : List Cond := .code yX0_competingNames cX0_competingNames 3 (some .int) :: tbG
abbrev cX0_namesTwiceIn : ByteArray := prog_2_method_11_code
def yX0_namesTwiceIn : MethodName := ⟨RX0, "namesTwiceIn", "(J)I"⟩
abbrev wsX0_namesTwiceIn : List Cond := .code yX0_namesTwiceIn cX0_namesTwiceIn 7 (some .int) :: tbG
abbrev cX0_has : ByteArray := prog_2_method_4_code
def yX0_has : MethodName := ⟨RX0, "has", "(I)Z"⟩
abbrev wsX0_has : List Cond := .code yX0_has cX0_has 2 (some .boolean) :: tbG
abbrev cX0_placesNamed : ByteArray := prog_2_method_8_code
def yX0_placesNamed : MethodName := ⟨RX0, "placesNamed", "(IJ)J"⟩
abbrev wsX0_placesNamed : List Cond := .code yX0_placesNamed cX0_placesNamed 7 (some .long) :: tbG
abbrev cX0_nextBehindAny : ByteArray := prog_2_method_7_code
def yX0_nextBehindAny : MethodName := ⟨RX0, "nextBehindAny", "(J)J"⟩
abbrev wsX0_nextBehindAny : List Cond := .code yX0_nextBehindAny cX0_nextBehindAny 6 (some .long) :: tbG
abbrev cX0_namesOf : ByteArray := prog_2_method_9_code
def yX0_namesOf : MethodName := ⟨RX0, "namesOf", "(J)I"⟩
abbrev wsX0_namesOf : List Cond := .code yX0_namesOf cX0_namesOf 5 (some .int) :: tbG
abbrev cX1_init : ByteArray := prog_3_method_1_code
def yX1_init : MethodName := ⟨RX1, "<init>", "()V"⟩
abbrev wsX1_init : List Cond := .code yX1_init cX1_init 1 none :: tbG
abbrev cX1_begin : ByteArray := prog_3_method_2_code
def yX1_begin : MethodName := ⟨RX1, "begin", "()V"⟩
abbrev wsX1_begin : List Cond := .code yX1_begin cX1_begin 1 none :: tbG
abbrev cX1_take : ByteArray := prog_3_method_3_code
def yX1_take : MethodName := ⟨RX1, "take", "(I)I"⟩
abbrev wsX1_take : List Cond := .code yX1_take cX1_take 2 (some .int) :: tbG
abbrev cX1_open : ByteArray := prog_3_method_6_code
def yX1_open : MethodName := ⟨RX1, "open", "()I"⟩
abbrev wsX1_open : List Cond := .code yX1_open cX1_open 1 (some .int) :: tbG
abbrev cX1_takeBeforePart : ByteArray := prog_3_method_5_code
def yX1_takeBeforePart : MethodName := ⟨RX1, "takeBeforePart", "(I)I"⟩
abbrev wsX1_takeBeforePart : List Cond := .code yX1_takeBeforePart cX1_takeBeforePart 2 (some .int) :: tbG
abbrev cX1_takeName : ByteArray := prog_3_method_7_code
def yX1_takeName : MethodName := ⟨RX1, "takeName", "(I)I"⟩
abbrev wsX1_takeName : List Cond := .code yX1_takeName cX1_takeName 2 (some .int) :: tbG
abbrev cX1_isSign : ByteArray := prog_3_method_12_code
def yX1_isSign : MethodName := ⟨RX1, "isSign", "(I)Z"⟩
abbrev wsX1_isSign : List Cond := .code yX1_isSign cX1_isSign 1 (some .boolean) :: tbG
abbrev cX1_takeSign : ByteArray := prog_3_method_8_code
def yX1_takeSign : MethodName := ⟨RX1, "takeSign", "(I)I"⟩
abbrev wsX1_takeSign : List Cond := .code yX1_takeSign cX1_takeSign 2 (some .int) :: tbG
abbrev cX1_close : ByteArray := prog_3_method_10_code
def yX1_close : MethodName := ⟨RX1, "close", "()I"⟩
abbrev wsX1_close : List Cond := .code yX1_close cX1_close 2 (some .int) :: tbG
abbrev cX1_joinPart : ByteArray := prog_3_method_11_code
def yX1_joinPart : MethodName := ⟨RX1, "joinPart", "(I)V"⟩
abbrev wsX1_joinPart : List Cond := .code yX1_joinPart cX1_joinPart 2 none :: tbG
abbrev cX1_takeSeparator : ByteArray := prog_3_method_9_code
def yX1_takeSeparator : MethodName := ⟨RX1, "takeSeparator", "(I)I"⟩
abbrev wsX1_takeSeparator : List Cond := .code yX1_takeSeparator cX1_takeSeparator 3 (some .int) :: tbG
abbrev cX1_finish : ByteArray := prog_3_method_4_code
def yX1_finish : MethodName := ⟨RX1, "finish", "()Z"⟩
abbrev wsX1_finish : List Cond := .code yX1_finish cX1_finish 1 (some .boolean) :: tbG
abbrev cX2_init : ByteArray := prog_1_method_1_code
def yX2_init : MethodName := ⟨RX2, "<init>", "()V"⟩
abbrev wsX2_init : List Cond := .code yX2_init cX2_init 1 none :: tbG
abbrev cX2_put : ByteArray := prog_1_method_2_code
def yX2_put : MethodName := ⟨RX2, "put", "(JI)Z"⟩
abbrev wsX2_put : List Cond := .code yX2_put cX2_put 5 (some .boolean) :: tbG
abbrev cX2_read : ByteArray := prog_1_method_3_code
def yX2_read : MethodName := ⟨RX2, "read", "()I"⟩
abbrev wsX2_read : List Cond := .code yX2_read cX2_read 2 (some .int) :: tbG
abbrev cX2_readText : ByteArray := prog_1_method_15_code
def yX2_readText : MethodName := ⟨RX2, "readText", "()I"⟩
abbrev wsX2_readText : List Cond := .code yX2_readText cX2_readText 3 (some .int) :: tbG
abbrev cX2_startRow : ByteArray := prog_1_method_16_code
def yX2_startRow : MethodName := ⟨RX2, "startRow", "()V"⟩
abbrev wsX2_startRow : List Cond := .code yX2_startRow cX2_startRow 1 none :: tbG
abbrev cX2_isClear : ByteArray := prog_1_method_4_code
def yX2_isClear : MethodName := ⟨RX2, "isClear", "()Z"⟩
abbrev wsX2_isClear : List Cond := .code yX2_isClear cX2_isClear 1 (some .boolean) :: tbG
abbrev cX2_competing : ByteArray := prog_1_method_5_code
def yX2_competing : MethodName := ⟨RX2, "competing", "()I"⟩
abbrev wsX2_competing : List Cond := .code yX2_competing cX2_competing 1 (some .int) :: tbG
abbrev cX2_isEmpty : ByteArray := prog_1_method_6_code
def yX2_isEmpty : MethodName := ⟨RX2, "isEmpty", "()Z"⟩
abbrev wsX2_isEmpty : List Cond := .code yX2_isEmpty cX2_isEmpty 1 (some .boolean) :: tbG
abbrev cX2_first : ByteArray := prog_1_method_7_code
def yX2_first : MethodName := ⟨RX2, "first", "()J"⟩
abbrev wsX2_first : List Cond := .code yX2_first cX2_first 1 (some .long) :: tbG
abbrev cX2_next : ByteArray := prog_1_method_8_code
def yX2_next : MethodName := ⟨RX2, "next", "(I)J"⟩
abbrev wsX2_next : List Cond := .code yX2_next cX2_next 2 (some .long) :: tbG
abbrev cX2_last : ByteArray := prog_1_method_9_code
def yX2_last : MethodName := ⟨RX2, "last", "()J"⟩
abbrev wsX2_last : List Cond := .code yX2_last cX2_last 1 (some .long) :: tbG
abbrev cX2_name : ByteArray := prog_1_method_10_code
def yX2_name : MethodName := ⟨RX2, "name", "(I)I"⟩
abbrev wsX2_name : List Cond := .code yX2_name cX2_name 2 (some .int) :: tbG
abbrev cX2_come : ByteArray := prog_1_method_11_code
def yX2_come : MethodName := ⟨RX2, "come", "(I)Z"⟩
abbrev wsX2_come : List Cond := .code yX2_come cX2_come 4 (some .boolean) :: tbG
abbrev cX2_isWhole : ByteArray := prog_1_method_12_code
def yX2_isWhole : MethodName := ⟨RX2, "isWhole", "()Z"⟩
abbrev wsX2_isWhole : List Cond := .code yX2_isWhole cX2_isWhole 1 (some .boolean) :: tbG
abbrev cX2_may : ByteArray := prog_1_method_13_code
def yX2_may : MethodName := ⟨RX2, "may", "()I"⟩
abbrev wsX2_may : List Cond := .code yX2_may cX2_may 1 (some .int) :: tbG
abbrev cX2_again : ByteArray := prog_1_method_14_code
def yX2_again : MethodName := ⟨RX2, "again", "()I"⟩
abbrev wsX2_again : List Cond := .code yX2_again cX2_again 2 (some .int) :: tbG
abbrev cX3_init : ByteArray := prog_5_method_1_code
def yX3_init : MethodName := ⟨RX3, "<init>", "()V"⟩
abbrev wsX3_init : List Cond := .code yX3_init cX3_init 1 none :: tbG
abbrev cX3_put : ByteArray := prog_5_method_2_code
def yX3_put : MethodName := ⟨RX3, "put", "(JI)Z"⟩
abbrev wsX3_put : List Cond := .code yX3_put cX3_put 5 (some .boolean) :: tbG
abbrev cX3_read : ByteArray := prog_5_method_11_code
def yX3_read : MethodName := ⟨RX3, "read", "()I"⟩
abbrev wsX3_read : List Cond := .code yX3_read cX3_read 2 (some .int) :: tbG
abbrev cX3_parse : ByteArray := prog_5_method_10_code
def yX3_parse : MethodName := ⟨RX3, "parse", "()I"⟩
abbrev wsX3_parse : List Cond := .code yX3_parse cX3_parse 5 (some .int) :: tbG
abbrev cX3_at : ByteArray := prog_5_method_3_code
def yX3_at : MethodName := ⟨RX3, "at", "(I)I"⟩
abbrev wsX3_at : List Cond := .code yX3_at cX3_at 2 (some .int) :: tbG
abbrev cX3_open : ByteArray := prog_5_method_9_code
def yX3_open : MethodName := ⟨RX3, "open", "()Z"⟩
abbrev wsX3_open : List Cond := .code yX3_open cX3_open 1 (some .boolean) :: tbG
abbrev cX3_node : ByteArray := prog_5_method_4_code
def yX3_node : MethodName := ⟨RX3, "node", "(I)I"⟩
abbrev wsX3_node : List Cond := .code yX3_node cX3_node 2 (some .int) :: tbG
abbrev cX3_isSign : ByteArray := prog_5_method_7_code
def yX3_isSign : MethodName := ⟨RX3, "isSign", "(I)Z"⟩
abbrev wsX3_isSign : List Cond := .code yX3_isSign cX3_isSign 1 (some .boolean) :: tbG
abbrev cX3_signed : ByteArray := prog_5_method_6_code
def yX3_signed : MethodName := ⟨RX3, "signed", "(II)I"⟩
abbrev wsX3_signed : List Cond := .code yX3_signed cX3_signed 4 (some .int) :: tbG
abbrev cX3_add : ByteArray := prog_5_method_5_code
def yX3_add : MethodName := ⟨RX3, "add", "(I)V"⟩
abbrev wsX3_add : List Cond := .code yX3_add cX3_add 3 none :: tbG
abbrev cX3_close : ByteArray := prog_5_method_8_code
def yX3_close : MethodName := ⟨RX3, "close", "()I"⟩
abbrev wsX3_close : List Cond := .code yX3_close cX3_close 5 (some .int) :: tbG
abbrev cX3_first : ByteArray := prog_5_method_15_code
def yX3_first : MethodName := ⟨RX3, "first", "()J"⟩
abbrev wsX3_first : List Cond := .code yX3_first cX3_first 1 (some .long) :: tbG
abbrev cX3_firsts : ByteArray := prog_5_method_13_code
def yX3_firsts : MethodName := ⟨RX3, "firsts", "(I)J"⟩
abbrev wsX3_firsts : List Cond := .code yX3_firsts cX3_firsts 5 (some .long) :: tbG
abbrev cX3_begins : ByteArray := prog_5_method_12_code
def yX3_begins : MethodName := ⟨RX3, "begins", "(II)Z"⟩
abbrev wsX3_begins : List Cond := .code yX3_begins cX3_begins 6 (some .boolean) :: tbG
abbrev cX3_next : ByteArray := prog_5_method_16_code
def yX3_next : MethodName := ⟨RX3, "next", "(I)J"⟩
abbrev wsX3_next : List Cond := .code yX3_next cX3_next 7 (some .long) :: tbG
abbrev cX3_last : ByteArray := prog_5_method_17_code
def yX3_last : MethodName := ⟨RX3, "last", "()J"⟩
abbrev wsX3_last : List Cond := .code yX3_last cX3_last 4 (some .long) :: tbG
abbrev cX3_ends : ByteArray := prog_5_method_14_code
def yX3_ends : MethodName := ⟨RX3, "ends", "(I)Z"⟩
abbrev wsX3_ends : List Cond := .code yX3_ends cX3_ends 4 (some .boolean) :: tbG
abbrev cX3_competing : ByteArray := prog_5_method_19_code
def yX3_competing : MethodName := ⟨RX3, "competing", "()I"⟩
abbrev wsX3_competing : List Cond := .code yX3_competing cX3_competing 3 (some .int) :: tbG
abbrev cX3_twice : ByteArray := prog_5_method_18_code
def yX3_twice : MethodName := ⟨RX3, "twice", "(J)I"⟩
abbrev wsX3_twice : List Cond := .code yX3_twice cX3_twice 7 (some .int) :: tbG
abbrev cX3_isClear : ByteArray := prog_5_method_20_code
def yX3_isClear : MethodName := ⟨RX3, "isClear", "()Z"⟩
abbrev wsX3_isClear : List Cond := .code yX3_isClear cX3_isClear 1 (some .boolean) :: tbG
abbrev cX3_isEmpty : ByteArray := prog_5_method_21_code
def yX3_isEmpty : MethodName := ⟨RX3, "isEmpty", "()Z"⟩
abbrev wsX3_isEmpty : List Cond := .code yX3_isEmpty cX3_isEmpty 1 (some .boolean) :: tbG
abbrev cX3_name : ByteArray := prog_5_method_22_code
def yX3_name : MethodName := ⟨RX3, "name", "(I)I"⟩
abbrev wsX3_name : List Cond := .code yX3_name cX3_name 2 (some .int) :: tbG
abbrev cX3_come : ByteArray := prog_5_method_24_code
def yX3_come : MethodName := ⟨RX3, "come", "(I)Z"⟩
abbrev wsX3_come : List Cond := .code yX3_come cX3_come 7 (some .boolean) :: tbG
abbrev cX3_able : ByteArray := prog_5_method_23_code
def yX3_able : MethodName := ⟨RX3, "able", "(J)J"⟩
abbrev wsX3_able : List Cond := .code yX3_able cX3_able 6 (some .long) :: tbG
abbrev cX3_isWhole : ByteArray := prog_5_method_25_code
def yX3_isWhole : MethodName := ⟨RX3, "isWhole", "()Z"⟩
abbrev wsX3_isWhole : List Cond := .code yX3_isWhole cX3_isWhole 1 (some .boolean) :: tbG
abbrev cX3_may : ByteArray := prog_5_method_26_code
def yX3_may : MethodName := ⟨RX3, "may", "()I"⟩
abbrev wsX3_may : List Cond := .code yX3_may cX3_may 5 (some .int) :: tbG
abbrev cX3_again : ByteArray := prog_5_method_27_code
def yX3_again : MethodName := ⟨RX3, "again", "()I"⟩
abbrev wsX3_again : List Cond := .code yX3_again cX3_again 2 (some .int) :: tbG
def RL : String := "ModelDeskLaw"
theorem lw_gd {w : Cond} (h : w ∈ tbG) : (w.onTables && w.keeps) = true ∨ ∃ ty, w = .arrayClass ty := good_of_word (List.mem_filter.mp h).2
theorem lw_in {x : Cond} : ∀ w ∈ tbG, w ∈ x :: tbG := fun _ h => List.mem_cons_of_mem _ h
theorem lw_sub : ∀ w ∈ tbG, w ∈ lw_tbl := fun _ h => (List.mem_filter.mp h).1
theorem gW {big : List Cond} (hb : ∀ w ∈ tbG, w ∈ big) {y : MethodName} {b : ByteArray} {n : Nat} {r : Option FieldType} (h5 : Cond.code y b n r ∈ tbG) : GoodIn big (Cond.code y b n r :: tbG) := fun w hw => by
  have h : w ∈ tbG := by
    rcases List.mem_cons.mp hw with rfl | h
    · exact h5
    · exact h
  exact ⟨hb w h, lw_gd h⟩
theorem gV {big : List Cond} (hb : ∀ w ∈ tbG, w ∈ big) {own C : String} {idx : Nat} {y : MethodName} {b : ByteArray} {n : Nat} {r : Option FieldType} (h1 : Cond.methodLink own idx y ∈ tbG) (h2 : Cond.instanceMethod y ∈ tbG) (h3 : Cond.selects C y y ∈ tbG) (h4 : Cond.initialized C ∈ tbG) (h5 : Cond.code y b n r ∈ tbG) : GoodIn big (wsV own idx C y (Cond.code y b n r :: tbG)) := fun w hw => by
  unfold wsV at hw
  rcases List.mem_append.mp hw with h | h
  · have h : w ∈ tbG := by
      simp only [List.mem_cons, List.not_mem_nil, or_false] at h
      rcases h with rfl | rfl | rfl | rfl
      · exact h1
      · exact h2
      · exact h3
      · exact h4
    exact ⟨hb w h, lw_gd h⟩
  · exact gW hb h5 w h
theorem gS {big : List Cond} (hb : ∀ w ∈ tbG, w ∈ big) {own : String} {idx : Nat} {y : MethodName} {b : ByteArray} {n : Nat} {r : Option FieldType} (h1 : Cond.methodLink own idx y ∈ tbG) (h2 : Cond.static y ∈ tbG) (h3 : Cond.initialized own ∈ tbG) (h5 : Cond.code y b n r ∈ tbG) : GoodIn big (wsS own idx y (Cond.code y b n r :: tbG)) := fun w hw => by
  unfold wsS at hw
  rcases List.mem_append.mp hw with h | h
  · have h : w ∈ tbG := by
      simp only [List.mem_cons, List.not_mem_nil, or_false] at h
      rcases h with rfl | rfl | rfl
      · exact h1
      · exact h2
      · exact h3
    exact ⟨hb w h, lw_gd h⟩
  · exact gW hb h5 w h
theorem t_0 : (Jvm.Cond.selects "ModelDesk" ({ cls := "ModelDesk", name := "readText", desc := "()I" } : Jvm.MethodName) ({ cls := "ModelDesk", name := "readText", desc := "()I" } : Jvm.MethodName)) ∈ tbG := List.mem_filter.mpr ⟨List.mem_of_getElem? (i := 0) (by decide +kernel), by decide +kernel⟩
theorem t_1 : (Jvm.Cond.selects "ModelDesk$Reader" ({ cls := "ModelDesk$Reader", name := "open", desc := "()I" } : Jvm.MethodName) ({ cls := "ModelDesk$Reader", name := "open", desc := "()I" } : Jvm.MethodName)) ∈ tbG := List.mem_filter.mpr ⟨List.mem_of_getElem? (i := 1) (by decide +kernel), by decide +kernel⟩
theorem t_2 : (Jvm.Cond.selects "ModelDesk$Reader" ({ cls := "ModelDesk$Reader", name := "takeBeforePart", desc := "(I)I" } : Jvm.MethodName) ({ cls := "ModelDesk$Reader", name := "takeBeforePart", desc := "(I)I" } : Jvm.MethodName)) ∈ tbG := List.mem_filter.mpr ⟨List.mem_of_getElem? (i := 2) (by decide +kernel), by decide +kernel⟩
theorem t_3 : (Jvm.Cond.selects "ModelDesk$Reader" ({ cls := "ModelDesk$Reader", name := "takeName", desc := "(I)I" } : Jvm.MethodName) ({ cls := "ModelDesk$Reader", name := "takeName", desc := "(I)I" } : Jvm.MethodName)) ∈ tbG := List.mem_filter.mpr ⟨List.mem_of_getElem? (i := 3) (by decide +kernel), by decide +kernel⟩
theorem t_4 : (Jvm.Cond.selects "ModelDesk$Reader" ({ cls := "ModelDesk$Reader", name := "takeSign", desc := "(I)I" } : Jvm.MethodName) ({ cls := "ModelDesk$Reader", name := "takeSign", desc := "(I)I" } : Jvm.MethodName)) ∈ tbG := List.mem_filter.mpr ⟨List.mem_of_getElem? (i := 4) (by decide +kernel), by decide +kernel⟩
theorem t_5 : (Jvm.Cond.selects "ModelDesk$Reader" ({ cls := "ModelDesk$Reader", name := "close", desc := "()I" } : Jvm.MethodName) ({ cls := "ModelDesk$Reader", name := "close", desc := "()I" } : Jvm.MethodName)) ∈ tbG := List.mem_filter.mpr ⟨List.mem_of_getElem? (i := 5) (by decide +kernel), by decide +kernel⟩
theorem t_6 : (Jvm.Cond.selects "ModelDesk$Reader" ({ cls := "ModelDesk$Reader", name := "joinPart", desc := "(I)V" } : Jvm.MethodName) ({ cls := "ModelDesk$Reader", name := "joinPart", desc := "(I)V" } : Jvm.MethodName)) ∈ tbG := List.mem_filter.mpr ⟨List.mem_of_getElem? (i := 6) (by decide +kernel), by decide +kernel⟩
theorem t_7 : (Jvm.Cond.selects "ModelDesk$Reader" ({ cls := "ModelDesk$Reader", name := "takeSeparator", desc := "(I)I" } : Jvm.MethodName) ({ cls := "ModelDesk$Reader", name := "takeSeparator", desc := "(I)I" } : Jvm.MethodName)) ∈ tbG := List.mem_filter.mpr ⟨List.mem_of_getElem? (i := 7) (by decide +kernel), by decide +kernel⟩
theorem t_8 : (Jvm.Cond.selects "ModelDesk" ({ cls := "ModelDesk", name := "startRow", desc := "()V" } : Jvm.MethodName) ({ cls := "ModelDesk", name := "startRow", desc := "()V" } : Jvm.MethodName)) ∈ tbG := List.mem_filter.mpr ⟨List.mem_of_getElem? (i := 8) (by decide +kernel), by decide +kernel⟩
theorem t_9 : (Jvm.Cond.selects "ModelDesk$Model" ({ cls := "ModelDesk$Model", name := "namesTwiceIn", desc := "(J)I" } : Jvm.MethodName) ({ cls := "ModelDesk$Model", name := "namesTwiceIn", desc := "(J)I" } : Jvm.MethodName)) ∈ tbG := List.mem_filter.mpr ⟨List.mem_of_getElem? (i := 9) (by decide +kernel), by decide +kernel⟩
theorem t_10 : (Jvm.Cond.selects "ModelDeskModel" ({ cls := "ModelDeskModel", name := "parse", desc := "()I" } : Jvm.MethodName) ({ cls := "ModelDeskModel", name := "parse", desc := "()I" } : Jvm.MethodName)) ∈ tbG := List.mem_filter.mpr ⟨List.mem_of_getElem? (i := 10) (by decide +kernel), by decide +kernel⟩
theorem t_11 : (Jvm.Cond.selects "ModelDeskModel" ({ cls := "ModelDeskModel", name := "at", desc := "(I)I" } : Jvm.MethodName) ({ cls := "ModelDeskModel", name := "at", desc := "(I)I" } : Jvm.MethodName)) ∈ tbG := List.mem_filter.mpr ⟨List.mem_of_getElem? (i := 11) (by decide +kernel), by decide +kernel⟩
theorem t_12 : (Jvm.Cond.selects "ModelDeskModel" ({ cls := "ModelDeskModel", name := "open", desc := "()Z" } : Jvm.MethodName) ({ cls := "ModelDeskModel", name := "open", desc := "()Z" } : Jvm.MethodName)) ∈ tbG := List.mem_filter.mpr ⟨List.mem_of_getElem? (i := 12) (by decide +kernel), by decide +kernel⟩
theorem t_13 : (Jvm.Cond.selects "ModelDeskModel" ({ cls := "ModelDeskModel", name := "node", desc := "(I)I" } : Jvm.MethodName) ({ cls := "ModelDeskModel", name := "node", desc := "(I)I" } : Jvm.MethodName)) ∈ tbG := List.mem_filter.mpr ⟨List.mem_of_getElem? (i := 13) (by decide +kernel), by decide +kernel⟩
theorem t_14 : (Jvm.Cond.selects "ModelDeskModel" ({ cls := "ModelDeskModel", name := "signed", desc := "(II)I" } : Jvm.MethodName) ({ cls := "ModelDeskModel", name := "signed", desc := "(II)I" } : Jvm.MethodName)) ∈ tbG := List.mem_filter.mpr ⟨List.mem_of_getElem? (i := 14) (by decide +kernel), by decide +kernel⟩
theorem t_15 : (Jvm.Cond.selects "ModelDeskModel" ({ cls := "ModelDeskModel", name := "add", desc := "(I)V" } : Jvm.MethodName) ({ cls := "ModelDeskModel", name := "add", desc := "(I)V" } : Jvm.MethodName)) ∈ tbG := List.mem_filter.mpr ⟨List.mem_of_getElem? (i := 15) (by decide +kernel), by decide +kernel⟩
theorem t_16 : (Jvm.Cond.selects "ModelDeskModel" ({ cls := "ModelDeskModel", name := "close", desc := "()I" } : Jvm.MethodName) ({ cls := "ModelDeskModel", name := "close", desc := "()I" } : Jvm.MethodName)) ∈ tbG := List.mem_filter.mpr ⟨List.mem_of_getElem? (i := 16) (by decide +kernel), by decide +kernel⟩
theorem t_17 : (Jvm.Cond.selects "ModelDeskModel" ({ cls := "ModelDeskModel", name := "firsts", desc := "(I)J" } : Jvm.MethodName) ({ cls := "ModelDeskModel", name := "firsts", desc := "(I)J" } : Jvm.MethodName)) ∈ tbG := List.mem_filter.mpr ⟨List.mem_of_getElem? (i := 17) (by decide +kernel), by decide +kernel⟩
theorem t_18 : (Jvm.Cond.selects "ModelDeskModel" ({ cls := "ModelDeskModel", name := "begins", desc := "(II)Z" } : Jvm.MethodName) ({ cls := "ModelDeskModel", name := "begins", desc := "(II)Z" } : Jvm.MethodName)) ∈ tbG := List.mem_filter.mpr ⟨List.mem_of_getElem? (i := 18) (by decide +kernel), by decide +kernel⟩
theorem t_19 : (Jvm.Cond.selects "ModelDeskModel" ({ cls := "ModelDeskModel", name := "ends", desc := "(I)Z" } : Jvm.MethodName) ({ cls := "ModelDeskModel", name := "ends", desc := "(I)Z" } : Jvm.MethodName)) ∈ tbG := List.mem_filter.mpr ⟨List.mem_of_getElem? (i := 19) (by decide +kernel), by decide +kernel⟩
theorem t_20 : (Jvm.Cond.selects "ModelDeskModel" ({ cls := "ModelDeskModel", name := "twice", desc := "(J)I" } : Jvm.MethodName) ({ cls := "ModelDeskModel", name := "twice", desc := "(J)I" } : Jvm.MethodName)) ∈ tbG := List.mem_filter.mpr ⟨List.mem_of_getElem? (i := 20) (by decide +kernel), by decide +kernel⟩
theorem t_21 : (Jvm.Cond.selects "ModelDeskModel" ({ cls := "ModelDeskModel", name := "able", desc := "(J)J" } : Jvm.MethodName) ({ cls := "ModelDeskModel", name := "able", desc := "(J)J" } : Jvm.MethodName)) ∈ tbG := List.mem_filter.mpr ⟨List.mem_of_getElem? (i := 21) (by decide +kernel), by decide +kernel⟩
theorem t_22 : (Jvm.Cond.initialized "ModelDeskLaw") ∈ tbG := List.mem_filter.mpr ⟨List.mem_of_getElem? (i := 22) (by decide +kernel), by decide +kernel⟩
theorem t_23 : (Jvm.Cond.initialized "ModelDesk") ∈ tbG := List.mem_filter.mpr ⟨List.mem_of_getElem? (i := 23) (by decide +kernel), by decide +kernel⟩
theorem t_24 : (Jvm.Cond.initialized "ModelDesk$Reader") ∈ tbG := List.mem_filter.mpr ⟨List.mem_of_getElem? (i := 24) (by decide +kernel), by decide +kernel⟩
theorem t_25 : (Jvm.Cond.initialized "ModelDesk$Model") ∈ tbG := List.mem_filter.mpr ⟨List.mem_of_getElem? (i := 25) (by decide +kernel), by decide +kernel⟩
theorem t_26 : (Jvm.Cond.initialized "ModelDeskModel") ∈ tbG := List.mem_filter.mpr ⟨List.mem_of_getElem? (i := 26) (by decide +kernel), by decide +kernel⟩
theorem t_27 : (Jvm.Cond.classLink "ModelDeskLaw" (7 : Nat) "ModelDesk") ∈ tbG := List.mem_filter.mpr ⟨List.mem_of_getElem? (i := 27) (by decide +kernel), by decide +kernel⟩
theorem t_28 : (Jvm.Cond.instantiable "ModelDesk" (7 : Nat)) ∈ tbG := List.mem_filter.mpr ⟨List.mem_of_getElem? (i := 28) (by decide +kernel), by decide +kernel⟩
theorem t_29 : (Jvm.Cond.methodLink "ModelDeskLaw" (9 : Nat) ({ cls := "ModelDesk", name := "<init>", desc := "()V" } : Jvm.MethodName)) ∈ tbG := List.mem_filter.mpr ⟨List.mem_of_getElem? (i := 29) (by decide +kernel), by decide +kernel⟩
theorem t_30 : (Jvm.Cond.instanceMethod ({ cls := "ModelDesk", name := "<init>", desc := "()V" } : Jvm.MethodName)) ∈ tbG := List.mem_filter.mpr ⟨List.mem_of_getElem? (i := 30) (by decide +kernel), by decide +kernel⟩
theorem t_31 : (Jvm.Cond.code ({ cls := "ModelDesk", name := "<init>", desc := "()V" } : Jvm.MethodName) prog_1_method_1_code (1 : Nat) (Option.none : Option Jvm.ClassFile.FieldType)) ∈ tbG := List.mem_filter.mpr ⟨List.mem_of_getElem? (i := 31) (by decide +kernel), by decide +kernel⟩
theorem t_32 : (Jvm.Cond.methodLink "ModelDesk" (1 : Nat) ({ cls := "java/lang/Object", name := "<init>", desc := "()V" } : Jvm.MethodName)) ∈ tbG := List.mem_filter.mpr ⟨List.mem_of_getElem? (i := 32) (by decide +kernel), by decide +kernel⟩
theorem t_33 : (Jvm.Cond.instanceMethod ({ cls := "java/lang/Object", name := "<init>", desc := "()V" } : Jvm.MethodName)) ∈ tbG := List.mem_filter.mpr ⟨List.mem_of_getElem? (i := 33) (by decide +kernel), by decide +kernel⟩
theorem t_34 : (Jvm.Cond.code ({ cls := "java/lang/Object", name := "<init>", desc := "()V" } : Jvm.MethodName) object_method_1_code (1 : Nat) (Option.none : Option Jvm.ClassFile.FieldType)) ∈ tbG := List.mem_filter.mpr ⟨List.mem_of_getElem? (i := 34) (by decide +kernel), by decide +kernel⟩
theorem t_35 : (Jvm.Cond.classLink "ModelDesk" (13 : Nat) "ModelDesk$Reader") ∈ tbG := List.mem_filter.mpr ⟨List.mem_of_getElem? (i := 35) (by decide +kernel), by decide +kernel⟩
theorem t_36 : (Jvm.Cond.instantiable "ModelDesk$Reader" (10 : Nat)) ∈ tbG := List.mem_filter.mpr ⟨List.mem_of_getElem? (i := 36) (by decide +kernel), by decide +kernel⟩
theorem t_37 : (Jvm.Cond.methodLink "ModelDesk" (15 : Nat) ({ cls := "ModelDesk$Reader", name := "<init>", desc := "()V" } : Jvm.MethodName)) ∈ tbG := List.mem_filter.mpr ⟨List.mem_of_getElem? (i := 37) (by decide +kernel), by decide +kernel⟩
theorem t_38 : (Jvm.Cond.instanceMethod ({ cls := "ModelDesk$Reader", name := "<init>", desc := "()V" } : Jvm.MethodName)) ∈ tbG := List.mem_filter.mpr ⟨List.mem_of_getElem? (i := 38) (by decide +kernel), by decide +kernel⟩
theorem t_39 : (Jvm.Cond.code ({ cls := "ModelDesk$Reader", name := "<init>", desc := "()V" } : Jvm.MethodName) prog_3_method_1_code (1 : Nat) (Option.none : Option Jvm.ClassFile.FieldType)) ∈ tbG := List.mem_filter.mpr ⟨List.mem_of_getElem? (i := 39) (by decide +kernel), by decide +kernel⟩
theorem t_40 : (Jvm.Cond.methodLink "ModelDesk$Reader" (1 : Nat) ({ cls := "java/lang/Object", name := "<init>", desc := "()V" } : Jvm.MethodName)) ∈ tbG := List.mem_filter.mpr ⟨List.mem_of_getElem? (i := 40) (by decide +kernel), by decide +kernel⟩
theorem t_41 : (Jvm.Cond.classLink "ModelDesk$Reader" (7 : Nat) "ModelDesk$Model") ∈ tbG := List.mem_filter.mpr ⟨List.mem_of_getElem? (i := 41) (by decide +kernel), by decide +kernel⟩
theorem t_42 : (Jvm.Cond.instantiable "ModelDesk$Model" (6 : Nat)) ∈ tbG := List.mem_filter.mpr ⟨List.mem_of_getElem? (i := 42) (by decide +kernel), by decide +kernel⟩
theorem t_43 : (Jvm.Cond.methodLink "ModelDesk$Reader" (9 : Nat) ({ cls := "ModelDesk$Model", name := "<init>", desc := "()V" } : Jvm.MethodName)) ∈ tbG := List.mem_filter.mpr ⟨List.mem_of_getElem? (i := 43) (by decide +kernel), by decide +kernel⟩
theorem t_44 : (Jvm.Cond.instanceMethod ({ cls := "ModelDesk$Model", name := "<init>", desc := "()V" } : Jvm.MethodName)) ∈ tbG := List.mem_filter.mpr ⟨List.mem_of_getElem? (i := 44) (by decide +kernel), by decide +kernel⟩
theorem t_45 : (Jvm.Cond.code ({ cls := "ModelDesk$Model", name := "<init>", desc := "()V" } : Jvm.MethodName) prog_2_method_1_code (1 : Nat) (Option.none : Option Jvm.ClassFile.FieldType)) ∈ tbG := List.mem_filter.mpr ⟨List.mem_of_getElem? (i := 45) (by decide +kernel), by decide +kernel⟩
theorem t_46 : (Jvm.Cond.methodLink "ModelDesk$Model" (1 : Nat) ({ cls := "java/lang/Object", name := "<init>", desc := "()V" } : Jvm.MethodName)) ∈ tbG := List.mem_filter.mpr ⟨List.mem_of_getElem? (i := 46) (by decide +kernel), by decide +kernel⟩
theorem t_47 : (Jvm.Cond.fieldLink "ModelDesk$Model" (9 : Nat) "ModelDesk$Model" "names" "[I") ∈ tbG := List.mem_filter.mpr ⟨List.mem_of_getElem? (i := 47) (by decide +kernel), by decide +kernel⟩
theorem t_48 : (Jvm.Cond.fieldLink "ModelDesk" (66 : Nat) "ModelDesk$Model" "names" "[I") ∈ tbG := List.mem_filter.mpr ⟨List.mem_of_getElem? (i := 48) (by decide +kernel), by decide +kernel⟩
theorem t_49 : (Jvm.Cond.fieldLink "ModelDesk$Model" (13 : Nat) "ModelDesk$Model" "nexts" "[J") ∈ tbG := List.mem_filter.mpr ⟨List.mem_of_getElem? (i := 49) (by decide +kernel), by decide +kernel⟩
theorem t_50 : (Jvm.Cond.fieldLink "ModelDesk" (59 : Nat) "ModelDesk$Model" "nexts" "[J") ∈ tbG := List.mem_filter.mpr ⟨List.mem_of_getElem? (i := 50) (by decide +kernel), by decide +kernel⟩
theorem t_51 : (Jvm.Cond.fieldLink "ModelDesk$Model" (17 : Nat) "ModelDesk$Model" "places" "I") ∈ tbG := List.mem_filter.mpr ⟨List.mem_of_getElem? (i := 51) (by decide +kernel), by decide +kernel⟩
theorem t_52 : (Jvm.Cond.fieldLink "ModelDesk" (41 : Nat) "ModelDesk$Model" "places" "I") ∈ tbG := List.mem_filter.mpr ⟨List.mem_of_getElem? (i := 52) (by decide +kernel), by decide +kernel⟩
theorem t_53 : (Jvm.Cond.fieldLink "ModelDesk$Reader" (89 : Nat) "ModelDesk$Model" "places" "I") ∈ tbG := List.mem_filter.mpr ⟨List.mem_of_getElem? (i := 53) (by decide +kernel), by decide +kernel⟩
theorem t_54 : (Jvm.Cond.fieldLink "ModelDesk$Model" (21 : Nat) "ModelDesk$Model" "firsts" "J") ∈ tbG := List.mem_filter.mpr ⟨List.mem_of_getElem? (i := 54) (by decide +kernel), by decide +kernel⟩
theorem t_55 : (Jvm.Cond.fieldLink "ModelDesk$Reader" (66 : Nat) "ModelDesk$Model" "firsts" "J") ∈ tbG := List.mem_filter.mpr ⟨List.mem_of_getElem? (i := 55) (by decide +kernel), by decide +kernel⟩
theorem t_56 : (Jvm.Cond.fieldLink "ModelDesk" (51 : Nat) "ModelDesk$Model" "firsts" "J") ∈ tbG := List.mem_filter.mpr ⟨List.mem_of_getElem? (i := 56) (by decide +kernel), by decide +kernel⟩
theorem t_57 : (Jvm.Cond.fieldLink "ModelDesk$Model" (25 : Nat) "ModelDesk$Model" "lasts" "J") ∈ tbG := List.mem_filter.mpr ⟨List.mem_of_getElem? (i := 57) (by decide +kernel), by decide +kernel⟩
theorem t_58 : (Jvm.Cond.fieldLink "ModelDesk$Reader" (72 : Nat) "ModelDesk$Model" "lasts" "J") ∈ tbG := List.mem_filter.mpr ⟨List.mem_of_getElem? (i := 58) (by decide +kernel), by decide +kernel⟩
theorem t_59 : (Jvm.Cond.fieldLink "ModelDesk" (63 : Nat) "ModelDesk$Model" "lasts" "J") ∈ tbG := List.mem_filter.mpr ⟨List.mem_of_getElem? (i := 59) (by decide +kernel), by decide +kernel⟩
theorem t_60 : (Jvm.Cond.fieldLink "ModelDesk$Model" (28 : Nat) "ModelDesk$Model" "empty" "Z") ∈ tbG := List.mem_filter.mpr ⟨List.mem_of_getElem? (i := 60) (by decide +kernel), by decide +kernel⟩
theorem t_61 : (Jvm.Cond.fieldLink "ModelDesk$Reader" (79 : Nat) "ModelDesk$Model" "empty" "Z") ∈ tbG := List.mem_filter.mpr ⟨List.mem_of_getElem? (i := 61) (by decide +kernel), by decide +kernel⟩
theorem t_62 : (Jvm.Cond.fieldLink "ModelDesk" (47 : Nat) "ModelDesk$Model" "empty" "Z") ∈ tbG := List.mem_filter.mpr ⟨List.mem_of_getElem? (i := 62) (by decide +kernel), by decide +kernel⟩
theorem t_63 : (Jvm.Cond.laysFinal "ModelDesk$Model" "ModelDesk$Model" "names" "[I") ∈ tbG := List.mem_filter.mpr ⟨List.mem_of_getElem? (i := 63) (by decide +kernel), by decide +kernel⟩
theorem t_64 : (Jvm.Cond.soleField "ModelDesk$Model" "names") ∈ tbG := List.mem_filter.mpr ⟨List.mem_of_getElem? (i := 64) (by decide +kernel), by decide +kernel⟩
theorem t_65 : (Jvm.Cond.laysFinal "ModelDesk$Model" "ModelDesk$Model" "nexts" "[J") ∈ tbG := List.mem_filter.mpr ⟨List.mem_of_getElem? (i := 65) (by decide +kernel), by decide +kernel⟩
theorem t_66 : (Jvm.Cond.soleField "ModelDesk$Model" "nexts") ∈ tbG := List.mem_filter.mpr ⟨List.mem_of_getElem? (i := 66) (by decide +kernel), by decide +kernel⟩
theorem t_67 : (Jvm.Cond.lays "ModelDesk$Model" "ModelDesk$Model" "places" "I") ∈ tbG := List.mem_filter.mpr ⟨List.mem_of_getElem? (i := 67) (by decide +kernel), by decide +kernel⟩
theorem t_68 : (Jvm.Cond.soleField "ModelDesk$Model" "places") ∈ tbG := List.mem_filter.mpr ⟨List.mem_of_getElem? (i := 68) (by decide +kernel), by decide +kernel⟩
theorem t_69 : (Jvm.Cond.lays "ModelDesk$Model" "ModelDesk$Model" "firsts" "J") ∈ tbG := List.mem_filter.mpr ⟨List.mem_of_getElem? (i := 69) (by decide +kernel), by decide +kernel⟩
theorem t_70 : (Jvm.Cond.soleField "ModelDesk$Model" "firsts") ∈ tbG := List.mem_filter.mpr ⟨List.mem_of_getElem? (i := 70) (by decide +kernel), by decide +kernel⟩
theorem t_71 : (Jvm.Cond.lays "ModelDesk$Model" "ModelDesk$Model" "lasts" "J") ∈ tbG := List.mem_filter.mpr ⟨List.mem_of_getElem? (i := 71) (by decide +kernel), by decide +kernel⟩
theorem t_72 : (Jvm.Cond.soleField "ModelDesk$Model" "lasts") ∈ tbG := List.mem_filter.mpr ⟨List.mem_of_getElem? (i := 72) (by decide +kernel), by decide +kernel⟩
theorem t_73 : (Jvm.Cond.lays "ModelDesk$Model" "ModelDesk$Model" "empty" "Z") ∈ tbG := List.mem_filter.mpr ⟨List.mem_of_getElem? (i := 73) (by decide +kernel), by decide +kernel⟩
theorem t_74 : (Jvm.Cond.soleField "ModelDesk$Model" "empty") ∈ tbG := List.mem_filter.mpr ⟨List.mem_of_getElem? (i := 74) (by decide +kernel), by decide +kernel⟩
theorem t_75 : (Jvm.Cond.superclass "ModelDesk$Model" "java/lang/Object") ∈ tbG := List.mem_filter.mpr ⟨List.mem_of_getElem? (i := 75) (by decide +kernel), by decide +kernel⟩
theorem t_76 : (Jvm.Cond.arrayClass Jvm.ClassFile.FieldType.byte) ∈ tbG := List.mem_filter.mpr ⟨List.mem_of_getElem? (i := 76) (by decide +kernel), by decide +kernel⟩
theorem t_77 : (Jvm.Cond.arrayClass Jvm.ClassFile.FieldType.int) ∈ tbG := List.mem_filter.mpr ⟨List.mem_of_getElem? (i := 77) (by decide +kernel), by decide +kernel⟩
theorem t_78 : (Jvm.Cond.arrayClass Jvm.ClassFile.FieldType.long) ∈ tbG := List.mem_filter.mpr ⟨List.mem_of_getElem? (i := 78) (by decide +kernel), by decide +kernel⟩
theorem t_79 : (Jvm.Cond.fieldLink "ModelDesk$Reader" (10 : Nat) "ModelDesk$Reader" "model" "LModelDesk$Model;") ∈ tbG := List.mem_filter.mpr ⟨List.mem_of_getElem? (i := 79) (by decide +kernel), by decide +kernel⟩
theorem t_80 : (Jvm.Cond.fieldLink "ModelDesk" (20 : Nat) "ModelDesk$Reader" "model" "LModelDesk$Model;") ∈ tbG := List.mem_filter.mpr ⟨List.mem_of_getElem? (i := 80) (by decide +kernel), by decide +kernel⟩
theorem t_81 : (Jvm.Cond.fieldLink "ModelDesk$Reader" (16 : Nat) "ModelDesk$Reader" "openFirsts" "[J") ∈ tbG := List.mem_filter.mpr ⟨List.mem_of_getElem? (i := 81) (by decide +kernel), by decide +kernel⟩
theorem t_82 : (Jvm.Cond.fieldLink "ModelDesk$Reader" (20 : Nat) "ModelDesk$Reader" "openLasts" "[J") ∈ tbG := List.mem_filter.mpr ⟨List.mem_of_getElem? (i := 82) (by decide +kernel), by decide +kernel⟩
theorem t_83 : (Jvm.Cond.fieldLink "ModelDesk$Reader" (23 : Nat) "ModelDesk$Reader" "openEmpty" "[Z") ∈ tbG := List.mem_filter.mpr ⟨List.mem_of_getElem? (i := 83) (by decide +kernel), by decide +kernel⟩
theorem t_84 : (Jvm.Cond.fieldLink "ModelDesk$Reader" (27 : Nat) "ModelDesk$Reader" "separators" "[I") ∈ tbG := List.mem_filter.mpr ⟨List.mem_of_getElem? (i := 84) (by decide +kernel), by decide +kernel⟩
theorem t_85 : (Jvm.Cond.fieldLink "ModelDesk$Reader" (34 : Nat) "ModelDesk$Reader" "depth" "I") ∈ tbG := List.mem_filter.mpr ⟨List.mem_of_getElem? (i := 85) (by decide +kernel), by decide +kernel⟩
theorem t_86 : (Jvm.Cond.fieldLink "ModelDesk$Reader" (38 : Nat) "ModelDesk$Reader" "state" "I") ∈ tbG := List.mem_filter.mpr ⟨List.mem_of_getElem? (i := 86) (by decide +kernel), by decide +kernel⟩
theorem t_87 : (Jvm.Cond.fieldLink "ModelDesk$Reader" (62 : Nat) "ModelDesk$Reader" "partFirsts" "J") ∈ tbG := List.mem_filter.mpr ⟨List.mem_of_getElem? (i := 87) (by decide +kernel), by decide +kernel⟩
theorem t_88 : (Jvm.Cond.fieldLink "ModelDesk$Reader" (69 : Nat) "ModelDesk$Reader" "partLasts" "J") ∈ tbG := List.mem_filter.mpr ⟨List.mem_of_getElem? (i := 88) (by decide +kernel), by decide +kernel⟩
theorem t_89 : (Jvm.Cond.fieldLink "ModelDesk$Reader" (75 : Nat) "ModelDesk$Reader" "partEmpty" "Z") ∈ tbG := List.mem_filter.mpr ⟨List.mem_of_getElem? (i := 89) (by decide +kernel), by decide +kernel⟩
theorem t_90 : (Jvm.Cond.laysFinal "ModelDesk$Reader" "ModelDesk$Reader" "model" "LModelDesk$Model;") ∈ tbG := List.mem_filter.mpr ⟨List.mem_of_getElem? (i := 90) (by decide +kernel), by decide +kernel⟩
theorem t_91 : (Jvm.Cond.soleField "ModelDesk$Reader" "model") ∈ tbG := List.mem_filter.mpr ⟨List.mem_of_getElem? (i := 91) (by decide +kernel), by decide +kernel⟩
theorem t_92 : (Jvm.Cond.laysFinal "ModelDesk$Reader" "ModelDesk$Reader" "openFirsts" "[J") ∈ tbG := List.mem_filter.mpr ⟨List.mem_of_getElem? (i := 92) (by decide +kernel), by decide +kernel⟩
theorem t_93 : (Jvm.Cond.soleField "ModelDesk$Reader" "openFirsts") ∈ tbG := List.mem_filter.mpr ⟨List.mem_of_getElem? (i := 93) (by decide +kernel), by decide +kernel⟩
theorem t_94 : (Jvm.Cond.laysFinal "ModelDesk$Reader" "ModelDesk$Reader" "openLasts" "[J") ∈ tbG := List.mem_filter.mpr ⟨List.mem_of_getElem? (i := 94) (by decide +kernel), by decide +kernel⟩
theorem t_95 : (Jvm.Cond.soleField "ModelDesk$Reader" "openLasts") ∈ tbG := List.mem_filter.mpr ⟨List.mem_of_getElem? (i := 95) (by decide +kernel), by decide +kernel⟩
theorem t_96 : (Jvm.Cond.laysFinal "ModelDesk$Reader" "ModelDesk$Reader" "openEmpty" "[Z") ∈ tbG := List.mem_filter.mpr ⟨List.mem_of_getElem? (i := 96) (by decide +kernel), by decide +kernel⟩
theorem t_97 : (Jvm.Cond.soleField "ModelDesk$Reader" "openEmpty") ∈ tbG := List.mem_filter.mpr ⟨List.mem_of_getElem? (i := 97) (by decide +kernel), by decide +kernel⟩
theorem t_98 : (Jvm.Cond.laysFinal "ModelDesk$Reader" "ModelDesk$Reader" "separators" "[I") ∈ tbG := List.mem_filter.mpr ⟨List.mem_of_getElem? (i := 98) (by decide +kernel), by decide +kernel⟩
theorem t_99 : (Jvm.Cond.soleField "ModelDesk$Reader" "separators") ∈ tbG := List.mem_filter.mpr ⟨List.mem_of_getElem? (i := 99) (by decide +kernel), by decide +kernel⟩
theorem t_100 : (Jvm.Cond.lays "ModelDesk$Reader" "ModelDesk$Reader" "depth" "I") ∈ tbG := List.mem_filter.mpr ⟨List.mem_of_getElem? (i := 100) (by decide +kernel), by decide +kernel⟩
theorem t_101 : (Jvm.Cond.soleField "ModelDesk$Reader" "depth") ∈ tbG := List.mem_filter.mpr ⟨List.mem_of_getElem? (i := 101) (by decide +kernel), by decide +kernel⟩
theorem t_102 : (Jvm.Cond.lays "ModelDesk$Reader" "ModelDesk$Reader" "state" "I") ∈ tbG := List.mem_filter.mpr ⟨List.mem_of_getElem? (i := 102) (by decide +kernel), by decide +kernel⟩
theorem t_103 : (Jvm.Cond.soleField "ModelDesk$Reader" "state") ∈ tbG := List.mem_filter.mpr ⟨List.mem_of_getElem? (i := 103) (by decide +kernel), by decide +kernel⟩
theorem t_104 : (Jvm.Cond.lays "ModelDesk$Reader" "ModelDesk$Reader" "partFirsts" "J") ∈ tbG := List.mem_filter.mpr ⟨List.mem_of_getElem? (i := 104) (by decide +kernel), by decide +kernel⟩
theorem t_105 : (Jvm.Cond.soleField "ModelDesk$Reader" "partFirsts") ∈ tbG := List.mem_filter.mpr ⟨List.mem_of_getElem? (i := 105) (by decide +kernel), by decide +kernel⟩
theorem t_106 : (Jvm.Cond.lays "ModelDesk$Reader" "ModelDesk$Reader" "partLasts" "J") ∈ tbG := List.mem_filter.mpr ⟨List.mem_of_getElem? (i := 106) (by decide +kernel), by decide +kernel⟩
theorem t_107 : (Jvm.Cond.soleField "ModelDesk$Reader" "partLasts") ∈ tbG := List.mem_filter.mpr ⟨List.mem_of_getElem? (i := 107) (by decide +kernel), by decide +kernel⟩
theorem t_108 : (Jvm.Cond.lays "ModelDesk$Reader" "ModelDesk$Reader" "partEmpty" "Z") ∈ tbG := List.mem_filter.mpr ⟨List.mem_of_getElem? (i := 108) (by decide +kernel), by decide +kernel⟩
theorem t_109 : (Jvm.Cond.soleField "ModelDesk$Reader" "partEmpty") ∈ tbG := List.mem_filter.mpr ⟨List.mem_of_getElem? (i := 109) (by decide +kernel), by decide +kernel⟩
theorem t_110 : (Jvm.Cond.superclass "ModelDesk$Reader" "java/lang/Object") ∈ tbG := List.mem_filter.mpr ⟨List.mem_of_getElem? (i := 110) (by decide +kernel), by decide +kernel⟩
theorem t_111 : (Jvm.Cond.arrayClass Jvm.ClassFile.FieldType.boolean) ∈ tbG := List.mem_filter.mpr ⟨List.mem_of_getElem? (i := 111) (by decide +kernel), by decide +kernel⟩
theorem t_112 : (Jvm.Cond.fieldLink "ModelDesk" (9 : Nat) "ModelDesk" "text" "[B") ∈ tbG := List.mem_filter.mpr ⟨List.mem_of_getElem? (i := 112) (by decide +kernel), by decide +kernel⟩
theorem t_113 : (Jvm.Cond.fieldLink "ModelDesk" (25 : Nat) "ModelDesk" "length" "I") ∈ tbG := List.mem_filter.mpr ⟨List.mem_of_getElem? (i := 113) (by decide +kernel), by decide +kernel⟩
theorem t_114 : (Jvm.Cond.fieldLink "ModelDesk" (16 : Nat) "ModelDesk" "reader" "LModelDesk$Reader;") ∈ tbG := List.mem_filter.mpr ⟨List.mem_of_getElem? (i := 114) (by decide +kernel), by decide +kernel⟩
theorem t_115 : (Jvm.Cond.fieldLink "ModelDesk" (24 : Nat) "ModelDesk" "model" "LModelDesk$Model;") ∈ tbG := List.mem_filter.mpr ⟨List.mem_of_getElem? (i := 115) (by decide +kernel), by decide +kernel⟩
theorem t_116 : (Jvm.Cond.fieldLink "ModelDesk" (70 : Nat) "ModelDesk" "ready" "J") ∈ tbG := List.mem_filter.mpr ⟨List.mem_of_getElem? (i := 116) (by decide +kernel), by decide +kernel⟩
theorem t_117 : (Jvm.Cond.fieldLink "ModelDesk" (81 : Nat) "ModelDesk" "whole" "Z") ∈ tbG := List.mem_filter.mpr ⟨List.mem_of_getElem? (i := 117) (by decide +kernel), by decide +kernel⟩
theorem t_118 : (Jvm.Cond.fieldLink "ModelDesk" (84 : Nat) "ModelDesk" "came" "I") ∈ tbG := List.mem_filter.mpr ⟨List.mem_of_getElem? (i := 118) (by decide +kernel), by decide +kernel⟩
theorem t_119 : (Jvm.Cond.laysFinal "ModelDesk" "ModelDesk" "text" "[B") ∈ tbG := List.mem_filter.mpr ⟨List.mem_of_getElem? (i := 119) (by decide +kernel), by decide +kernel⟩
theorem t_120 : (Jvm.Cond.soleField "ModelDesk" "text") ∈ tbG := List.mem_filter.mpr ⟨List.mem_of_getElem? (i := 120) (by decide +kernel), by decide +kernel⟩
theorem t_121 : (Jvm.Cond.lays "ModelDesk" "ModelDesk" "length" "I") ∈ tbG := List.mem_filter.mpr ⟨List.mem_of_getElem? (i := 121) (by decide +kernel), by decide +kernel⟩
theorem t_122 : (Jvm.Cond.soleField "ModelDesk" "length") ∈ tbG := List.mem_filter.mpr ⟨List.mem_of_getElem? (i := 122) (by decide +kernel), by decide +kernel⟩
theorem t_123 : (Jvm.Cond.laysFinal "ModelDesk" "ModelDesk" "reader" "LModelDesk$Reader;") ∈ tbG := List.mem_filter.mpr ⟨List.mem_of_getElem? (i := 123) (by decide +kernel), by decide +kernel⟩
theorem t_124 : (Jvm.Cond.soleField "ModelDesk" "reader") ∈ tbG := List.mem_filter.mpr ⟨List.mem_of_getElem? (i := 124) (by decide +kernel), by decide +kernel⟩
theorem t_125 : (Jvm.Cond.laysFinal "ModelDesk" "ModelDesk" "model" "LModelDesk$Model;") ∈ tbG := List.mem_filter.mpr ⟨List.mem_of_getElem? (i := 125) (by decide +kernel), by decide +kernel⟩
theorem t_126 : (Jvm.Cond.soleField "ModelDesk" "model") ∈ tbG := List.mem_filter.mpr ⟨List.mem_of_getElem? (i := 126) (by decide +kernel), by decide +kernel⟩
theorem t_127 : (Jvm.Cond.lays "ModelDesk" "ModelDesk" "ready" "J") ∈ tbG := List.mem_filter.mpr ⟨List.mem_of_getElem? (i := 127) (by decide +kernel), by decide +kernel⟩
theorem t_128 : (Jvm.Cond.soleField "ModelDesk" "ready") ∈ tbG := List.mem_filter.mpr ⟨List.mem_of_getElem? (i := 128) (by decide +kernel), by decide +kernel⟩
theorem t_129 : (Jvm.Cond.lays "ModelDesk" "ModelDesk" "whole" "Z") ∈ tbG := List.mem_filter.mpr ⟨List.mem_of_getElem? (i := 129) (by decide +kernel), by decide +kernel⟩
theorem t_130 : (Jvm.Cond.soleField "ModelDesk" "whole") ∈ tbG := List.mem_filter.mpr ⟨List.mem_of_getElem? (i := 130) (by decide +kernel), by decide +kernel⟩
theorem t_131 : (Jvm.Cond.lays "ModelDesk" "ModelDesk" "came" "I") ∈ tbG := List.mem_filter.mpr ⟨List.mem_of_getElem? (i := 131) (by decide +kernel), by decide +kernel⟩
theorem t_132 : (Jvm.Cond.soleField "ModelDesk" "came") ∈ tbG := List.mem_filter.mpr ⟨List.mem_of_getElem? (i := 132) (by decide +kernel), by decide +kernel⟩
theorem t_133 : (Jvm.Cond.superclass "ModelDesk" "java/lang/Object") ∈ tbG := List.mem_filter.mpr ⟨List.mem_of_getElem? (i := 133) (by decide +kernel), by decide +kernel⟩
theorem t_134 : (Jvm.Cond.methodLink "ModelDeskLaw" (15 : Nat) ({ cls := "ModelDesk", name := "put", desc := "(JI)Z" } : Jvm.MethodName)) ∈ tbG := List.mem_filter.mpr ⟨List.mem_of_getElem? (i := 134) (by decide +kernel), by decide +kernel⟩
theorem t_135 : (Jvm.Cond.instanceMethod ({ cls := "ModelDesk", name := "put", desc := "(JI)Z" } : Jvm.MethodName)) ∈ tbG := List.mem_filter.mpr ⟨List.mem_of_getElem? (i := 135) (by decide +kernel), by decide +kernel⟩
theorem t_136 : (Jvm.Cond.selects "ModelDesk" ({ cls := "ModelDesk", name := "put", desc := "(JI)Z" } : Jvm.MethodName) ({ cls := "ModelDesk", name := "put", desc := "(JI)Z" } : Jvm.MethodName)) ∈ tbG := List.mem_filter.mpr ⟨List.mem_of_getElem? (i := 136) (by decide +kernel), by decide +kernel⟩
theorem t_137 : (Jvm.Cond.code ({ cls := "ModelDesk", name := "put", desc := "(JI)Z" } : Jvm.MethodName) prog_1_method_2_code (5 : Nat) (Option.some Jvm.ClassFile.FieldType.boolean)) ∈ tbG := List.mem_filter.mpr ⟨List.mem_of_getElem? (i := 137) (by decide +kernel), by decide +kernel⟩
theorem t_138 : (Jvm.Cond.methodLink "ModelDeskLaw" (20 : Nat) ({ cls := "ModelDesk", name := "read", desc := "()I" } : Jvm.MethodName)) ∈ tbG := List.mem_filter.mpr ⟨List.mem_of_getElem? (i := 138) (by decide +kernel), by decide +kernel⟩
theorem t_139 : (Jvm.Cond.instanceMethod ({ cls := "ModelDesk", name := "read", desc := "()I" } : Jvm.MethodName)) ∈ tbG := List.mem_filter.mpr ⟨List.mem_of_getElem? (i := 139) (by decide +kernel), by decide +kernel⟩
theorem t_140 : (Jvm.Cond.selects "ModelDesk" ({ cls := "ModelDesk", name := "read", desc := "()I" } : Jvm.MethodName) ({ cls := "ModelDesk", name := "read", desc := "()I" } : Jvm.MethodName)) ∈ tbG := List.mem_filter.mpr ⟨List.mem_of_getElem? (i := 140) (by decide +kernel), by decide +kernel⟩
theorem t_141 : (Jvm.Cond.code ({ cls := "ModelDesk", name := "read", desc := "()I" } : Jvm.MethodName) prog_1_method_3_code (2 : Nat) (Option.some Jvm.ClassFile.FieldType.int)) ∈ tbG := List.mem_filter.mpr ⟨List.mem_of_getElem? (i := 141) (by decide +kernel), by decide +kernel⟩
theorem t_142 : (Jvm.Cond.methodLink "ModelDesk" (29 : Nat) ({ cls := "ModelDesk", name := "readText", desc := "()I" } : Jvm.MethodName)) ∈ tbG := List.mem_filter.mpr ⟨List.mem_of_getElem? (i := 142) (by decide +kernel), by decide +kernel⟩
theorem t_144 : (Jvm.Cond.instanceMethod ({ cls := "ModelDesk", name := "readText", desc := "()I" } : Jvm.MethodName)) ∈ tbG := List.mem_filter.mpr ⟨List.mem_of_getElem? (i := 144) (by decide +kernel), by decide +kernel⟩
theorem t_145 : (Jvm.Cond.code ({ cls := "ModelDesk", name := "readText", desc := "()I" } : Jvm.MethodName) prog_1_method_15_code (3 : Nat) (Option.some Jvm.ClassFile.FieldType.int)) ∈ tbG := List.mem_filter.mpr ⟨List.mem_of_getElem? (i := 145) (by decide +kernel), by decide +kernel⟩
theorem t_146 : (Jvm.Cond.methodLink "ModelDesk" (91 : Nat) ({ cls := "ModelDesk$Reader", name := "begin", desc := "()V" } : Jvm.MethodName)) ∈ tbG := List.mem_filter.mpr ⟨List.mem_of_getElem? (i := 146) (by decide +kernel), by decide +kernel⟩
theorem t_147 : (Jvm.Cond.instanceMethod ({ cls := "ModelDesk$Reader", name := "begin", desc := "()V" } : Jvm.MethodName)) ∈ tbG := List.mem_filter.mpr ⟨List.mem_of_getElem? (i := 147) (by decide +kernel), by decide +kernel⟩
theorem t_148 : (Jvm.Cond.selects "ModelDesk$Reader" ({ cls := "ModelDesk$Reader", name := "begin", desc := "()V" } : Jvm.MethodName) ({ cls := "ModelDesk$Reader", name := "begin", desc := "()V" } : Jvm.MethodName)) ∈ tbG := List.mem_filter.mpr ⟨List.mem_of_getElem? (i := 148) (by decide +kernel), by decide +kernel⟩
theorem t_149 : (Jvm.Cond.code ({ cls := "ModelDesk$Reader", name := "begin", desc := "()V" } : Jvm.MethodName) prog_3_method_2_code (1 : Nat) (Option.none : Option Jvm.ClassFile.FieldType)) ∈ tbG := List.mem_filter.mpr ⟨List.mem_of_getElem? (i := 149) (by decide +kernel), by decide +kernel⟩
theorem t_150 : (Jvm.Cond.methodLink "ModelDesk$Reader" (31 : Nat) ({ cls := "ModelDesk$Model", name := "clear", desc := "()V" } : Jvm.MethodName)) ∈ tbG := List.mem_filter.mpr ⟨List.mem_of_getElem? (i := 150) (by decide +kernel), by decide +kernel⟩
theorem t_151 : (Jvm.Cond.instanceMethod ({ cls := "ModelDesk$Model", name := "clear", desc := "()V" } : Jvm.MethodName)) ∈ tbG := List.mem_filter.mpr ⟨List.mem_of_getElem? (i := 151) (by decide +kernel), by decide +kernel⟩
theorem t_152 : (Jvm.Cond.selects "ModelDesk$Model" ({ cls := "ModelDesk$Model", name := "clear", desc := "()V" } : Jvm.MethodName) ({ cls := "ModelDesk$Model", name := "clear", desc := "()V" } : Jvm.MethodName)) ∈ tbG := List.mem_filter.mpr ⟨List.mem_of_getElem? (i := 152) (by decide +kernel), by decide +kernel⟩
theorem t_153 : (Jvm.Cond.code ({ cls := "ModelDesk$Model", name := "clear", desc := "()V" } : Jvm.MethodName) prog_2_method_2_code (1 : Nat) (Option.none : Option Jvm.ClassFile.FieldType)) ∈ tbG := List.mem_filter.mpr ⟨List.mem_of_getElem? (i := 153) (by decide +kernel), by decide +kernel⟩
theorem t_154 : (Jvm.Cond.methodLink "ModelDesk" (94 : Nat) ({ cls := "ModelDesk$Reader", name := "take", desc := "(I)I" } : Jvm.MethodName)) ∈ tbG := List.mem_filter.mpr ⟨List.mem_of_getElem? (i := 154) (by decide +kernel), by decide +kernel⟩
theorem t_155 : (Jvm.Cond.instanceMethod ({ cls := "ModelDesk$Reader", name := "take", desc := "(I)I" } : Jvm.MethodName)) ∈ tbG := List.mem_filter.mpr ⟨List.mem_of_getElem? (i := 155) (by decide +kernel), by decide +kernel⟩
theorem t_156 : (Jvm.Cond.selects "ModelDesk$Reader" ({ cls := "ModelDesk$Reader", name := "take", desc := "(I)I" } : Jvm.MethodName) ({ cls := "ModelDesk$Reader", name := "take", desc := "(I)I" } : Jvm.MethodName)) ∈ tbG := List.mem_filter.mpr ⟨List.mem_of_getElem? (i := 156) (by decide +kernel), by decide +kernel⟩
theorem t_157 : (Jvm.Cond.code ({ cls := "ModelDesk$Reader", name := "take", desc := "(I)I" } : Jvm.MethodName) prog_3_method_3_code (2 : Nat) (Option.some Jvm.ClassFile.FieldType.int)) ∈ tbG := List.mem_filter.mpr ⟨List.mem_of_getElem? (i := 157) (by decide +kernel), by decide +kernel⟩
theorem t_158 : (Jvm.Cond.methodLink "ModelDesk$Reader" (41 : Nat) ({ cls := "ModelDesk$Reader", name := "open", desc := "()I" } : Jvm.MethodName)) ∈ tbG := List.mem_filter.mpr ⟨List.mem_of_getElem? (i := 158) (by decide +kernel), by decide +kernel⟩
theorem t_160 : (Jvm.Cond.instanceMethod ({ cls := "ModelDesk$Reader", name := "open", desc := "()I" } : Jvm.MethodName)) ∈ tbG := List.mem_filter.mpr ⟨List.mem_of_getElem? (i := 160) (by decide +kernel), by decide +kernel⟩
theorem t_161 : (Jvm.Cond.code ({ cls := "ModelDesk$Reader", name := "open", desc := "()I" } : Jvm.MethodName) prog_3_method_6_code (1 : Nat) (Option.some Jvm.ClassFile.FieldType.int)) ∈ tbG := List.mem_filter.mpr ⟨List.mem_of_getElem? (i := 161) (by decide +kernel), by decide +kernel⟩
theorem t_162 : (Jvm.Cond.methodLink "ModelDesk$Reader" (45 : Nat) ({ cls := "ModelDesk$Reader", name := "takeBeforePart", desc := "(I)I" } : Jvm.MethodName)) ∈ tbG := List.mem_filter.mpr ⟨List.mem_of_getElem? (i := 162) (by decide +kernel), by decide +kernel⟩
theorem t_164 : (Jvm.Cond.instanceMethod ({ cls := "ModelDesk$Reader", name := "takeBeforePart", desc := "(I)I" } : Jvm.MethodName)) ∈ tbG := List.mem_filter.mpr ⟨List.mem_of_getElem? (i := 164) (by decide +kernel), by decide +kernel⟩
theorem t_165 : (Jvm.Cond.code ({ cls := "ModelDesk$Reader", name := "takeBeforePart", desc := "(I)I" } : Jvm.MethodName) prog_3_method_5_code (2 : Nat) (Option.some Jvm.ClassFile.FieldType.int)) ∈ tbG := List.mem_filter.mpr ⟨List.mem_of_getElem? (i := 165) (by decide +kernel), by decide +kernel⟩
theorem t_166 : (Jvm.Cond.methodLink "ModelDesk$Reader" (82 : Nat) ({ cls := "ModelDesk$Reader", name := "takeName", desc := "(I)I" } : Jvm.MethodName)) ∈ tbG := List.mem_filter.mpr ⟨List.mem_of_getElem? (i := 166) (by decide +kernel), by decide +kernel⟩
theorem t_168 : (Jvm.Cond.instanceMethod ({ cls := "ModelDesk$Reader", name := "takeName", desc := "(I)I" } : Jvm.MethodName)) ∈ tbG := List.mem_filter.mpr ⟨List.mem_of_getElem? (i := 168) (by decide +kernel), by decide +kernel⟩
theorem t_169 : (Jvm.Cond.code ({ cls := "ModelDesk$Reader", name := "takeName", desc := "(I)I" } : Jvm.MethodName) prog_3_method_7_code (2 : Nat) (Option.some Jvm.ClassFile.FieldType.int)) ∈ tbG := List.mem_filter.mpr ⟨List.mem_of_getElem? (i := 169) (by decide +kernel), by decide +kernel⟩
theorem t_170 : (Jvm.Cond.methodLink "ModelDesk$Reader" (85 : Nat) ({ cls := "ModelDesk$Model", name := "isFull", desc := "()Z" } : Jvm.MethodName)) ∈ tbG := List.mem_filter.mpr ⟨List.mem_of_getElem? (i := 170) (by decide +kernel), by decide +kernel⟩
theorem t_171 : (Jvm.Cond.instanceMethod ({ cls := "ModelDesk$Model", name := "isFull", desc := "()Z" } : Jvm.MethodName)) ∈ tbG := List.mem_filter.mpr ⟨List.mem_of_getElem? (i := 171) (by decide +kernel), by decide +kernel⟩
theorem t_172 : (Jvm.Cond.selects "ModelDesk$Model" ({ cls := "ModelDesk$Model", name := "isFull", desc := "()Z" } : Jvm.MethodName) ({ cls := "ModelDesk$Model", name := "isFull", desc := "()Z" } : Jvm.MethodName)) ∈ tbG := List.mem_filter.mpr ⟨List.mem_of_getElem? (i := 172) (by decide +kernel), by decide +kernel⟩
theorem t_173 : (Jvm.Cond.code ({ cls := "ModelDesk$Model", name := "isFull", desc := "()Z" } : Jvm.MethodName) prog_2_method_3_code (1 : Nat) (Option.some Jvm.ClassFile.FieldType.boolean)) ∈ tbG := List.mem_filter.mpr ⟨List.mem_of_getElem? (i := 173) (by decide +kernel), by decide +kernel⟩
theorem t_174 : (Jvm.Cond.methodLink "ModelDesk$Reader" (92 : Nat) ({ cls := "ModelDesk$Model", name := "addPlace", desc := "(I)V" } : Jvm.MethodName)) ∈ tbG := List.mem_filter.mpr ⟨List.mem_of_getElem? (i := 174) (by decide +kernel), by decide +kernel⟩
theorem t_175 : (Jvm.Cond.instanceMethod ({ cls := "ModelDesk$Model", name := "addPlace", desc := "(I)V" } : Jvm.MethodName)) ∈ tbG := List.mem_filter.mpr ⟨List.mem_of_getElem? (i := 175) (by decide +kernel), by decide +kernel⟩
theorem t_176 : (Jvm.Cond.selects "ModelDesk$Model" ({ cls := "ModelDesk$Model", name := "addPlace", desc := "(I)V" } : Jvm.MethodName) ({ cls := "ModelDesk$Model", name := "addPlace", desc := "(I)V" } : Jvm.MethodName)) ∈ tbG := List.mem_filter.mpr ⟨List.mem_of_getElem? (i := 176) (by decide +kernel), by decide +kernel⟩
theorem t_177 : (Jvm.Cond.code ({ cls := "ModelDesk$Model", name := "addPlace", desc := "(I)V" } : Jvm.MethodName) prog_2_method_5_code (2 : Nat) (Option.none : Option Jvm.ClassFile.FieldType)) ∈ tbG := List.mem_filter.mpr ⟨List.mem_of_getElem? (i := 177) (by decide +kernel), by decide +kernel⟩
theorem t_178 : (Jvm.Cond.methodLink "ModelDesk$Model" (32 : Nat) ({ cls := "ModelDesk$Model", name := "isFull", desc := "()Z" } : Jvm.MethodName)) ∈ tbG := List.mem_filter.mpr ⟨List.mem_of_getElem? (i := 178) (by decide +kernel), by decide +kernel⟩
theorem t_179 : (Jvm.Cond.methodLink "ModelDesk$Reader" (49 : Nat) ({ cls := "ModelDesk$Reader", name := "isSign", desc := "(I)Z" } : Jvm.MethodName)) ∈ tbG := List.mem_filter.mpr ⟨List.mem_of_getElem? (i := 179) (by decide +kernel), by decide +kernel⟩
theorem t_180 : (Jvm.Cond.static ({ cls := "ModelDesk$Reader", name := "isSign", desc := "(I)Z" } : Jvm.MethodName)) ∈ tbG := List.mem_filter.mpr ⟨List.mem_of_getElem? (i := 180) (by decide +kernel), by decide +kernel⟩
theorem t_181 : (Jvm.Cond.code ({ cls := "ModelDesk$Reader", name := "isSign", desc := "(I)Z" } : Jvm.MethodName) prog_3_method_12_code (1 : Nat) (Option.some Jvm.ClassFile.FieldType.boolean)) ∈ tbG := List.mem_filter.mpr ⟨List.mem_of_getElem? (i := 181) (by decide +kernel), by decide +kernel⟩
theorem t_182 : (Jvm.Cond.methodLink "ModelDesk$Reader" (53 : Nat) ({ cls := "ModelDesk$Reader", name := "takeSign", desc := "(I)I" } : Jvm.MethodName)) ∈ tbG := List.mem_filter.mpr ⟨List.mem_of_getElem? (i := 182) (by decide +kernel), by decide +kernel⟩
theorem t_184 : (Jvm.Cond.instanceMethod ({ cls := "ModelDesk$Reader", name := "takeSign", desc := "(I)I" } : Jvm.MethodName)) ∈ tbG := List.mem_filter.mpr ⟨List.mem_of_getElem? (i := 184) (by decide +kernel), by decide +kernel⟩
theorem t_185 : (Jvm.Cond.code ({ cls := "ModelDesk$Reader", name := "takeSign", desc := "(I)I" } : Jvm.MethodName) prog_3_method_8_code (2 : Nat) (Option.some Jvm.ClassFile.FieldType.int)) ∈ tbG := List.mem_filter.mpr ⟨List.mem_of_getElem? (i := 185) (by decide +kernel), by decide +kernel⟩
theorem t_186 : (Jvm.Cond.methodLink "ModelDesk$Reader" (96 : Nat) ({ cls := "ModelDesk$Model", name := "connect", desc := "(JJ)V" } : Jvm.MethodName)) ∈ tbG := List.mem_filter.mpr ⟨List.mem_of_getElem? (i := 186) (by decide +kernel), by decide +kernel⟩
theorem t_187 : (Jvm.Cond.instanceMethod ({ cls := "ModelDesk$Model", name := "connect", desc := "(JJ)V" } : Jvm.MethodName)) ∈ tbG := List.mem_filter.mpr ⟨List.mem_of_getElem? (i := 187) (by decide +kernel), by decide +kernel⟩
theorem t_188 : (Jvm.Cond.selects "ModelDesk$Model" ({ cls := "ModelDesk$Model", name := "connect", desc := "(JJ)V" } : Jvm.MethodName) ({ cls := "ModelDesk$Model", name := "connect", desc := "(JJ)V" } : Jvm.MethodName)) ∈ tbG := List.mem_filter.mpr ⟨List.mem_of_getElem? (i := 188) (by decide +kernel), by decide +kernel⟩
theorem t_189 : (Jvm.Cond.code ({ cls := "ModelDesk$Model", name := "connect", desc := "(JJ)V" } : Jvm.MethodName) prog_2_method_6_code (6 : Nat) (Option.none : Option Jvm.ClassFile.FieldType)) ∈ tbG := List.mem_filter.mpr ⟨List.mem_of_getElem? (i := 189) (by decide +kernel), by decide +kernel⟩
theorem t_190 : (Jvm.Cond.methodLink "ModelDesk$Model" (36 : Nat) ({ cls := "ModelDesk$Model", name := "holds", desc := "(JI)Z" } : Jvm.MethodName)) ∈ tbG := List.mem_filter.mpr ⟨List.mem_of_getElem? (i := 190) (by decide +kernel), by decide +kernel⟩
theorem t_191 : (Jvm.Cond.static ({ cls := "ModelDesk$Model", name := "holds", desc := "(JI)Z" } : Jvm.MethodName)) ∈ tbG := List.mem_filter.mpr ⟨List.mem_of_getElem? (i := 191) (by decide +kernel), by decide +kernel⟩
theorem t_192 : (Jvm.Cond.code ({ cls := "ModelDesk$Model", name := "holds", desc := "(JI)Z" } : Jvm.MethodName) prog_2_method_12_code (3 : Nat) (Option.some Jvm.ClassFile.FieldType.boolean)) ∈ tbG := List.mem_filter.mpr ⟨List.mem_of_getElem? (i := 192) (by decide +kernel), by decide +kernel⟩
theorem t_193 : (Jvm.Cond.methodLink "ModelDesk$Reader" (56 : Nat) ({ cls := "ModelDesk$Reader", name := "close", desc := "()I" } : Jvm.MethodName)) ∈ tbG := List.mem_filter.mpr ⟨List.mem_of_getElem? (i := 193) (by decide +kernel), by decide +kernel⟩
theorem t_195 : (Jvm.Cond.instanceMethod ({ cls := "ModelDesk$Reader", name := "close", desc := "()I" } : Jvm.MethodName)) ∈ tbG := List.mem_filter.mpr ⟨List.mem_of_getElem? (i := 195) (by decide +kernel), by decide +kernel⟩
theorem t_196 : (Jvm.Cond.code ({ cls := "ModelDesk$Reader", name := "close", desc := "()I" } : Jvm.MethodName) prog_3_method_10_code (2 : Nat) (Option.some Jvm.ClassFile.FieldType.int)) ∈ tbG := List.mem_filter.mpr ⟨List.mem_of_getElem? (i := 196) (by decide +kernel), by decide +kernel⟩
theorem t_197 : (Jvm.Cond.methodLink "ModelDesk$Reader" (100 : Nat) ({ cls := "ModelDesk$Reader", name := "joinPart", desc := "(I)V" } : Jvm.MethodName)) ∈ tbG := List.mem_filter.mpr ⟨List.mem_of_getElem? (i := 197) (by decide +kernel), by decide +kernel⟩
theorem t_199 : (Jvm.Cond.instanceMethod ({ cls := "ModelDesk$Reader", name := "joinPart", desc := "(I)V" } : Jvm.MethodName)) ∈ tbG := List.mem_filter.mpr ⟨List.mem_of_getElem? (i := 199) (by decide +kernel), by decide +kernel⟩
theorem t_200 : (Jvm.Cond.code ({ cls := "ModelDesk$Reader", name := "joinPart", desc := "(I)V" } : Jvm.MethodName) prog_3_method_11_code (2 : Nat) (Option.none : Option Jvm.ClassFile.FieldType)) ∈ tbG := List.mem_filter.mpr ⟨List.mem_of_getElem? (i := 200) (by decide +kernel), by decide +kernel⟩
theorem t_201 : (Jvm.Cond.methodLink "ModelDesk$Reader" (59 : Nat) ({ cls := "ModelDesk$Reader", name := "takeSeparator", desc := "(I)I" } : Jvm.MethodName)) ∈ tbG := List.mem_filter.mpr ⟨List.mem_of_getElem? (i := 201) (by decide +kernel), by decide +kernel⟩
theorem t_203 : (Jvm.Cond.instanceMethod ({ cls := "ModelDesk$Reader", name := "takeSeparator", desc := "(I)I" } : Jvm.MethodName)) ∈ tbG := List.mem_filter.mpr ⟨List.mem_of_getElem? (i := 203) (by decide +kernel), by decide +kernel⟩
theorem t_204 : (Jvm.Cond.code ({ cls := "ModelDesk$Reader", name := "takeSeparator", desc := "(I)I" } : Jvm.MethodName) prog_3_method_9_code (3 : Nat) (Option.some Jvm.ClassFile.FieldType.int)) ∈ tbG := List.mem_filter.mpr ⟨List.mem_of_getElem? (i := 204) (by decide +kernel), by decide +kernel⟩
theorem t_205 : (Jvm.Cond.methodLink "ModelDesk" (98 : Nat) ({ cls := "ModelDesk$Reader", name := "finish", desc := "()Z" } : Jvm.MethodName)) ∈ tbG := List.mem_filter.mpr ⟨List.mem_of_getElem? (i := 205) (by decide +kernel), by decide +kernel⟩
theorem t_206 : (Jvm.Cond.instanceMethod ({ cls := "ModelDesk$Reader", name := "finish", desc := "()Z" } : Jvm.MethodName)) ∈ tbG := List.mem_filter.mpr ⟨List.mem_of_getElem? (i := 206) (by decide +kernel), by decide +kernel⟩
theorem t_207 : (Jvm.Cond.selects "ModelDesk$Reader" ({ cls := "ModelDesk$Reader", name := "finish", desc := "()Z" } : Jvm.MethodName) ({ cls := "ModelDesk$Reader", name := "finish", desc := "()Z" } : Jvm.MethodName)) ∈ tbG := List.mem_filter.mpr ⟨List.mem_of_getElem? (i := 207) (by decide +kernel), by decide +kernel⟩
theorem t_208 : (Jvm.Cond.code ({ cls := "ModelDesk$Reader", name := "finish", desc := "()Z" } : Jvm.MethodName) prog_3_method_4_code (1 : Nat) (Option.some Jvm.ClassFile.FieldType.boolean)) ∈ tbG := List.mem_filter.mpr ⟨List.mem_of_getElem? (i := 208) (by decide +kernel), by decide +kernel⟩
theorem t_209 : (Jvm.Cond.methodLink "ModelDesk" (33 : Nat) ({ cls := "ModelDesk$Model", name := "clear", desc := "()V" } : Jvm.MethodName)) ∈ tbG := List.mem_filter.mpr ⟨List.mem_of_getElem? (i := 209) (by decide +kernel), by decide +kernel⟩
theorem t_210 : (Jvm.Cond.methodLink "ModelDesk" (38 : Nat) ({ cls := "ModelDesk", name := "startRow", desc := "()V" } : Jvm.MethodName)) ∈ tbG := List.mem_filter.mpr ⟨List.mem_of_getElem? (i := 210) (by decide +kernel), by decide +kernel⟩
theorem t_212 : (Jvm.Cond.instanceMethod ({ cls := "ModelDesk", name := "startRow", desc := "()V" } : Jvm.MethodName)) ∈ tbG := List.mem_filter.mpr ⟨List.mem_of_getElem? (i := 212) (by decide +kernel), by decide +kernel⟩
theorem t_213 : (Jvm.Cond.code ({ cls := "ModelDesk", name := "startRow", desc := "()V" } : Jvm.MethodName) prog_1_method_16_code (1 : Nat) (Option.none : Option Jvm.ClassFile.FieldType)) ∈ tbG := List.mem_filter.mpr ⟨List.mem_of_getElem? (i := 213) (by decide +kernel), by decide +kernel⟩
theorem t_214 : (Jvm.Cond.methodLink "ModelDeskLaw" (25 : Nat) ({ cls := "ModelDesk", name := "isClear", desc := "()Z" } : Jvm.MethodName)) ∈ tbG := List.mem_filter.mpr ⟨List.mem_of_getElem? (i := 214) (by decide +kernel), by decide +kernel⟩
theorem t_215 : (Jvm.Cond.instanceMethod ({ cls := "ModelDesk", name := "isClear", desc := "()Z" } : Jvm.MethodName)) ∈ tbG := List.mem_filter.mpr ⟨List.mem_of_getElem? (i := 215) (by decide +kernel), by decide +kernel⟩
theorem t_216 : (Jvm.Cond.selects "ModelDesk" ({ cls := "ModelDesk", name := "isClear", desc := "()Z" } : Jvm.MethodName) ({ cls := "ModelDesk", name := "isClear", desc := "()Z" } : Jvm.MethodName)) ∈ tbG := List.mem_filter.mpr ⟨List.mem_of_getElem? (i := 216) (by decide +kernel), by decide +kernel⟩
theorem t_217 : (Jvm.Cond.code ({ cls := "ModelDesk", name := "isClear", desc := "()Z" } : Jvm.MethodName) prog_1_method_4_code (1 : Nat) (Option.some Jvm.ClassFile.FieldType.boolean)) ∈ tbG := List.mem_filter.mpr ⟨List.mem_of_getElem? (i := 217) (by decide +kernel), by decide +kernel⟩
theorem t_218 : (Jvm.Cond.methodLink "ModelDesk" (44 : Nat) ({ cls := "ModelDesk$Model", name := "competingNames", desc := "()I" } : Jvm.MethodName)) ∈ tbG := List.mem_filter.mpr ⟨List.mem_of_getElem? (i := 218) (by decide +kernel), by decide +kernel⟩
theorem t_219 : (Jvm.Cond.instanceMethod ({ cls := "ModelDesk$Model", name := "competingNames", desc := "()I" } : Jvm.MethodName)) ∈ tbG := List.mem_filter.mpr ⟨List.mem_of_getElem? (i := 219) (by decide +kernel), by decide +kernel⟩
theorem t_220 : (Jvm.Cond.selects "ModelDesk$Model" ({ cls := "ModelDesk$Model", name := "competingNames", desc := "()I" } : Jvm.MethodName) ({ cls := "ModelDesk$Model", name := "competingNames", desc := "()I" } : Jvm.MethodName)) ∈ tbG := List.mem_filter.mpr ⟨List.mem_of_getElem? (i := 220) (by decide +kernel), by decide +kernel⟩
theorem t_221 : (Jvm.Cond.code ({ cls := "ModelDesk$Model", name := "competingNames", desc := "()I" } : Jvm.MethodName) prog_2_method_10_code (3 : Nat) (Option.some Jvm.ClassFile.FieldType.int)) ∈ tbG := List.mem_filter.mpr ⟨List.mem_of_getElem? (i := 221) (by decide +kernel), by decide +kernel⟩
theorem t_222 : (Jvm.Cond.methodLink "ModelDesk$Model" (40 : Nat) ({ cls := "ModelDesk$Model", name := "namesTwiceIn", desc := "(J)I" } : Jvm.MethodName)) ∈ tbG := List.mem_filter.mpr ⟨List.mem_of_getElem? (i := 222) (by decide +kernel), by decide +kernel⟩
theorem t_224 : (Jvm.Cond.instanceMethod ({ cls := "ModelDesk$Model", name := "namesTwiceIn", desc := "(J)I" } : Jvm.MethodName)) ∈ tbG := List.mem_filter.mpr ⟨List.mem_of_getElem? (i := 224) (by decide +kernel), by decide +kernel⟩
theorem t_225 : (Jvm.Cond.code ({ cls := "ModelDesk$Model", name := "namesTwiceIn", desc := "(J)I" } : Jvm.MethodName) prog_2_method_11_code (7 : Nat) (Option.some Jvm.ClassFile.FieldType.int)) ∈ tbG := List.mem_filter.mpr ⟨List.mem_of_getElem? (i := 225) (by decide +kernel), by decide +kernel⟩
theorem t_226 : (Jvm.Cond.methodLink "ModelDeskLaw" (30 : Nat) ({ cls := "ModelDesk", name := "competing", desc := "()I" } : Jvm.MethodName)) ∈ tbG := List.mem_filter.mpr ⟨List.mem_of_getElem? (i := 226) (by decide +kernel), by decide +kernel⟩
theorem t_227 : (Jvm.Cond.instanceMethod ({ cls := "ModelDesk", name := "competing", desc := "()I" } : Jvm.MethodName)) ∈ tbG := List.mem_filter.mpr ⟨List.mem_of_getElem? (i := 227) (by decide +kernel), by decide +kernel⟩
theorem t_228 : (Jvm.Cond.selects "ModelDesk" ({ cls := "ModelDesk", name := "competing", desc := "()I" } : Jvm.MethodName) ({ cls := "ModelDesk", name := "competing", desc := "()I" } : Jvm.MethodName)) ∈ tbG := List.mem_filter.mpr ⟨List.mem_of_getElem? (i := 228) (by decide +kernel), by decide +kernel⟩
theorem t_229 : (Jvm.Cond.code ({ cls := "ModelDesk", name := "competing", desc := "()I" } : Jvm.MethodName) prog_1_method_5_code (1 : Nat) (Option.some Jvm.ClassFile.FieldType.int)) ∈ tbG := List.mem_filter.mpr ⟨List.mem_of_getElem? (i := 229) (by decide +kernel), by decide +kernel⟩
theorem t_230 : (Jvm.Cond.methodLink "ModelDeskLaw" (34 : Nat) ({ cls := "ModelDesk", name := "isEmpty", desc := "()Z" } : Jvm.MethodName)) ∈ tbG := List.mem_filter.mpr ⟨List.mem_of_getElem? (i := 230) (by decide +kernel), by decide +kernel⟩
theorem t_231 : (Jvm.Cond.instanceMethod ({ cls := "ModelDesk", name := "isEmpty", desc := "()Z" } : Jvm.MethodName)) ∈ tbG := List.mem_filter.mpr ⟨List.mem_of_getElem? (i := 231) (by decide +kernel), by decide +kernel⟩
theorem t_232 : (Jvm.Cond.selects "ModelDesk" ({ cls := "ModelDesk", name := "isEmpty", desc := "()Z" } : Jvm.MethodName) ({ cls := "ModelDesk", name := "isEmpty", desc := "()Z" } : Jvm.MethodName)) ∈ tbG := List.mem_filter.mpr ⟨List.mem_of_getElem? (i := 232) (by decide +kernel), by decide +kernel⟩
theorem t_233 : (Jvm.Cond.code ({ cls := "ModelDesk", name := "isEmpty", desc := "()Z" } : Jvm.MethodName) prog_1_method_6_code (1 : Nat) (Option.some Jvm.ClassFile.FieldType.boolean)) ∈ tbG := List.mem_filter.mpr ⟨List.mem_of_getElem? (i := 233) (by decide +kernel), by decide +kernel⟩
theorem t_234 : (Jvm.Cond.methodLink "ModelDeskLaw" (38 : Nat) ({ cls := "ModelDesk", name := "first", desc := "()J" } : Jvm.MethodName)) ∈ tbG := List.mem_filter.mpr ⟨List.mem_of_getElem? (i := 234) (by decide +kernel), by decide +kernel⟩
theorem t_235 : (Jvm.Cond.instanceMethod ({ cls := "ModelDesk", name := "first", desc := "()J" } : Jvm.MethodName)) ∈ tbG := List.mem_filter.mpr ⟨List.mem_of_getElem? (i := 235) (by decide +kernel), by decide +kernel⟩
theorem t_236 : (Jvm.Cond.selects "ModelDesk" ({ cls := "ModelDesk", name := "first", desc := "()J" } : Jvm.MethodName) ({ cls := "ModelDesk", name := "first", desc := "()J" } : Jvm.MethodName)) ∈ tbG := List.mem_filter.mpr ⟨List.mem_of_getElem? (i := 236) (by decide +kernel), by decide +kernel⟩
theorem t_237 : (Jvm.Cond.code ({ cls := "ModelDesk", name := "first", desc := "()J" } : Jvm.MethodName) prog_1_method_7_code (1 : Nat) (Option.some Jvm.ClassFile.FieldType.long)) ∈ tbG := List.mem_filter.mpr ⟨List.mem_of_getElem? (i := 237) (by decide +kernel), by decide +kernel⟩
theorem t_238 : (Jvm.Cond.methodLink "ModelDeskLaw" (43 : Nat) ({ cls := "ModelDesk", name := "next", desc := "(I)J" } : Jvm.MethodName)) ∈ tbG := List.mem_filter.mpr ⟨List.mem_of_getElem? (i := 238) (by decide +kernel), by decide +kernel⟩
theorem t_239 : (Jvm.Cond.instanceMethod ({ cls := "ModelDesk", name := "next", desc := "(I)J" } : Jvm.MethodName)) ∈ tbG := List.mem_filter.mpr ⟨List.mem_of_getElem? (i := 239) (by decide +kernel), by decide +kernel⟩
theorem t_240 : (Jvm.Cond.selects "ModelDesk" ({ cls := "ModelDesk", name := "next", desc := "(I)J" } : Jvm.MethodName) ({ cls := "ModelDesk", name := "next", desc := "(I)J" } : Jvm.MethodName)) ∈ tbG := List.mem_filter.mpr ⟨List.mem_of_getElem? (i := 240) (by decide +kernel), by decide +kernel⟩
theorem t_241 : (Jvm.Cond.code ({ cls := "ModelDesk", name := "next", desc := "(I)J" } : Jvm.MethodName) prog_1_method_8_code (2 : Nat) (Option.some Jvm.ClassFile.FieldType.long)) ∈ tbG := List.mem_filter.mpr ⟨List.mem_of_getElem? (i := 241) (by decide +kernel), by decide +kernel⟩
theorem t_242 : (Jvm.Cond.methodLink "ModelDesk" (55 : Nat) ({ cls := "ModelDesk$Model", name := "has", desc := "(I)Z" } : Jvm.MethodName)) ∈ tbG := List.mem_filter.mpr ⟨List.mem_of_getElem? (i := 242) (by decide +kernel), by decide +kernel⟩
theorem t_243 : (Jvm.Cond.instanceMethod ({ cls := "ModelDesk$Model", name := "has", desc := "(I)Z" } : Jvm.MethodName)) ∈ tbG := List.mem_filter.mpr ⟨List.mem_of_getElem? (i := 243) (by decide +kernel), by decide +kernel⟩
theorem t_244 : (Jvm.Cond.selects "ModelDesk$Model" ({ cls := "ModelDesk$Model", name := "has", desc := "(I)Z" } : Jvm.MethodName) ({ cls := "ModelDesk$Model", name := "has", desc := "(I)Z" } : Jvm.MethodName)) ∈ tbG := List.mem_filter.mpr ⟨List.mem_of_getElem? (i := 244) (by decide +kernel), by decide +kernel⟩
theorem t_245 : (Jvm.Cond.code ({ cls := "ModelDesk$Model", name := "has", desc := "(I)Z" } : Jvm.MethodName) prog_2_method_4_code (2 : Nat) (Option.some Jvm.ClassFile.FieldType.boolean)) ∈ tbG := List.mem_filter.mpr ⟨List.mem_of_getElem? (i := 245) (by decide +kernel), by decide +kernel⟩
theorem t_246 : (Jvm.Cond.methodLink "ModelDeskLaw" (48 : Nat) ({ cls := "ModelDesk", name := "last", desc := "()J" } : Jvm.MethodName)) ∈ tbG := List.mem_filter.mpr ⟨List.mem_of_getElem? (i := 246) (by decide +kernel), by decide +kernel⟩
theorem t_247 : (Jvm.Cond.instanceMethod ({ cls := "ModelDesk", name := "last", desc := "()J" } : Jvm.MethodName)) ∈ tbG := List.mem_filter.mpr ⟨List.mem_of_getElem? (i := 247) (by decide +kernel), by decide +kernel⟩
theorem t_248 : (Jvm.Cond.selects "ModelDesk" ({ cls := "ModelDesk", name := "last", desc := "()J" } : Jvm.MethodName) ({ cls := "ModelDesk", name := "last", desc := "()J" } : Jvm.MethodName)) ∈ tbG := List.mem_filter.mpr ⟨List.mem_of_getElem? (i := 248) (by decide +kernel), by decide +kernel⟩
theorem t_249 : (Jvm.Cond.code ({ cls := "ModelDesk", name := "last", desc := "()J" } : Jvm.MethodName) prog_1_method_9_code (1 : Nat) (Option.some Jvm.ClassFile.FieldType.long)) ∈ tbG := List.mem_filter.mpr ⟨List.mem_of_getElem? (i := 249) (by decide +kernel), by decide +kernel⟩
theorem t_250 : (Jvm.Cond.methodLink "ModelDeskLaw" (52 : Nat) ({ cls := "ModelDesk", name := "name", desc := "(I)I" } : Jvm.MethodName)) ∈ tbG := List.mem_filter.mpr ⟨List.mem_of_getElem? (i := 250) (by decide +kernel), by decide +kernel⟩
theorem t_251 : (Jvm.Cond.instanceMethod ({ cls := "ModelDesk", name := "name", desc := "(I)I" } : Jvm.MethodName)) ∈ tbG := List.mem_filter.mpr ⟨List.mem_of_getElem? (i := 251) (by decide +kernel), by decide +kernel⟩
theorem t_252 : (Jvm.Cond.selects "ModelDesk" ({ cls := "ModelDesk", name := "name", desc := "(I)I" } : Jvm.MethodName) ({ cls := "ModelDesk", name := "name", desc := "(I)I" } : Jvm.MethodName)) ∈ tbG := List.mem_filter.mpr ⟨List.mem_of_getElem? (i := 252) (by decide +kernel), by decide +kernel⟩
theorem t_253 : (Jvm.Cond.code ({ cls := "ModelDesk", name := "name", desc := "(I)I" } : Jvm.MethodName) prog_1_method_10_code (2 : Nat) (Option.some Jvm.ClassFile.FieldType.int)) ∈ tbG := List.mem_filter.mpr ⟨List.mem_of_getElem? (i := 253) (by decide +kernel), by decide +kernel⟩
theorem t_254 : (Jvm.Cond.methodLink "ModelDeskLaw" (57 : Nat) ({ cls := "ModelDesk", name := "come", desc := "(I)Z" } : Jvm.MethodName)) ∈ tbG := List.mem_filter.mpr ⟨List.mem_of_getElem? (i := 254) (by decide +kernel), by decide +kernel⟩
theorem t_255 : (Jvm.Cond.instanceMethod ({ cls := "ModelDesk", name := "come", desc := "(I)Z" } : Jvm.MethodName)) ∈ tbG := List.mem_filter.mpr ⟨List.mem_of_getElem? (i := 255) (by decide +kernel), by decide +kernel⟩
theorem t_256 : (Jvm.Cond.selects "ModelDesk" ({ cls := "ModelDesk", name := "come", desc := "(I)Z" } : Jvm.MethodName) ({ cls := "ModelDesk", name := "come", desc := "(I)Z" } : Jvm.MethodName)) ∈ tbG := List.mem_filter.mpr ⟨List.mem_of_getElem? (i := 256) (by decide +kernel), by decide +kernel⟩
theorem t_257 : (Jvm.Cond.code ({ cls := "ModelDesk", name := "come", desc := "(I)Z" } : Jvm.MethodName) prog_1_method_11_code (4 : Nat) (Option.some Jvm.ClassFile.FieldType.boolean)) ∈ tbG := List.mem_filter.mpr ⟨List.mem_of_getElem? (i := 257) (by decide +kernel), by decide +kernel⟩
theorem t_258 : (Jvm.Cond.methodLink "ModelDesk" (73 : Nat) ({ cls := "ModelDesk$Model", name := "placesNamed", desc := "(IJ)J" } : Jvm.MethodName)) ∈ tbG := List.mem_filter.mpr ⟨List.mem_of_getElem? (i := 258) (by decide +kernel), by decide +kernel⟩
theorem t_259 : (Jvm.Cond.instanceMethod ({ cls := "ModelDesk$Model", name := "placesNamed", desc := "(IJ)J" } : Jvm.MethodName)) ∈ tbG := List.mem_filter.mpr ⟨List.mem_of_getElem? (i := 259) (by decide +kernel), by decide +kernel⟩
theorem t_260 : (Jvm.Cond.selects "ModelDesk$Model" ({ cls := "ModelDesk$Model", name := "placesNamed", desc := "(IJ)J" } : Jvm.MethodName) ({ cls := "ModelDesk$Model", name := "placesNamed", desc := "(IJ)J" } : Jvm.MethodName)) ∈ tbG := List.mem_filter.mpr ⟨List.mem_of_getElem? (i := 260) (by decide +kernel), by decide +kernel⟩
theorem t_261 : (Jvm.Cond.code ({ cls := "ModelDesk$Model", name := "placesNamed", desc := "(IJ)J" } : Jvm.MethodName) prog_2_method_8_code (7 : Nat) (Option.some Jvm.ClassFile.FieldType.long)) ∈ tbG := List.mem_filter.mpr ⟨List.mem_of_getElem? (i := 261) (by decide +kernel), by decide +kernel⟩
theorem t_262 : (Jvm.Cond.methodLink "ModelDesk" (77 : Nat) ({ cls := "ModelDesk$Model", name := "nextBehindAny", desc := "(J)J" } : Jvm.MethodName)) ∈ tbG := List.mem_filter.mpr ⟨List.mem_of_getElem? (i := 262) (by decide +kernel), by decide +kernel⟩
theorem t_263 : (Jvm.Cond.instanceMethod ({ cls := "ModelDesk$Model", name := "nextBehindAny", desc := "(J)J" } : Jvm.MethodName)) ∈ tbG := List.mem_filter.mpr ⟨List.mem_of_getElem? (i := 263) (by decide +kernel), by decide +kernel⟩
theorem t_264 : (Jvm.Cond.selects "ModelDesk$Model" ({ cls := "ModelDesk$Model", name := "nextBehindAny", desc := "(J)J" } : Jvm.MethodName) ({ cls := "ModelDesk$Model", name := "nextBehindAny", desc := "(J)J" } : Jvm.MethodName)) ∈ tbG := List.mem_filter.mpr ⟨List.mem_of_getElem? (i := 264) (by decide +kernel), by decide +kernel⟩
theorem t_265 : (Jvm.Cond.code ({ cls := "ModelDesk$Model", name := "nextBehindAny", desc := "(J)J" } : Jvm.MethodName) prog_2_method_7_code (6 : Nat) (Option.some Jvm.ClassFile.FieldType.long)) ∈ tbG := List.mem_filter.mpr ⟨List.mem_of_getElem? (i := 265) (by decide +kernel), by decide +kernel⟩
theorem t_266 : (Jvm.Cond.methodLink "ModelDeskLaw" (62 : Nat) ({ cls := "ModelDesk", name := "isWhole", desc := "()Z" } : Jvm.MethodName)) ∈ tbG := List.mem_filter.mpr ⟨List.mem_of_getElem? (i := 266) (by decide +kernel), by decide +kernel⟩
theorem t_267 : (Jvm.Cond.instanceMethod ({ cls := "ModelDesk", name := "isWhole", desc := "()Z" } : Jvm.MethodName)) ∈ tbG := List.mem_filter.mpr ⟨List.mem_of_getElem? (i := 267) (by decide +kernel), by decide +kernel⟩
theorem t_268 : (Jvm.Cond.selects "ModelDesk" ({ cls := "ModelDesk", name := "isWhole", desc := "()Z" } : Jvm.MethodName) ({ cls := "ModelDesk", name := "isWhole", desc := "()Z" } : Jvm.MethodName)) ∈ tbG := List.mem_filter.mpr ⟨List.mem_of_getElem? (i := 268) (by decide +kernel), by decide +kernel⟩
theorem t_269 : (Jvm.Cond.code ({ cls := "ModelDesk", name := "isWhole", desc := "()Z" } : Jvm.MethodName) prog_1_method_12_code (1 : Nat) (Option.some Jvm.ClassFile.FieldType.boolean)) ∈ tbG := List.mem_filter.mpr ⟨List.mem_of_getElem? (i := 269) (by decide +kernel), by decide +kernel⟩
theorem t_270 : (Jvm.Cond.methodLink "ModelDeskLaw" (66 : Nat) ({ cls := "ModelDesk", name := "may", desc := "()I" } : Jvm.MethodName)) ∈ tbG := List.mem_filter.mpr ⟨List.mem_of_getElem? (i := 270) (by decide +kernel), by decide +kernel⟩
theorem t_271 : (Jvm.Cond.instanceMethod ({ cls := "ModelDesk", name := "may", desc := "()I" } : Jvm.MethodName)) ∈ tbG := List.mem_filter.mpr ⟨List.mem_of_getElem? (i := 271) (by decide +kernel), by decide +kernel⟩
theorem t_272 : (Jvm.Cond.selects "ModelDesk" ({ cls := "ModelDesk", name := "may", desc := "()I" } : Jvm.MethodName) ({ cls := "ModelDesk", name := "may", desc := "()I" } : Jvm.MethodName)) ∈ tbG := List.mem_filter.mpr ⟨List.mem_of_getElem? (i := 272) (by decide +kernel), by decide +kernel⟩
theorem t_273 : (Jvm.Cond.code ({ cls := "ModelDesk", name := "may", desc := "()I" } : Jvm.MethodName) prog_1_method_13_code (1 : Nat) (Option.some Jvm.ClassFile.FieldType.int)) ∈ tbG := List.mem_filter.mpr ⟨List.mem_of_getElem? (i := 273) (by decide +kernel), by decide +kernel⟩
theorem t_274 : (Jvm.Cond.methodLink "ModelDesk" (87 : Nat) ({ cls := "ModelDesk$Model", name := "namesOf", desc := "(J)I" } : Jvm.MethodName)) ∈ tbG := List.mem_filter.mpr ⟨List.mem_of_getElem? (i := 274) (by decide +kernel), by decide +kernel⟩
theorem t_275 : (Jvm.Cond.instanceMethod ({ cls := "ModelDesk$Model", name := "namesOf", desc := "(J)I" } : Jvm.MethodName)) ∈ tbG := List.mem_filter.mpr ⟨List.mem_of_getElem? (i := 275) (by decide +kernel), by decide +kernel⟩
theorem t_276 : (Jvm.Cond.selects "ModelDesk$Model" ({ cls := "ModelDesk$Model", name := "namesOf", desc := "(J)I" } : Jvm.MethodName) ({ cls := "ModelDesk$Model", name := "namesOf", desc := "(J)I" } : Jvm.MethodName)) ∈ tbG := List.mem_filter.mpr ⟨List.mem_of_getElem? (i := 276) (by decide +kernel), by decide +kernel⟩
theorem t_277 : (Jvm.Cond.code ({ cls := "ModelDesk$Model", name := "namesOf", desc := "(J)I" } : Jvm.MethodName) prog_2_method_9_code (5 : Nat) (Option.some Jvm.ClassFile.FieldType.int)) ∈ tbG := List.mem_filter.mpr ⟨List.mem_of_getElem? (i := 277) (by decide +kernel), by decide +kernel⟩
theorem t_278 : (Jvm.Cond.methodLink "ModelDeskLaw" (70 : Nat) ({ cls := "ModelDesk", name := "again", desc := "()I" } : Jvm.MethodName)) ∈ tbG := List.mem_filter.mpr ⟨List.mem_of_getElem? (i := 278) (by decide +kernel), by decide +kernel⟩
theorem t_279 : (Jvm.Cond.instanceMethod ({ cls := "ModelDesk", name := "again", desc := "()I" } : Jvm.MethodName)) ∈ tbG := List.mem_filter.mpr ⟨List.mem_of_getElem? (i := 279) (by decide +kernel), by decide +kernel⟩
theorem t_280 : (Jvm.Cond.selects "ModelDesk" ({ cls := "ModelDesk", name := "again", desc := "()I" } : Jvm.MethodName) ({ cls := "ModelDesk", name := "again", desc := "()I" } : Jvm.MethodName)) ∈ tbG := List.mem_filter.mpr ⟨List.mem_of_getElem? (i := 280) (by decide +kernel), by decide +kernel⟩
theorem t_281 : (Jvm.Cond.code ({ cls := "ModelDesk", name := "again", desc := "()I" } : Jvm.MethodName) prog_1_method_14_code (2 : Nat) (Option.some Jvm.ClassFile.FieldType.int)) ∈ tbG := List.mem_filter.mpr ⟨List.mem_of_getElem? (i := 281) (by decide +kernel), by decide +kernel⟩
theorem t_282 : (Jvm.Cond.classLink "ModelDeskLaw" (10 : Nat) "ModelDeskModel") ∈ tbG := List.mem_filter.mpr ⟨List.mem_of_getElem? (i := 282) (by decide +kernel), by decide +kernel⟩
theorem t_283 : (Jvm.Cond.instantiable "ModelDeskModel" (18 : Nat)) ∈ tbG := List.mem_filter.mpr ⟨List.mem_of_getElem? (i := 283) (by decide +kernel), by decide +kernel⟩
theorem t_284 : (Jvm.Cond.methodLink "ModelDeskLaw" (12 : Nat) ({ cls := "ModelDeskModel", name := "<init>", desc := "()V" } : Jvm.MethodName)) ∈ tbG := List.mem_filter.mpr ⟨List.mem_of_getElem? (i := 284) (by decide +kernel), by decide +kernel⟩
theorem t_285 : (Jvm.Cond.instanceMethod ({ cls := "ModelDeskModel", name := "<init>", desc := "()V" } : Jvm.MethodName)) ∈ tbG := List.mem_filter.mpr ⟨List.mem_of_getElem? (i := 285) (by decide +kernel), by decide +kernel⟩
theorem t_286 : (Jvm.Cond.code ({ cls := "ModelDeskModel", name := "<init>", desc := "()V" } : Jvm.MethodName) prog_5_method_1_code (1 : Nat) (Option.none : Option Jvm.ClassFile.FieldType)) ∈ tbG := List.mem_filter.mpr ⟨List.mem_of_getElem? (i := 286) (by decide +kernel), by decide +kernel⟩
theorem t_287 : (Jvm.Cond.methodLink "ModelDeskModel" (1 : Nat) ({ cls := "java/lang/Object", name := "<init>", desc := "()V" } : Jvm.MethodName)) ∈ tbG := List.mem_filter.mpr ⟨List.mem_of_getElem? (i := 287) (by decide +kernel), by decide +kernel⟩
theorem t_288 : (Jvm.Cond.fieldLink "ModelDeskModel" (7 : Nat) "ModelDeskModel" "text" "[I") ∈ tbG := List.mem_filter.mpr ⟨List.mem_of_getElem? (i := 288) (by decide +kernel), by decide +kernel⟩
theorem t_289 : (Jvm.Cond.fieldLink "ModelDeskModel" (41 : Nat) "ModelDeskModel" "size" "I") ∈ tbG := List.mem_filter.mpr ⟨List.mem_of_getElem? (i := 289) (by decide +kernel), by decide +kernel⟩
theorem t_290 : (Jvm.Cond.fieldLink "ModelDeskModel" (47 : Nat) "ModelDeskModel" "nodes" "I") ∈ tbG := List.mem_filter.mpr ⟨List.mem_of_getElem? (i := 290) (by decide +kernel), by decide +kernel⟩
theorem t_291 : (Jvm.Cond.fieldLink "ModelDeskModel" (13 : Nat) "ModelDeskModel" "kinds" "[I") ∈ tbG := List.mem_filter.mpr ⟨List.mem_of_getElem? (i := 291) (by decide +kernel), by decide +kernel⟩
theorem t_292 : (Jvm.Cond.fieldLink "ModelDeskModel" (16 : Nat) "ModelDeskModel" "parents" "[I") ∈ tbG := List.mem_filter.mpr ⟨List.mem_of_getElem? (i := 292) (by decide +kernel), by decide +kernel⟩
theorem t_293 : (Jvm.Cond.fieldLink "ModelDeskModel" (19 : Nat) "ModelDeskModel" "before" "[I") ∈ tbG := List.mem_filter.mpr ⟨List.mem_of_getElem? (i := 293) (by decide +kernel), by decide +kernel⟩
theorem t_294 : (Jvm.Cond.fieldLink "ModelDeskModel" (22 : Nat) "ModelDeskModel" "after" "[I") ∈ tbG := List.mem_filter.mpr ⟨List.mem_of_getElem? (i := 294) (by decide +kernel), by decide +kernel⟩
theorem t_295 : (Jvm.Cond.fieldLink "ModelDeskModel" (25 : Nat) "ModelDeskModel" "missing" "[Z") ∈ tbG := List.mem_filter.mpr ⟨List.mem_of_getElem? (i := 295) (by decide +kernel), by decide +kernel⟩
theorem t_296 : (Jvm.Cond.fieldLink "ModelDeskModel" (64 : Nat) "ModelDeskModel" "places" "I") ∈ tbG := List.mem_filter.mpr ⟨List.mem_of_getElem? (i := 296) (by decide +kernel), by decide +kernel⟩
theorem t_297 : (Jvm.Cond.fieldLink "ModelDeskModel" (29 : Nat) "ModelDeskModel" "leaf" "[I") ∈ tbG := List.mem_filter.mpr ⟨List.mem_of_getElem? (i := 297) (by decide +kernel), by decide +kernel⟩
theorem t_298 : (Jvm.Cond.fieldLink "ModelDeskModel" (32 : Nat) "ModelDeskModel" "names" "[I") ∈ tbG := List.mem_filter.mpr ⟨List.mem_of_getElem? (i := 298) (by decide +kernel), by decide +kernel⟩
theorem t_299 : (Jvm.Cond.fieldLink "ModelDeskModel" (96 : Nat) "ModelDeskModel" "isModel" "Z") ∈ tbG := List.mem_filter.mpr ⟨List.mem_of_getElem? (i := 299) (by decide +kernel), by decide +kernel⟩
theorem t_300 : (Jvm.Cond.fieldLink "ModelDeskModel" (50 : Nat) "ModelDeskModel" "depth" "I") ∈ tbG := List.mem_filter.mpr ⟨List.mem_of_getElem? (i := 300) (by decide +kernel), by decide +kernel⟩
theorem t_301 : (Jvm.Cond.fieldLink "ModelDeskModel" (35 : Nat) "ModelDeskModel" "lasts" "[I") ∈ tbG := List.mem_filter.mpr ⟨List.mem_of_getElem? (i := 301) (by decide +kernel), by decide +kernel⟩
theorem t_302 : (Jvm.Cond.fieldLink "ModelDeskModel" (38 : Nat) "ModelDeskModel" "sorts" "[I") ∈ tbG := List.mem_filter.mpr ⟨List.mem_of_getElem? (i := 302) (by decide +kernel), by decide +kernel⟩
theorem t_303 : (Jvm.Cond.fieldLink "ModelDeskModel" (83 : Nat) "ModelDeskModel" "root" "I") ∈ tbG := List.mem_filter.mpr ⟨List.mem_of_getElem? (i := 303) (by decide +kernel), by decide +kernel⟩
theorem t_304 : (Jvm.Cond.fieldLink "ModelDeskModel" (86 : Nat) "ModelDeskModel" "came" "I") ∈ tbG := List.mem_filter.mpr ⟨List.mem_of_getElem? (i := 304) (by decide +kernel), by decide +kernel⟩
theorem t_305 : (Jvm.Cond.fieldLink "ModelDeskModel" (89 : Nat) "ModelDeskModel" "now" "J") ∈ tbG := List.mem_filter.mpr ⟨List.mem_of_getElem? (i := 305) (by decide +kernel), by decide +kernel⟩
theorem t_306 : (Jvm.Cond.laysFinal "ModelDeskModel" "ModelDeskModel" "text" "[I") ∈ tbG := List.mem_filter.mpr ⟨List.mem_of_getElem? (i := 306) (by decide +kernel), by decide +kernel⟩
theorem t_307 : (Jvm.Cond.soleField "ModelDeskModel" "text") ∈ tbG := List.mem_filter.mpr ⟨List.mem_of_getElem? (i := 307) (by decide +kernel), by decide +kernel⟩
theorem t_308 : (Jvm.Cond.lays "ModelDeskModel" "ModelDeskModel" "size" "I") ∈ tbG := List.mem_filter.mpr ⟨List.mem_of_getElem? (i := 308) (by decide +kernel), by decide +kernel⟩
theorem t_309 : (Jvm.Cond.soleField "ModelDeskModel" "size") ∈ tbG := List.mem_filter.mpr ⟨List.mem_of_getElem? (i := 309) (by decide +kernel), by decide +kernel⟩
theorem t_310 : (Jvm.Cond.lays "ModelDeskModel" "ModelDeskModel" "nodes" "I") ∈ tbG := List.mem_filter.mpr ⟨List.mem_of_getElem? (i := 310) (by decide +kernel), by decide +kernel⟩
theorem t_311 : (Jvm.Cond.soleField "ModelDeskModel" "nodes") ∈ tbG := List.mem_filter.mpr ⟨List.mem_of_getElem? (i := 311) (by decide +kernel), by decide +kernel⟩
theorem t_312 : (Jvm.Cond.laysFinal "ModelDeskModel" "ModelDeskModel" "kinds" "[I") ∈ tbG := List.mem_filter.mpr ⟨List.mem_of_getElem? (i := 312) (by decide +kernel), by decide +kernel⟩
theorem t_313 : (Jvm.Cond.soleField "ModelDeskModel" "kinds") ∈ tbG := List.mem_filter.mpr ⟨List.mem_of_getElem? (i := 313) (by decide +kernel), by decide +kernel⟩
theorem t_314 : (Jvm.Cond.laysFinal "ModelDeskModel" "ModelDeskModel" "parents" "[I") ∈ tbG := List.mem_filter.mpr ⟨List.mem_of_getElem? (i := 314) (by decide +kernel), by decide +kernel⟩
theorem t_315 : (Jvm.Cond.soleField "ModelDeskModel" "parents") ∈ tbG := List.mem_filter.mpr ⟨List.mem_of_getElem? (i := 315) (by decide +kernel), by decide +kernel⟩
theorem t_316 : (Jvm.Cond.laysFinal "ModelDeskModel" "ModelDeskModel" "before" "[I") ∈ tbG := List.mem_filter.mpr ⟨List.mem_of_getElem? (i := 316) (by decide +kernel), by decide +kernel⟩
theorem t_317 : (Jvm.Cond.soleField "ModelDeskModel" "before") ∈ tbG := List.mem_filter.mpr ⟨List.mem_of_getElem? (i := 317) (by decide +kernel), by decide +kernel⟩
theorem t_318 : (Jvm.Cond.laysFinal "ModelDeskModel" "ModelDeskModel" "after" "[I") ∈ tbG := List.mem_filter.mpr ⟨List.mem_of_getElem? (i := 318) (by decide +kernel), by decide +kernel⟩
theorem t_319 : (Jvm.Cond.soleField "ModelDeskModel" "after") ∈ tbG := List.mem_filter.mpr ⟨List.mem_of_getElem? (i := 319) (by decide +kernel), by decide +kernel⟩
theorem t_320 : (Jvm.Cond.laysFinal "ModelDeskModel" "ModelDeskModel" "missing" "[Z") ∈ tbG := List.mem_filter.mpr ⟨List.mem_of_getElem? (i := 320) (by decide +kernel), by decide +kernel⟩
theorem t_321 : (Jvm.Cond.soleField "ModelDeskModel" "missing") ∈ tbG := List.mem_filter.mpr ⟨List.mem_of_getElem? (i := 321) (by decide +kernel), by decide +kernel⟩
theorem t_322 : (Jvm.Cond.lays "ModelDeskModel" "ModelDeskModel" "places" "I") ∈ tbG := List.mem_filter.mpr ⟨List.mem_of_getElem? (i := 322) (by decide +kernel), by decide +kernel⟩
theorem t_323 : (Jvm.Cond.soleField "ModelDeskModel" "places") ∈ tbG := List.mem_filter.mpr ⟨List.mem_of_getElem? (i := 323) (by decide +kernel), by decide +kernel⟩
theorem t_324 : (Jvm.Cond.laysFinal "ModelDeskModel" "ModelDeskModel" "leaf" "[I") ∈ tbG := List.mem_filter.mpr ⟨List.mem_of_getElem? (i := 324) (by decide +kernel), by decide +kernel⟩
theorem t_325 : (Jvm.Cond.soleField "ModelDeskModel" "leaf") ∈ tbG := List.mem_filter.mpr ⟨List.mem_of_getElem? (i := 325) (by decide +kernel), by decide +kernel⟩
theorem t_326 : (Jvm.Cond.laysFinal "ModelDeskModel" "ModelDeskModel" "names" "[I") ∈ tbG := List.mem_filter.mpr ⟨List.mem_of_getElem? (i := 326) (by decide +kernel), by decide +kernel⟩
theorem t_327 : (Jvm.Cond.soleField "ModelDeskModel" "names") ∈ tbG := List.mem_filter.mpr ⟨List.mem_of_getElem? (i := 327) (by decide +kernel), by decide +kernel⟩
theorem t_328 : (Jvm.Cond.lays "ModelDeskModel" "ModelDeskModel" "isModel" "Z") ∈ tbG := List.mem_filter.mpr ⟨List.mem_of_getElem? (i := 328) (by decide +kernel), by decide +kernel⟩
theorem t_329 : (Jvm.Cond.soleField "ModelDeskModel" "isModel") ∈ tbG := List.mem_filter.mpr ⟨List.mem_of_getElem? (i := 329) (by decide +kernel), by decide +kernel⟩
theorem t_330 : (Jvm.Cond.lays "ModelDeskModel" "ModelDeskModel" "depth" "I") ∈ tbG := List.mem_filter.mpr ⟨List.mem_of_getElem? (i := 330) (by decide +kernel), by decide +kernel⟩
theorem t_331 : (Jvm.Cond.soleField "ModelDeskModel" "depth") ∈ tbG := List.mem_filter.mpr ⟨List.mem_of_getElem? (i := 331) (by decide +kernel), by decide +kernel⟩
theorem t_332 : (Jvm.Cond.laysFinal "ModelDeskModel" "ModelDeskModel" "lasts" "[I") ∈ tbG := List.mem_filter.mpr ⟨List.mem_of_getElem? (i := 332) (by decide +kernel), by decide +kernel⟩
theorem t_333 : (Jvm.Cond.soleField "ModelDeskModel" "lasts") ∈ tbG := List.mem_filter.mpr ⟨List.mem_of_getElem? (i := 333) (by decide +kernel), by decide +kernel⟩
theorem t_334 : (Jvm.Cond.laysFinal "ModelDeskModel" "ModelDeskModel" "sorts" "[I") ∈ tbG := List.mem_filter.mpr ⟨List.mem_of_getElem? (i := 334) (by decide +kernel), by decide +kernel⟩
theorem t_335 : (Jvm.Cond.soleField "ModelDeskModel" "sorts") ∈ tbG := List.mem_filter.mpr ⟨List.mem_of_getElem? (i := 335) (by decide +kernel), by decide +kernel⟩
theorem t_336 : (Jvm.Cond.lays "ModelDeskModel" "ModelDeskModel" "root" "I") ∈ tbG := List.mem_filter.mpr ⟨List.mem_of_getElem? (i := 336) (by decide +kernel), by decide +kernel⟩
theorem t_337 : (Jvm.Cond.soleField "ModelDeskModel" "root") ∈ tbG := List.mem_filter.mpr ⟨List.mem_of_getElem? (i := 337) (by decide +kernel), by decide +kernel⟩
theorem t_338 : (Jvm.Cond.lays "ModelDeskModel" "ModelDeskModel" "came" "I") ∈ tbG := List.mem_filter.mpr ⟨List.mem_of_getElem? (i := 338) (by decide +kernel), by decide +kernel⟩
theorem t_339 : (Jvm.Cond.soleField "ModelDeskModel" "came") ∈ tbG := List.mem_filter.mpr ⟨List.mem_of_getElem? (i := 339) (by decide +kernel), by decide +kernel⟩
theorem t_340 : (Jvm.Cond.lays "ModelDeskModel" "ModelDeskModel" "now" "J") ∈ tbG := List.mem_filter.mpr ⟨List.mem_of_getElem? (i := 340) (by decide +kernel), by decide +kernel⟩
theorem t_341 : (Jvm.Cond.soleField "ModelDeskModel" "now") ∈ tbG := List.mem_filter.mpr ⟨List.mem_of_getElem? (i := 341) (by decide +kernel), by decide +kernel⟩
theorem t_342 : (Jvm.Cond.superclass "ModelDeskModel" "java/lang/Object") ∈ tbG := List.mem_filter.mpr ⟨List.mem_of_getElem? (i := 342) (by decide +kernel), by decide +kernel⟩
theorem t_343 : (Jvm.Cond.methodLink "ModelDeskLaw" (19 : Nat) ({ cls := "ModelDeskModel", name := "put", desc := "(JI)Z" } : Jvm.MethodName)) ∈ tbG := List.mem_filter.mpr ⟨List.mem_of_getElem? (i := 343) (by decide +kernel), by decide +kernel⟩
theorem t_344 : (Jvm.Cond.instanceMethod ({ cls := "ModelDeskModel", name := "put", desc := "(JI)Z" } : Jvm.MethodName)) ∈ tbG := List.mem_filter.mpr ⟨List.mem_of_getElem? (i := 344) (by decide +kernel), by decide +kernel⟩
theorem t_345 : (Jvm.Cond.selects "ModelDeskModel" ({ cls := "ModelDeskModel", name := "put", desc := "(JI)Z" } : Jvm.MethodName) ({ cls := "ModelDeskModel", name := "put", desc := "(JI)Z" } : Jvm.MethodName)) ∈ tbG := List.mem_filter.mpr ⟨List.mem_of_getElem? (i := 345) (by decide +kernel), by decide +kernel⟩
theorem t_346 : (Jvm.Cond.code ({ cls := "ModelDeskModel", name := "put", desc := "(JI)Z" } : Jvm.MethodName) prog_5_method_2_code (5 : Nat) (Option.some Jvm.ClassFile.FieldType.boolean)) ∈ tbG := List.mem_filter.mpr ⟨List.mem_of_getElem? (i := 346) (by decide +kernel), by decide +kernel⟩
theorem t_347 : (Jvm.Cond.constantLong "ModelDeskModel" (45 : Nat) (255 : Int64)) ∈ tbG := List.mem_filter.mpr ⟨List.mem_of_getElem? (i := 347) (by decide +kernel), by decide +kernel⟩
theorem t_348 : (Jvm.Cond.methodLink "ModelDeskLaw" (24 : Nat) ({ cls := "ModelDeskModel", name := "read", desc := "()I" } : Jvm.MethodName)) ∈ tbG := List.mem_filter.mpr ⟨List.mem_of_getElem? (i := 348) (by decide +kernel), by decide +kernel⟩
theorem t_349 : (Jvm.Cond.instanceMethod ({ cls := "ModelDeskModel", name := "read", desc := "()I" } : Jvm.MethodName)) ∈ tbG := List.mem_filter.mpr ⟨List.mem_of_getElem? (i := 349) (by decide +kernel), by decide +kernel⟩
theorem t_350 : (Jvm.Cond.selects "ModelDeskModel" ({ cls := "ModelDeskModel", name := "read", desc := "()I" } : Jvm.MethodName) ({ cls := "ModelDeskModel", name := "read", desc := "()I" } : Jvm.MethodName)) ∈ tbG := List.mem_filter.mpr ⟨List.mem_of_getElem? (i := 350) (by decide +kernel), by decide +kernel⟩
theorem t_351 : (Jvm.Cond.code ({ cls := "ModelDeskModel", name := "read", desc := "()I" } : Jvm.MethodName) prog_5_method_11_code (2 : Nat) (Option.some Jvm.ClassFile.FieldType.int)) ∈ tbG := List.mem_filter.mpr ⟨List.mem_of_getElem? (i := 351) (by decide +kernel), by decide +kernel⟩
theorem t_352 : (Jvm.Cond.methodLink "ModelDeskModel" (93 : Nat) ({ cls := "ModelDeskModel", name := "parse", desc := "()I" } : Jvm.MethodName)) ∈ tbG := List.mem_filter.mpr ⟨List.mem_of_getElem? (i := 352) (by decide +kernel), by decide +kernel⟩
theorem t_354 : (Jvm.Cond.instanceMethod ({ cls := "ModelDeskModel", name := "parse", desc := "()I" } : Jvm.MethodName)) ∈ tbG := List.mem_filter.mpr ⟨List.mem_of_getElem? (i := 354) (by decide +kernel), by decide +kernel⟩
theorem t_355 : (Jvm.Cond.code ({ cls := "ModelDeskModel", name := "parse", desc := "()I" } : Jvm.MethodName) prog_5_method_10_code (5 : Nat) (Option.some Jvm.ClassFile.FieldType.int)) ∈ tbG := List.mem_filter.mpr ⟨List.mem_of_getElem? (i := 355) (by decide +kernel), by decide +kernel⟩
theorem t_356 : (Jvm.Cond.methodLink "ModelDeskModel" (57 : Nat) ({ cls := "ModelDeskModel", name := "at", desc := "(I)I" } : Jvm.MethodName)) ∈ tbG := List.mem_filter.mpr ⟨List.mem_of_getElem? (i := 356) (by decide +kernel), by decide +kernel⟩
theorem t_358 : (Jvm.Cond.instanceMethod ({ cls := "ModelDeskModel", name := "at", desc := "(I)I" } : Jvm.MethodName)) ∈ tbG := List.mem_filter.mpr ⟨List.mem_of_getElem? (i := 358) (by decide +kernel), by decide +kernel⟩
theorem t_359 : (Jvm.Cond.code ({ cls := "ModelDeskModel", name := "at", desc := "(I)I" } : Jvm.MethodName) prog_5_method_3_code (2 : Nat) (Option.some Jvm.ClassFile.FieldType.int)) ∈ tbG := List.mem_filter.mpr ⟨List.mem_of_getElem? (i := 359) (by decide +kernel), by decide +kernel⟩
theorem t_360 : (Jvm.Cond.methodLink "ModelDeskModel" (60 : Nat) ({ cls := "ModelDeskModel", name := "open", desc := "()Z" } : Jvm.MethodName)) ∈ tbG := List.mem_filter.mpr ⟨List.mem_of_getElem? (i := 360) (by decide +kernel), by decide +kernel⟩
theorem t_362 : (Jvm.Cond.instanceMethod ({ cls := "ModelDeskModel", name := "open", desc := "()Z" } : Jvm.MethodName)) ∈ tbG := List.mem_filter.mpr ⟨List.mem_of_getElem? (i := 362) (by decide +kernel), by decide +kernel⟩
theorem t_363 : (Jvm.Cond.code ({ cls := "ModelDeskModel", name := "open", desc := "()Z" } : Jvm.MethodName) prog_5_method_9_code (1 : Nat) (Option.some Jvm.ClassFile.FieldType.boolean)) ∈ tbG := List.mem_filter.mpr ⟨List.mem_of_getElem? (i := 363) (by decide +kernel), by decide +kernel⟩
theorem t_364 : (Jvm.Cond.methodLink "ModelDeskModel" (53 : Nat) ({ cls := "ModelDeskModel", name := "node", desc := "(I)I" } : Jvm.MethodName)) ∈ tbG := List.mem_filter.mpr ⟨List.mem_of_getElem? (i := 364) (by decide +kernel), by decide +kernel⟩
theorem t_366 : (Jvm.Cond.instanceMethod ({ cls := "ModelDeskModel", name := "node", desc := "(I)I" } : Jvm.MethodName)) ∈ tbG := List.mem_filter.mpr ⟨List.mem_of_getElem? (i := 366) (by decide +kernel), by decide +kernel⟩
theorem t_367 : (Jvm.Cond.code ({ cls := "ModelDeskModel", name := "node", desc := "(I)I" } : Jvm.MethodName) prog_5_method_4_code (2 : Nat) (Option.some Jvm.ClassFile.FieldType.int)) ∈ tbG := List.mem_filter.mpr ⟨List.mem_of_getElem? (i := 367) (by decide +kernel), by decide +kernel⟩
theorem t_368 : (Jvm.Cond.methodLink "ModelDeskModel" (67 : Nat) ({ cls := "ModelDeskModel", name := "isSign", desc := "(I)Z" } : Jvm.MethodName)) ∈ tbG := List.mem_filter.mpr ⟨List.mem_of_getElem? (i := 368) (by decide +kernel), by decide +kernel⟩
theorem t_369 : (Jvm.Cond.static ({ cls := "ModelDeskModel", name := "isSign", desc := "(I)Z" } : Jvm.MethodName)) ∈ tbG := List.mem_filter.mpr ⟨List.mem_of_getElem? (i := 369) (by decide +kernel), by decide +kernel⟩
theorem t_370 : (Jvm.Cond.code ({ cls := "ModelDeskModel", name := "isSign", desc := "(I)Z" } : Jvm.MethodName) prog_5_method_7_code (1 : Nat) (Option.some Jvm.ClassFile.FieldType.boolean)) ∈ tbG := List.mem_filter.mpr ⟨List.mem_of_getElem? (i := 370) (by decide +kernel), by decide +kernel⟩
theorem t_371 : (Jvm.Cond.methodLink "ModelDeskModel" (71 : Nat) ({ cls := "ModelDeskModel", name := "signed", desc := "(II)I" } : Jvm.MethodName)) ∈ tbG := List.mem_filter.mpr ⟨List.mem_of_getElem? (i := 371) (by decide +kernel), by decide +kernel⟩
theorem t_373 : (Jvm.Cond.instanceMethod ({ cls := "ModelDeskModel", name := "signed", desc := "(II)I" } : Jvm.MethodName)) ∈ tbG := List.mem_filter.mpr ⟨List.mem_of_getElem? (i := 373) (by decide +kernel), by decide +kernel⟩
theorem t_374 : (Jvm.Cond.code ({ cls := "ModelDeskModel", name := "signed", desc := "(II)I" } : Jvm.MethodName) prog_5_method_6_code (4 : Nat) (Option.some Jvm.ClassFile.FieldType.int)) ∈ tbG := List.mem_filter.mpr ⟨List.mem_of_getElem? (i := 374) (by decide +kernel), by decide +kernel⟩
theorem t_375 : (Jvm.Cond.methodLink "ModelDeskModel" (75 : Nat) ({ cls := "ModelDeskModel", name := "add", desc := "(I)V" } : Jvm.MethodName)) ∈ tbG := List.mem_filter.mpr ⟨List.mem_of_getElem? (i := 375) (by decide +kernel), by decide +kernel⟩
theorem t_377 : (Jvm.Cond.instanceMethod ({ cls := "ModelDeskModel", name := "add", desc := "(I)V" } : Jvm.MethodName)) ∈ tbG := List.mem_filter.mpr ⟨List.mem_of_getElem? (i := 377) (by decide +kernel), by decide +kernel⟩
theorem t_378 : (Jvm.Cond.code ({ cls := "ModelDeskModel", name := "add", desc := "(I)V" } : Jvm.MethodName) prog_5_method_5_code (3 : Nat) (Option.none : Option Jvm.ClassFile.FieldType)) ∈ tbG := List.mem_filter.mpr ⟨List.mem_of_getElem? (i := 378) (by decide +kernel), by decide +kernel⟩
theorem t_379 : (Jvm.Cond.methodLink "ModelDeskModel" (79 : Nat) ({ cls := "ModelDeskModel", name := "close", desc := "()I" } : Jvm.MethodName)) ∈ tbG := List.mem_filter.mpr ⟨List.mem_of_getElem? (i := 379) (by decide +kernel), by decide +kernel⟩
theorem t_381 : (Jvm.Cond.instanceMethod ({ cls := "ModelDeskModel", name := "close", desc := "()I" } : Jvm.MethodName)) ∈ tbG := List.mem_filter.mpr ⟨List.mem_of_getElem? (i := 381) (by decide +kernel), by decide +kernel⟩
theorem t_382 : (Jvm.Cond.code ({ cls := "ModelDeskModel", name := "close", desc := "()I" } : Jvm.MethodName) prog_5_method_8_code (5 : Nat) (Option.some Jvm.ClassFile.FieldType.int)) ∈ tbG := List.mem_filter.mpr ⟨List.mem_of_getElem? (i := 382) (by decide +kernel), by decide +kernel⟩
theorem t_383 : (Jvm.Cond.methodLink "ModelDeskLaw" (42 : Nat) ({ cls := "ModelDeskModel", name := "first", desc := "()J" } : Jvm.MethodName)) ∈ tbG := List.mem_filter.mpr ⟨List.mem_of_getElem? (i := 383) (by decide +kernel), by decide +kernel⟩
theorem t_384 : (Jvm.Cond.instanceMethod ({ cls := "ModelDeskModel", name := "first", desc := "()J" } : Jvm.MethodName)) ∈ tbG := List.mem_filter.mpr ⟨List.mem_of_getElem? (i := 384) (by decide +kernel), by decide +kernel⟩
theorem t_385 : (Jvm.Cond.selects "ModelDeskModel" ({ cls := "ModelDeskModel", name := "first", desc := "()J" } : Jvm.MethodName) ({ cls := "ModelDeskModel", name := "first", desc := "()J" } : Jvm.MethodName)) ∈ tbG := List.mem_filter.mpr ⟨List.mem_of_getElem? (i := 385) (by decide +kernel), by decide +kernel⟩
theorem t_386 : (Jvm.Cond.code ({ cls := "ModelDeskModel", name := "first", desc := "()J" } : Jvm.MethodName) prog_5_method_15_code (1 : Nat) (Option.some Jvm.ClassFile.FieldType.long)) ∈ tbG := List.mem_filter.mpr ⟨List.mem_of_getElem? (i := 386) (by decide +kernel), by decide +kernel⟩
theorem t_387 : (Jvm.Cond.methodLink "ModelDeskModel" (104 : Nat) ({ cls := "ModelDeskModel", name := "firsts", desc := "(I)J" } : Jvm.MethodName)) ∈ tbG := List.mem_filter.mpr ⟨List.mem_of_getElem? (i := 387) (by decide +kernel), by decide +kernel⟩
theorem t_389 : (Jvm.Cond.instanceMethod ({ cls := "ModelDeskModel", name := "firsts", desc := "(I)J" } : Jvm.MethodName)) ∈ tbG := List.mem_filter.mpr ⟨List.mem_of_getElem? (i := 389) (by decide +kernel), by decide +kernel⟩
theorem t_390 : (Jvm.Cond.code ({ cls := "ModelDeskModel", name := "firsts", desc := "(I)J" } : Jvm.MethodName) prog_5_method_13_code (5 : Nat) (Option.some Jvm.ClassFile.FieldType.long)) ∈ tbG := List.mem_filter.mpr ⟨List.mem_of_getElem? (i := 390) (by decide +kernel), by decide +kernel⟩
theorem t_391 : (Jvm.Cond.methodLink "ModelDeskModel" (100 : Nat) ({ cls := "ModelDeskModel", name := "begins", desc := "(II)Z" } : Jvm.MethodName)) ∈ tbG := List.mem_filter.mpr ⟨List.mem_of_getElem? (i := 391) (by decide +kernel), by decide +kernel⟩
theorem t_393 : (Jvm.Cond.instanceMethod ({ cls := "ModelDeskModel", name := "begins", desc := "(II)Z" } : Jvm.MethodName)) ∈ tbG := List.mem_filter.mpr ⟨List.mem_of_getElem? (i := 393) (by decide +kernel), by decide +kernel⟩
theorem t_394 : (Jvm.Cond.code ({ cls := "ModelDeskModel", name := "begins", desc := "(II)Z" } : Jvm.MethodName) prog_5_method_12_code (6 : Nat) (Option.some Jvm.ClassFile.FieldType.boolean)) ∈ tbG := List.mem_filter.mpr ⟨List.mem_of_getElem? (i := 394) (by decide +kernel), by decide +kernel⟩
theorem t_395 : (Jvm.Cond.methodLink "ModelDeskLaw" (47 : Nat) ({ cls := "ModelDeskModel", name := "next", desc := "(I)J" } : Jvm.MethodName)) ∈ tbG := List.mem_filter.mpr ⟨List.mem_of_getElem? (i := 395) (by decide +kernel), by decide +kernel⟩
theorem t_396 : (Jvm.Cond.instanceMethod ({ cls := "ModelDeskModel", name := "next", desc := "(I)J" } : Jvm.MethodName)) ∈ tbG := List.mem_filter.mpr ⟨List.mem_of_getElem? (i := 396) (by decide +kernel), by decide +kernel⟩
theorem t_397 : (Jvm.Cond.selects "ModelDeskModel" ({ cls := "ModelDeskModel", name := "next", desc := "(I)J" } : Jvm.MethodName) ({ cls := "ModelDeskModel", name := "next", desc := "(I)J" } : Jvm.MethodName)) ∈ tbG := List.mem_filter.mpr ⟨List.mem_of_getElem? (i := 397) (by decide +kernel), by decide +kernel⟩
theorem t_398 : (Jvm.Cond.code ({ cls := "ModelDeskModel", name := "next", desc := "(I)J" } : Jvm.MethodName) prog_5_method_16_code (7 : Nat) (Option.some Jvm.ClassFile.FieldType.long)) ∈ tbG := List.mem_filter.mpr ⟨List.mem_of_getElem? (i := 398) (by decide +kernel), by decide +kernel⟩
theorem t_399 : (Jvm.Cond.methodLink "ModelDeskLaw" (51 : Nat) ({ cls := "ModelDeskModel", name := "last", desc := "()J" } : Jvm.MethodName)) ∈ tbG := List.mem_filter.mpr ⟨List.mem_of_getElem? (i := 399) (by decide +kernel), by decide +kernel⟩
theorem t_400 : (Jvm.Cond.instanceMethod ({ cls := "ModelDeskModel", name := "last", desc := "()J" } : Jvm.MethodName)) ∈ tbG := List.mem_filter.mpr ⟨List.mem_of_getElem? (i := 400) (by decide +kernel), by decide +kernel⟩
theorem t_401 : (Jvm.Cond.selects "ModelDeskModel" ({ cls := "ModelDeskModel", name := "last", desc := "()J" } : Jvm.MethodName) ({ cls := "ModelDeskModel", name := "last", desc := "()J" } : Jvm.MethodName)) ∈ tbG := List.mem_filter.mpr ⟨List.mem_of_getElem? (i := 401) (by decide +kernel), by decide +kernel⟩
theorem t_402 : (Jvm.Cond.code ({ cls := "ModelDeskModel", name := "last", desc := "()J" } : Jvm.MethodName) prog_5_method_17_code (4 : Nat) (Option.some Jvm.ClassFile.FieldType.long)) ∈ tbG := List.mem_filter.mpr ⟨List.mem_of_getElem? (i := 402) (by decide +kernel), by decide +kernel⟩
theorem t_403 : (Jvm.Cond.methodLink "ModelDeskModel" (108 : Nat) ({ cls := "ModelDeskModel", name := "ends", desc := "(I)Z" } : Jvm.MethodName)) ∈ tbG := List.mem_filter.mpr ⟨List.mem_of_getElem? (i := 403) (by decide +kernel), by decide +kernel⟩
theorem t_405 : (Jvm.Cond.instanceMethod ({ cls := "ModelDeskModel", name := "ends", desc := "(I)Z" } : Jvm.MethodName)) ∈ tbG := List.mem_filter.mpr ⟨List.mem_of_getElem? (i := 405) (by decide +kernel), by decide +kernel⟩
theorem t_406 : (Jvm.Cond.code ({ cls := "ModelDeskModel", name := "ends", desc := "(I)Z" } : Jvm.MethodName) prog_5_method_14_code (4 : Nat) (Option.some Jvm.ClassFile.FieldType.boolean)) ∈ tbG := List.mem_filter.mpr ⟨List.mem_of_getElem? (i := 406) (by decide +kernel), by decide +kernel⟩
theorem t_407 : (Jvm.Cond.methodLink "ModelDeskLaw" (33 : Nat) ({ cls := "ModelDeskModel", name := "competing", desc := "()I" } : Jvm.MethodName)) ∈ tbG := List.mem_filter.mpr ⟨List.mem_of_getElem? (i := 407) (by decide +kernel), by decide +kernel⟩
theorem t_408 : (Jvm.Cond.instanceMethod ({ cls := "ModelDeskModel", name := "competing", desc := "()I" } : Jvm.MethodName)) ∈ tbG := List.mem_filter.mpr ⟨List.mem_of_getElem? (i := 408) (by decide +kernel), by decide +kernel⟩
theorem t_409 : (Jvm.Cond.selects "ModelDeskModel" ({ cls := "ModelDeskModel", name := "competing", desc := "()I" } : Jvm.MethodName) ({ cls := "ModelDeskModel", name := "competing", desc := "()I" } : Jvm.MethodName)) ∈ tbG := List.mem_filter.mpr ⟨List.mem_of_getElem? (i := 409) (by decide +kernel), by decide +kernel⟩
theorem t_410 : (Jvm.Cond.code ({ cls := "ModelDeskModel", name := "competing", desc := "()I" } : Jvm.MethodName) prog_5_method_19_code (3 : Nat) (Option.some Jvm.ClassFile.FieldType.int)) ∈ tbG := List.mem_filter.mpr ⟨List.mem_of_getElem? (i := 410) (by decide +kernel), by decide +kernel⟩
theorem t_411 : (Jvm.Cond.methodLink "ModelDeskModel" (111 : Nat) ({ cls := "ModelDeskModel", name := "first", desc := "()J" } : Jvm.MethodName)) ∈ tbG := List.mem_filter.mpr ⟨List.mem_of_getElem? (i := 411) (by decide +kernel), by decide +kernel⟩
theorem t_412 : (Jvm.Cond.methodLink "ModelDeskModel" (115 : Nat) ({ cls := "ModelDeskModel", name := "twice", desc := "(J)I" } : Jvm.MethodName)) ∈ tbG := List.mem_filter.mpr ⟨List.mem_of_getElem? (i := 412) (by decide +kernel), by decide +kernel⟩
theorem t_414 : (Jvm.Cond.instanceMethod ({ cls := "ModelDeskModel", name := "twice", desc := "(J)I" } : Jvm.MethodName)) ∈ tbG := List.mem_filter.mpr ⟨List.mem_of_getElem? (i := 414) (by decide +kernel), by decide +kernel⟩
theorem t_415 : (Jvm.Cond.code ({ cls := "ModelDeskModel", name := "twice", desc := "(J)I" } : Jvm.MethodName) prog_5_method_18_code (7 : Nat) (Option.some Jvm.ClassFile.FieldType.int)) ∈ tbG := List.mem_filter.mpr ⟨List.mem_of_getElem? (i := 415) (by decide +kernel), by decide +kernel⟩
theorem t_416 : (Jvm.Cond.methodLink "ModelDeskModel" (119 : Nat) ({ cls := "ModelDeskModel", name := "next", desc := "(I)J" } : Jvm.MethodName)) ∈ tbG := List.mem_filter.mpr ⟨List.mem_of_getElem? (i := 416) (by decide +kernel), by decide +kernel⟩
theorem t_417 : (Jvm.Cond.methodLink "ModelDeskLaw" (29 : Nat) ({ cls := "ModelDeskModel", name := "isClear", desc := "()Z" } : Jvm.MethodName)) ∈ tbG := List.mem_filter.mpr ⟨List.mem_of_getElem? (i := 417) (by decide +kernel), by decide +kernel⟩
theorem t_418 : (Jvm.Cond.instanceMethod ({ cls := "ModelDeskModel", name := "isClear", desc := "()Z" } : Jvm.MethodName)) ∈ tbG := List.mem_filter.mpr ⟨List.mem_of_getElem? (i := 418) (by decide +kernel), by decide +kernel⟩
theorem t_419 : (Jvm.Cond.selects "ModelDeskModel" ({ cls := "ModelDeskModel", name := "isClear", desc := "()Z" } : Jvm.MethodName) ({ cls := "ModelDeskModel", name := "isClear", desc := "()Z" } : Jvm.MethodName)) ∈ tbG := List.mem_filter.mpr ⟨List.mem_of_getElem? (i := 419) (by decide +kernel), by decide +kernel⟩
theorem t_420 : (Jvm.Cond.code ({ cls := "ModelDeskModel", name := "isClear", desc := "()Z" } : Jvm.MethodName) prog_5_method_20_code (1 : Nat) (Option.some Jvm.ClassFile.FieldType.boolean)) ∈ tbG := List.mem_filter.mpr ⟨List.mem_of_getElem? (i := 420) (by decide +kernel), by decide +kernel⟩
theorem t_421 : (Jvm.Cond.methodLink "ModelDeskModel" (122 : Nat) ({ cls := "ModelDeskModel", name := "competing", desc := "()I" } : Jvm.MethodName)) ∈ tbG := List.mem_filter.mpr ⟨List.mem_of_getElem? (i := 421) (by decide +kernel), by decide +kernel⟩
theorem t_422 : (Jvm.Cond.methodLink "ModelDeskLaw" (37 : Nat) ({ cls := "ModelDeskModel", name := "isEmpty", desc := "()Z" } : Jvm.MethodName)) ∈ tbG := List.mem_filter.mpr ⟨List.mem_of_getElem? (i := 422) (by decide +kernel), by decide +kernel⟩
theorem t_423 : (Jvm.Cond.instanceMethod ({ cls := "ModelDeskModel", name := "isEmpty", desc := "()Z" } : Jvm.MethodName)) ∈ tbG := List.mem_filter.mpr ⟨List.mem_of_getElem? (i := 423) (by decide +kernel), by decide +kernel⟩
theorem t_424 : (Jvm.Cond.selects "ModelDeskModel" ({ cls := "ModelDeskModel", name := "isEmpty", desc := "()Z" } : Jvm.MethodName) ({ cls := "ModelDeskModel", name := "isEmpty", desc := "()Z" } : Jvm.MethodName)) ∈ tbG := List.mem_filter.mpr ⟨List.mem_of_getElem? (i := 424) (by decide +kernel), by decide +kernel⟩
theorem t_425 : (Jvm.Cond.code ({ cls := "ModelDeskModel", name := "isEmpty", desc := "()Z" } : Jvm.MethodName) prog_5_method_21_code (1 : Nat) (Option.some Jvm.ClassFile.FieldType.boolean)) ∈ tbG := List.mem_filter.mpr ⟨List.mem_of_getElem? (i := 425) (by decide +kernel), by decide +kernel⟩
theorem t_426 : (Jvm.Cond.methodLink "ModelDeskLaw" (56 : Nat) ({ cls := "ModelDeskModel", name := "name", desc := "(I)I" } : Jvm.MethodName)) ∈ tbG := List.mem_filter.mpr ⟨List.mem_of_getElem? (i := 426) (by decide +kernel), by decide +kernel⟩
theorem t_427 : (Jvm.Cond.instanceMethod ({ cls := "ModelDeskModel", name := "name", desc := "(I)I" } : Jvm.MethodName)) ∈ tbG := List.mem_filter.mpr ⟨List.mem_of_getElem? (i := 427) (by decide +kernel), by decide +kernel⟩
theorem t_428 : (Jvm.Cond.selects "ModelDeskModel" ({ cls := "ModelDeskModel", name := "name", desc := "(I)I" } : Jvm.MethodName) ({ cls := "ModelDeskModel", name := "name", desc := "(I)I" } : Jvm.MethodName)) ∈ tbG := List.mem_filter.mpr ⟨List.mem_of_getElem? (i := 428) (by decide +kernel), by decide +kernel⟩
theorem t_429 : (Jvm.Cond.code ({ cls := "ModelDeskModel", name := "name", desc := "(I)I" } : Jvm.MethodName) prog_5_method_22_code (2 : Nat) (Option.some Jvm.ClassFile.FieldType.int)) ∈ tbG := List.mem_filter.mpr ⟨List.mem_of_getElem? (i := 429) (by decide +kernel), by decide +kernel⟩
theorem t_430 : (Jvm.Cond.methodLink "ModelDeskLaw" (61 : Nat) ({ cls := "ModelDeskModel", name := "come", desc := "(I)Z" } : Jvm.MethodName)) ∈ tbG := List.mem_filter.mpr ⟨List.mem_of_getElem? (i := 430) (by decide +kernel), by decide +kernel⟩
theorem t_431 : (Jvm.Cond.instanceMethod ({ cls := "ModelDeskModel", name := "come", desc := "(I)Z" } : Jvm.MethodName)) ∈ tbG := List.mem_filter.mpr ⟨List.mem_of_getElem? (i := 431) (by decide +kernel), by decide +kernel⟩
theorem t_432 : (Jvm.Cond.selects "ModelDeskModel" ({ cls := "ModelDeskModel", name := "come", desc := "(I)Z" } : Jvm.MethodName) ({ cls := "ModelDeskModel", name := "come", desc := "(I)Z" } : Jvm.MethodName)) ∈ tbG := List.mem_filter.mpr ⟨List.mem_of_getElem? (i := 432) (by decide +kernel), by decide +kernel⟩
theorem t_433 : (Jvm.Cond.code ({ cls := "ModelDeskModel", name := "come", desc := "(I)Z" } : Jvm.MethodName) prog_5_method_24_code (7 : Nat) (Option.some Jvm.ClassFile.FieldType.boolean)) ∈ tbG := List.mem_filter.mpr ⟨List.mem_of_getElem? (i := 433) (by decide +kernel), by decide +kernel⟩
theorem t_434 : (Jvm.Cond.methodLink "ModelDeskModel" (125 : Nat) ({ cls := "ModelDeskModel", name := "able", desc := "(J)J" } : Jvm.MethodName)) ∈ tbG := List.mem_filter.mpr ⟨List.mem_of_getElem? (i := 434) (by decide +kernel), by decide +kernel⟩
theorem t_436 : (Jvm.Cond.instanceMethod ({ cls := "ModelDeskModel", name := "able", desc := "(J)J" } : Jvm.MethodName)) ∈ tbG := List.mem_filter.mpr ⟨List.mem_of_getElem? (i := 436) (by decide +kernel), by decide +kernel⟩
theorem t_437 : (Jvm.Cond.code ({ cls := "ModelDeskModel", name := "able", desc := "(J)J" } : Jvm.MethodName) prog_5_method_23_code (6 : Nat) (Option.some Jvm.ClassFile.FieldType.long)) ∈ tbG := List.mem_filter.mpr ⟨List.mem_of_getElem? (i := 437) (by decide +kernel), by decide +kernel⟩
theorem t_438 : (Jvm.Cond.methodLink "ModelDeskLaw" (65 : Nat) ({ cls := "ModelDeskModel", name := "isWhole", desc := "()Z" } : Jvm.MethodName)) ∈ tbG := List.mem_filter.mpr ⟨List.mem_of_getElem? (i := 438) (by decide +kernel), by decide +kernel⟩
theorem t_439 : (Jvm.Cond.instanceMethod ({ cls := "ModelDeskModel", name := "isWhole", desc := "()Z" } : Jvm.MethodName)) ∈ tbG := List.mem_filter.mpr ⟨List.mem_of_getElem? (i := 439) (by decide +kernel), by decide +kernel⟩
theorem t_440 : (Jvm.Cond.selects "ModelDeskModel" ({ cls := "ModelDeskModel", name := "isWhole", desc := "()Z" } : Jvm.MethodName) ({ cls := "ModelDeskModel", name := "isWhole", desc := "()Z" } : Jvm.MethodName)) ∈ tbG := List.mem_filter.mpr ⟨List.mem_of_getElem? (i := 440) (by decide +kernel), by decide +kernel⟩
theorem t_441 : (Jvm.Cond.code ({ cls := "ModelDeskModel", name := "isWhole", desc := "()Z" } : Jvm.MethodName) prog_5_method_25_code (1 : Nat) (Option.some Jvm.ClassFile.FieldType.boolean)) ∈ tbG := List.mem_filter.mpr ⟨List.mem_of_getElem? (i := 441) (by decide +kernel), by decide +kernel⟩
theorem t_442 : (Jvm.Cond.methodLink "ModelDeskModel" (129 : Nat) ({ cls := "ModelDeskModel", name := "last", desc := "()J" } : Jvm.MethodName)) ∈ tbG := List.mem_filter.mpr ⟨List.mem_of_getElem? (i := 442) (by decide +kernel), by decide +kernel⟩
theorem t_443 : (Jvm.Cond.methodLink "ModelDeskLaw" (69 : Nat) ({ cls := "ModelDeskModel", name := "may", desc := "()I" } : Jvm.MethodName)) ∈ tbG := List.mem_filter.mpr ⟨List.mem_of_getElem? (i := 443) (by decide +kernel), by decide +kernel⟩
theorem t_444 : (Jvm.Cond.instanceMethod ({ cls := "ModelDeskModel", name := "may", desc := "()I" } : Jvm.MethodName)) ∈ tbG := List.mem_filter.mpr ⟨List.mem_of_getElem? (i := 444) (by decide +kernel), by decide +kernel⟩
theorem t_445 : (Jvm.Cond.selects "ModelDeskModel" ({ cls := "ModelDeskModel", name := "may", desc := "()I" } : Jvm.MethodName) ({ cls := "ModelDeskModel", name := "may", desc := "()I" } : Jvm.MethodName)) ∈ tbG := List.mem_filter.mpr ⟨List.mem_of_getElem? (i := 445) (by decide +kernel), by decide +kernel⟩
theorem t_446 : (Jvm.Cond.code ({ cls := "ModelDeskModel", name := "may", desc := "()I" } : Jvm.MethodName) prog_5_method_26_code (5 : Nat) (Option.some Jvm.ClassFile.FieldType.int)) ∈ tbG := List.mem_filter.mpr ⟨List.mem_of_getElem? (i := 446) (by decide +kernel), by decide +kernel⟩
theorem t_447 : (Jvm.Cond.methodLink "ModelDeskLaw" (73 : Nat) ({ cls := "ModelDeskModel", name := "again", desc := "()I" } : Jvm.MethodName)) ∈ tbG := List.mem_filter.mpr ⟨List.mem_of_getElem? (i := 447) (by decide +kernel), by decide +kernel⟩
theorem t_448 : (Jvm.Cond.instanceMethod ({ cls := "ModelDeskModel", name := "again", desc := "()I" } : Jvm.MethodName)) ∈ tbG := List.mem_filter.mpr ⟨List.mem_of_getElem? (i := 448) (by decide +kernel), by decide +kernel⟩
theorem t_449 : (Jvm.Cond.selects "ModelDeskModel" ({ cls := "ModelDeskModel", name := "again", desc := "()I" } : Jvm.MethodName) ({ cls := "ModelDeskModel", name := "again", desc := "()I" } : Jvm.MethodName)) ∈ tbG := List.mem_filter.mpr ⟨List.mem_of_getElem? (i := 449) (by decide +kernel), by decide +kernel⟩
theorem t_450 : (Jvm.Cond.code ({ cls := "ModelDeskModel", name := "again", desc := "()I" } : Jvm.MethodName) prog_5_method_27_code (2 : Nat) (Option.some Jvm.ClassFile.FieldType.int)) ∈ tbG := List.mem_filter.mpr ⟨List.mem_of_getElem? (i := 450) (by decide +kernel), by decide +kernel⟩
theorem t_451 : (Jvm.Cond.constantLong "ModelDeskLaw" (13 : Nat) (4294967295 : Int64)) ∈ tbG := List.mem_filter.mpr ⟨List.mem_of_getElem? (i := 451) (by decide +kernel), by decide +kernel⟩
theorem inX0 : ∀ w ∈ u_ws RX0 TX0 6, w ∈ tbG := by
  intro w hw
  obtain ⟨k, hk, rfl⟩ := List.mem_map.mp hw
  have hk := List.mem_range.mp hk
  rcases (show k = 0 ∨ k = 1 ∨ k = 2 ∨ k = 3 ∨ k = 4 ∨ k = 5 by omega) with rfl | rfl | rfl | rfl | rfl | rfl
  · exact t_63
  · exact t_65
  · exact t_67
  · exact t_69
  · exact t_71
  · exact t_73
theorem inX1 : ∀ w ∈ u_ws RX1 TX1 10, w ∈ tbG := by
  intro w hw
  obtain ⟨k, hk, rfl⟩ := List.mem_map.mp hw
  have hk := List.mem_range.mp hk
  rcases (show k = 0 ∨ k = 1 ∨ k = 2 ∨ k = 3 ∨ k = 4 ∨ k = 5 ∨ k = 6 ∨ k = 7 ∨ k = 8 ∨ k = 9 by omega) with rfl | rfl | rfl | rfl | rfl | rfl | rfl | rfl | rfl | rfl
  · exact t_90
  · exact t_92
  · exact t_94
  · exact t_96
  · exact t_98
  · exact t_100
  · exact t_102
  · exact t_104
  · exact t_106
  · exact t_108
theorem inX2 : ∀ w ∈ u_ws RX2 TX2 7, w ∈ tbG := by
  intro w hw
  obtain ⟨k, hk, rfl⟩ := List.mem_map.mp hw
  have hk := List.mem_range.mp hk
  rcases (show k = 0 ∨ k = 1 ∨ k = 2 ∨ k = 3 ∨ k = 4 ∨ k = 5 ∨ k = 6 by omega) with rfl | rfl | rfl | rfl | rfl | rfl | rfl
  · exact t_119
  · exact t_121
  · exact t_123
  · exact t_125
  · exact t_127
  · exact t_129
  · exact t_131
theorem inX3 : ∀ w ∈ u_ws RX3 TX3 18, w ∈ tbG := by
  intro w hw
  obtain ⟨k, hk, rfl⟩ := List.mem_map.mp hw
  have hk := List.mem_range.mp hk
  rcases (show k = 0 ∨ k = 1 ∨ k = 2 ∨ k = 3 ∨ k = 4 ∨ k = 5 ∨ k = 6 ∨ k = 7 ∨ k = 8 ∨ k = 9 ∨ k = 10 ∨ k = 11 ∨ k = 12 ∨ k = 13 ∨ k = 14 ∨ k = 15 ∨ k = 16 ∨ k = 17 by omega) with rfl | rfl | rfl | rfl | rfl | rfl | rfl | rfl | rfl | rfl | rfl | rfl | rfl | rfl | rfl | rfl | rfl | rfl
  · exact t_306
  · exact t_308
  · exact t_310
  · exact t_312
  · exact t_314
  · exact t_316
  · exact t_318
  · exact t_320
  · exact t_322
  · exact t_324
  · exact t_326
  · exact t_328
  · exact t_330
  · exact t_332
  · exact t_334
  · exact t_336
  · exact t_338
  · exact t_340
end
section
theorem dX0_init_0 : decode cX0_init 0 = .ok (.aload_n 0, 1) := by decide +kernel
theorem dX0_init_1 : decode cX0_init 1 = .ok (.invokespecial 1, 3) := by decide +kernel
theorem dX0_init_4 : decode cX0_init 4 = .ok (.aload_n 0, 1) := by decide +kernel
theorem dX0_init_5 : decode cX0_init 5 = .ok (.bipush 60, 2) := by decide +kernel
theorem dX0_init_7 : decode cX0_init 7 = .ok (.newarray .int, 2) := by decide +kernel
theorem dX0_init_9 : decode cX0_init 9 = .ok (.putfield 9, 3) := by decide +kernel
theorem dX0_init_12 : decode cX0_init 12 = .ok (.aload_n 0, 1) := by decide +kernel
theorem dX0_init_13 : decode cX0_init 13 = .ok (.bipush 60, 2) := by decide +kernel
theorem dX0_init_15 : decode cX0_init 15 = .ok (.newarray .long, 2) := by decide +kernel
theorem dX0_init_17 : decode cX0_init 17 = .ok (.putfield 13, 3) := by decide +kernel
theorem dX0_init_20 : decode cX0_init 20 = .ok (.return_, 1) := by decide +kernel
theorem dX0_clear_0 : decode cX0_clear 0 = .ok (.aload_n 0, 1) := by decide +kernel
theorem dX0_clear_1 : decode cX0_clear 1 = .ok (.iconst 0, 1) := by decide +kernel
theorem dX0_clear_2 : decode cX0_clear 2 = .ok (.putfield 17, 3) := by decide +kernel
theorem dX0_clear_5 : decode cX0_clear 5 = .ok (.aload_n 0, 1) := by decide +kernel
theorem dX0_clear_6 : decode cX0_clear 6 = .ok (.lconst 0, 1) := by decide +kernel
theorem dX0_clear_7 : decode cX0_clear 7 = .ok (.putfield 21, 3) := by decide +kernel
theorem dX0_clear_10 : decode cX0_clear 10 = .ok (.aload_n 0, 1) := by decide +kernel
theorem dX0_clear_11 : decode cX0_clear 11 = .ok (.lconst 0, 1) := by decide +kernel
theorem dX0_clear_12 : decode cX0_clear 12 = .ok (.putfield 25, 3) := by decide +kernel
theorem dX0_clear_15 : decode cX0_clear 15 = .ok (.aload_n 0, 1) := by decide +kernel
theorem dX0_clear_16 : decode cX0_clear 16 = .ok (.iconst 0, 1) := by decide +kernel
theorem dX0_clear_17 : decode cX0_clear 17 = .ok (.putfield 28, 3) := by decide +kernel
theorem dX0_clear_20 : decode cX0_clear 20 = .ok (.return_, 1) := by decide +kernel
theorem dX0_isFull_0 : decode cX0_isFull 0 = .ok (.aload_n 0, 1) := by decide +kernel
theorem dX0_isFull_1 : decode cX0_isFull 1 = .ok (.getfield 17, 3) := by decide +kernel
theorem dX0_isFull_4 : decode cX0_isFull 4 = .ok (.bipush 60, 2) := by decide +kernel
theorem dX0_isFull_6 : decode cX0_isFull 6 = .ok (.if_icmp .lt 7, 3) := by decide +kernel
theorem dX0_isFull_9 : decode cX0_isFull 9 = .ok (.iconst 1, 1) := by decide +kernel
theorem dX0_isFull_10 : decode cX0_isFull 10 = .ok (.goto 4, 3) := by decide +kernel
theorem dX0_isFull_13 : decode cX0_isFull 13 = .ok (.iconst 0, 1) := by decide +kernel
theorem dX0_isFull_14 : decode cX0_isFull 14 = .ok (.ireturn, 1) := by decide +kernel
theorem dX0_has_0 : decode cX0_has 0 = .ok (.iload_n 1, 1) := by decide +kernel
theorem dX0_has_1 : decode cX0_has 1 = .ok (.ifCond .lt 15, 3) := by decide +kernel
theorem dX0_has_4 : decode cX0_has 4 = .ok (.iload_n 1, 1) := by decide +kernel
theorem dX0_has_5 : decode cX0_has 5 = .ok (.aload_n 0, 1) := by decide +kernel
theorem dX0_has_6 : decode cX0_has 6 = .ok (.getfield 17, 3) := by decide +kernel
theorem dX0_has_9 : decode cX0_has 9 = .ok (.if_icmp .ge 7, 3) := by decide +kernel
theorem dX0_has_12 : decode cX0_has 12 = .ok (.iconst 1, 1) := by decide +kernel
theorem dX0_has_13 : decode cX0_has 13 = .ok (.goto 4, 3) := by decide +kernel
theorem dX0_has_16 : decode cX0_has 16 = .ok (.iconst 0, 1) := by decide +kernel
theorem dX0_has_17 : decode cX0_has 17 = .ok (.ireturn, 1) := by decide +kernel
theorem dX0_addPlace_0 : decode cX0_addPlace 0 = .ok (.aload_n 0, 1) := by decide +kernel
theorem dX0_addPlace_1 : decode cX0_addPlace 1 = .ok (.invokevirtual 32, 3) := by decide +kernel
theorem dX0_addPlace_4 : decode cX0_addPlace 4 = .ok (.ifCond .eq 4, 3) := by decide +kernel
theorem dX0_addPlace_7 : decode cX0_addPlace 7 = .ok (.return_, 1) := by decide +kernel
theorem dX0_addPlace_8 : decode cX0_addPlace 8 = .ok (.aload_n 0, 1) := by decide +kernel
theorem dX0_addPlace_9 : decode cX0_addPlace 9 = .ok (.getfield 9, 3) := by decide +kernel
theorem dX0_addPlace_12 : decode cX0_addPlace 12 = .ok (.aload_n 0, 1) := by decide +kernel
theorem dX0_addPlace_13 : decode cX0_addPlace 13 = .ok (.getfield 17, 3) := by decide +kernel
theorem dX0_addPlace_16 : decode cX0_addPlace 16 = .ok (.iload_n 1, 1) := by decide +kernel
theorem dX0_addPlace_17 : decode cX0_addPlace 17 = .ok (.iastore, 1) := by decide +kernel
theorem dX0_addPlace_18 : decode cX0_addPlace 18 = .ok (.aload_n 0, 1) := by decide +kernel
theorem dX0_addPlace_19 : decode cX0_addPlace 19 = .ok (.getfield 13, 3) := by decide +kernel
theorem dX0_addPlace_22 : decode cX0_addPlace 22 = .ok (.aload_n 0, 1) := by decide +kernel
theorem dX0_addPlace_23 : decode cX0_addPlace 23 = .ok (.getfield 17, 3) := by decide +kernel
theorem dX0_addPlace_26 : decode cX0_addPlace 26 = .ok (.lconst 0, 1) := by decide +kernel
theorem dX0_addPlace_27 : decode cX0_addPlace 27 = .ok (.lastore, 1) := by decide +kernel
theorem dX0_addPlace_28 : decode cX0_addPlace 28 = .ok (.aload_n 0, 1) := by decide +kernel
theorem dX0_addPlace_29 : decode cX0_addPlace 29 = .ok (.dup, 1) := by decide +kernel
theorem dX0_addPlace_30 : decode cX0_addPlace 30 = .ok (.getfield 17, 3) := by decide +kernel
theorem dX0_addPlace_33 : decode cX0_addPlace 33 = .ok (.iconst 1, 1) := by decide +kernel
theorem dX0_addPlace_34 : decode cX0_addPlace 34 = .ok (.iadd, 1) := by decide +kernel
theorem dX0_addPlace_35 : decode cX0_addPlace 35 = .ok (.putfield 17, 3) := by decide +kernel
theorem dX0_addPlace_38 : decode cX0_addPlace 38 = .ok (.return_, 1) := by decide +kernel
theorem dX0_connect_0 : decode cX0_connect 0 = .ok (.iconst 0, 1) := by decide +kernel
theorem dX0_connect_1 : decode cX0_connect 1 = .ok (.istore 5, 2) := by decide +kernel
theorem dX0_connect_3 : decode cX0_connect 3 = .ok (.iload 5, 2) := by decide +kernel
theorem dX0_connect_5 : decode cX0_connect 5 = .ok (.aload_n 0, 1) := by decide +kernel
theorem dX0_connect_6 : decode cX0_connect 6 = .ok (.getfield 17, 3) := by decide +kernel
theorem dX0_connect_9 : decode cX0_connect 9 = .ok (.if_icmp .ge 29, 3) := by decide +kernel
theorem dX0_connect_12 : decode cX0_connect 12 = .ok (.lload_n 1, 1) := by decide +kernel
theorem dX0_connect_13 : decode cX0_connect 13 = .ok (.iload 5, 2) := by decide +kernel
theorem dX0_connect_15 : decode cX0_connect 15 = .ok (.invokestatic 36, 3) := by decide +kernel
theorem dX0_connect_18 : decode cX0_connect 18 = .ok (.ifCond .eq 14, 3) := by decide +kernel
theorem dX0_connect_21 : decode cX0_connect 21 = .ok (.aload_n 0, 1) := by decide +kernel
theorem dX0_connect_22 : decode cX0_connect 22 = .ok (.getfield 13, 3) := by decide +kernel
theorem dX0_connect_25 : decode cX0_connect 25 = .ok (.iload 5, 2) := by decide +kernel
theorem dX0_connect_27 : decode cX0_connect 27 = .ok (.dup2, 1) := by decide +kernel
theorem dX0_connect_28 : decode cX0_connect 28 = .ok (.laload, 1) := by decide +kernel
theorem dX0_connect_29 : decode cX0_connect 29 = .ok (.lload_n 3, 1) := by decide +kernel
theorem dX0_connect_30 : decode cX0_connect 30 = .ok (.lor, 1) := by decide +kernel
theorem dX0_connect_31 : decode cX0_connect 31 = .ok (.lastore, 1) := by decide +kernel
theorem dX0_connect_32 : decode cX0_connect 32 = .ok (.iinc 5 1, 3) := by decide +kernel
theorem dX0_connect_35 : decode cX0_connect 35 = .ok (.goto (-32), 3) := by decide +kernel
theorem dX0_connect_38 : decode cX0_connect 38 = .ok (.return_, 1) := by decide +kernel
theorem dX0_nextBehindAny_0 : decode cX0_nextBehindAny 0 = .ok (.lconst 0, 1) := by decide +kernel
theorem dX0_nextBehindAny_1 : decode cX0_nextBehindAny 1 = .ok (.lstore_n 3, 1) := by decide +kernel
theorem dX0_nextBehindAny_2 : decode cX0_nextBehindAny 2 = .ok (.iconst 0, 1) := by decide +kernel
theorem dX0_nextBehindAny_3 : decode cX0_nextBehindAny 3 = .ok (.istore 5, 2) := by decide +kernel
theorem dX0_nextBehindAny_5 : decode cX0_nextBehindAny 5 = .ok (.iload 5, 2) := by decide +kernel
theorem dX0_nextBehindAny_7 : decode cX0_nextBehindAny 7 = .ok (.aload_n 0, 1) := by decide +kernel
theorem dX0_nextBehindAny_8 : decode cX0_nextBehindAny 8 = .ok (.getfield 17, 3) := by decide +kernel
theorem dX0_nextBehindAny_11 : decode cX0_nextBehindAny 11 = .ok (.if_icmp .ge 28, 3) := by decide +kernel
theorem dX0_nextBehindAny_14 : decode cX0_nextBehindAny 14 = .ok (.lload_n 1, 1) := by decide +kernel
theorem dX0_nextBehindAny_15 : decode cX0_nextBehindAny 15 = .ok (.iload 5, 2) := by decide +kernel
theorem dX0_nextBehindAny_17 : decode cX0_nextBehindAny 17 = .ok (.invokestatic 36, 3) := by decide +kernel
theorem dX0_nextBehindAny_20 : decode cX0_nextBehindAny 20 = .ok (.ifCond .eq 13, 3) := by decide +kernel
theorem dX0_nextBehindAny_23 : decode cX0_nextBehindAny 23 = .ok (.lload_n 3, 1) := by decide +kernel
theorem dX0_nextBehindAny_24 : decode cX0_nextBehindAny 24 = .ok (.aload_n 0, 1) := by decide +kernel
theorem dX0_nextBehindAny_25 : decode cX0_nextBehindAny 25 = .ok (.getfield 13, 3) := by decide +kernel
theorem dX0_nextBehindAny_28 : decode cX0_nextBehindAny 28 = .ok (.iload 5, 2) := by decide +kernel
theorem dX0_nextBehindAny_30 : decode cX0_nextBehindAny 30 = .ok (.laload, 1) := by decide +kernel
theorem dX0_nextBehindAny_31 : decode cX0_nextBehindAny 31 = .ok (.lor, 1) := by decide +kernel
theorem dX0_nextBehindAny_32 : decode cX0_nextBehindAny 32 = .ok (.lstore_n 3, 1) := by decide +kernel
theorem dX0_nextBehindAny_33 : decode cX0_nextBehindAny 33 = .ok (.iinc 5 1, 3) := by decide +kernel
theorem dX0_nextBehindAny_36 : decode cX0_nextBehindAny 36 = .ok (.goto (-31), 3) := by decide +kernel
theorem dX0_nextBehindAny_39 : decode cX0_nextBehindAny 39 = .ok (.lload_n 3, 1) := by decide +kernel
theorem dX0_nextBehindAny_40 : decode cX0_nextBehindAny 40 = .ok (.lreturn, 1) := by decide +kernel
theorem dX0_placesNamed_0 : decode cX0_placesNamed 0 = .ok (.lconst 0, 1) := by decide +kernel
theorem dX0_placesNamed_1 : decode cX0_placesNamed 1 = .ok (.lstore 4, 2) := by decide +kernel
theorem dX0_placesNamed_3 : decode cX0_placesNamed 3 = .ok (.iconst 0, 1) := by decide +kernel
theorem dX0_placesNamed_4 : decode cX0_placesNamed 4 = .ok (.istore 6, 2) := by decide +kernel
theorem dX0_placesNamed_6 : decode cX0_placesNamed 6 = .ok (.iload 6, 2) := by decide +kernel
theorem dX0_placesNamed_8 : decode cX0_placesNamed 8 = .ok (.aload_n 0, 1) := by decide +kernel
theorem dX0_placesNamed_9 : decode cX0_placesNamed 9 = .ok (.getfield 17, 3) := by decide +kernel
theorem dX0_placesNamed_12 : decode cX0_placesNamed 12 = .ok (.if_icmp .ge 38, 3) := by decide +kernel
theorem dX0_placesNamed_15 : decode cX0_placesNamed 15 = .ok (.aload_n 0, 1) := by decide +kernel
theorem dX0_placesNamed_16 : decode cX0_placesNamed 16 = .ok (.getfield 9, 3) := by decide +kernel
theorem dX0_placesNamed_19 : decode cX0_placesNamed 19 = .ok (.iload 6, 2) := by decide +kernel
theorem dX0_placesNamed_21 : decode cX0_placesNamed 21 = .ok (.iaload, 1) := by decide +kernel
theorem dX0_placesNamed_22 : decode cX0_placesNamed 22 = .ok (.iload_n 1, 1) := by decide +kernel
theorem dX0_placesNamed_23 : decode cX0_placesNamed 23 = .ok (.if_icmp .ne 21, 3) := by decide +kernel
theorem dX0_placesNamed_26 : decode cX0_placesNamed 26 = .ok (.lload_n 2, 1) := by decide +kernel
theorem dX0_placesNamed_27 : decode cX0_placesNamed 27 = .ok (.iload 6, 2) := by decide +kernel
theorem dX0_placesNamed_29 : decode cX0_placesNamed 29 = .ok (.invokestatic 36, 3) := by decide +kernel
theorem dX0_placesNamed_32 : decode cX0_placesNamed 32 = .ok (.ifCond .eq 12, 3) := by decide +kernel
theorem dX0_placesNamed_35 : decode cX0_placesNamed 35 = .ok (.lload 4, 2) := by decide +kernel
theorem dX0_placesNamed_37 : decode cX0_placesNamed 37 = .ok (.lconst 1, 1) := by decide +kernel
theorem dX0_placesNamed_38 : decode cX0_placesNamed 38 = .ok (.iload 6, 2) := by decide +kernel
theorem dX0_placesNamed_40 : decode cX0_placesNamed 40 = .ok (.lshl, 1) := by decide +kernel
theorem dX0_placesNamed_41 : decode cX0_placesNamed 41 = .ok (.lor, 1) := by decide +kernel
theorem dX0_placesNamed_42 : decode cX0_placesNamed 42 = .ok (.lstore 4, 2) := by decide +kernel
theorem dX0_placesNamed_44 : decode cX0_placesNamed 44 = .ok (.iinc 6 1, 3) := by decide +kernel
theorem dX0_placesNamed_47 : decode cX0_placesNamed 47 = .ok (.goto (-41), 3) := by decide +kernel
theorem dX0_placesNamed_50 : decode cX0_placesNamed 50 = .ok (.lload 4, 2) := by decide +kernel
theorem dX0_placesNamed_52 : decode cX0_placesNamed 52 = .ok (.lreturn, 1) := by decide +kernel
theorem dX0_namesOf_0 : decode cX0_namesOf 0 = .ok (.iconst 0, 1) := by decide +kernel
theorem dX0_namesOf_1 : decode cX0_namesOf 1 = .ok (.istore_n 3, 1) := by decide +kernel
theorem dX0_namesOf_2 : decode cX0_namesOf 2 = .ok (.iconst 0, 1) := by decide +kernel
theorem dX0_namesOf_3 : decode cX0_namesOf 3 = .ok (.istore 4, 2) := by decide +kernel
theorem dX0_namesOf_5 : decode cX0_namesOf 5 = .ok (.iload 4, 2) := by decide +kernel
theorem dX0_namesOf_7 : decode cX0_namesOf 7 = .ok (.aload_n 0, 1) := by decide +kernel
theorem dX0_namesOf_8 : decode cX0_namesOf 8 = .ok (.getfield 17, 3) := by decide +kernel
theorem dX0_namesOf_11 : decode cX0_namesOf 11 = .ok (.if_icmp .ge 30, 3) := by decide +kernel
theorem dX0_namesOf_14 : decode cX0_namesOf 14 = .ok (.lload_n 1, 1) := by decide +kernel
theorem dX0_namesOf_15 : decode cX0_namesOf 15 = .ok (.iload 4, 2) := by decide +kernel
theorem dX0_namesOf_17 : decode cX0_namesOf 17 = .ok (.invokestatic 36, 3) := by decide +kernel
theorem dX0_namesOf_20 : decode cX0_namesOf 20 = .ok (.ifCond .eq 15, 3) := by decide +kernel
theorem dX0_namesOf_23 : decode cX0_namesOf 23 = .ok (.iload_n 3, 1) := by decide +kernel
theorem dX0_namesOf_24 : decode cX0_namesOf 24 = .ok (.iconst 1, 1) := by decide +kernel
theorem dX0_namesOf_25 : decode cX0_namesOf 25 = .ok (.aload_n 0, 1) := by decide +kernel
theorem dX0_namesOf_26 : decode cX0_namesOf 26 = .ok (.getfield 9, 3) := by decide +kernel
theorem dX0_namesOf_29 : decode cX0_namesOf 29 = .ok (.iload 4, 2) := by decide +kernel
theorem dX0_namesOf_31 : decode cX0_namesOf 31 = .ok (.iaload, 1) := by decide +kernel
theorem dX0_namesOf_32 : decode cX0_namesOf 32 = .ok (.ishl, 1) := by decide +kernel
theorem dX0_namesOf_33 : decode cX0_namesOf 33 = .ok (.ior, 1) := by decide +kernel
theorem dX0_namesOf_34 : decode cX0_namesOf 34 = .ok (.istore_n 3, 1) := by decide +kernel
theorem dX0_namesOf_35 : decode cX0_namesOf 35 = .ok (.iinc 4 1, 3) := by decide +kernel
theorem dX0_namesOf_38 : decode cX0_namesOf 38 = .ok (.goto (-33), 3) := by decide +kernel
theorem dX0_namesOf_41 : decode cX0_namesOf 41 = .ok (.iload_n 3, 1) := by decide +kernel
theorem dX0_namesOf_42 : decode cX0_namesOf 42 = .ok (.ireturn, 1) := by decide +kernel
theorem dX0_competingNames_0 : decode cX0_competingNames 0 = .ok (.aload_n 0, 1) := by decide +kernel
theorem dX0_competingNames_1 : decode cX0_competingNames 1 = .ok (.aload_n 0, 1) := by decide +kernel
theorem dX0_competingNames_2 : decode cX0_competingNames 2 = .ok (.getfield 21, 3) := by decide +kernel
theorem dX0_competingNames_5 : decode cX0_competingNames 5 = .ok (.invokevirtual 40, 3) := by decide +kernel
theorem dX0_competingNames_8 : decode cX0_competingNames 8 = .ok (.istore_n 1, 1) := by decide +kernel
theorem dX0_competingNames_9 : decode cX0_competingNames 9 = .ok (.iconst 0, 1) := by decide +kernel
theorem dX0_competingNames_10 : decode cX0_competingNames 10 = .ok (.istore_n 2, 1) := by decide +kernel
theorem dX0_competingNames_11 : decode cX0_competingNames 11 = .ok (.iload_n 2, 1) := by decide +kernel
theorem dX0_competingNames_12 : decode cX0_competingNames 12 = .ok (.aload_n 0, 1) := by decide +kernel
theorem dX0_competingNames_13 : decode cX0_competingNames 13 = .ok (.getfield 17, 3) := by decide +kernel
theorem dX0_competingNames_16 : decode cX0_competingNames 16 = .ok (.if_icmp .ge 22, 3) := by decide +kernel
theorem dX0_competingNames_19 : decode cX0_competingNames 19 = .ok (.iload_n 1, 1) := by decide +kernel
theorem dX0_competingNames_20 : decode cX0_competingNames 20 = .ok (.aload_n 0, 1) := by decide +kernel
theorem dX0_competingNames_21 : decode cX0_competingNames 21 = .ok (.aload_n 0, 1) := by decide +kernel
theorem dX0_competingNames_22 : decode cX0_competingNames 22 = .ok (.getfield 13, 3) := by decide +kernel
theorem dX0_competingNames_25 : decode cX0_competingNames 25 = .ok (.iload_n 2, 1) := by decide +kernel
theorem dX0_competingNames_26 : decode cX0_competingNames 26 = .ok (.laload, 1) := by decide +kernel
theorem dX0_competingNames_27 : decode cX0_competingNames 27 = .ok (.invokevirtual 40, 3) := by decide +kernel
theorem dX0_competingNames_30 : decode cX0_competingNames 30 = .ok (.ior, 1) := by decide +kernel
theorem dX0_competingNames_31 : decode cX0_competingNames 31 = .ok (.istore_n 1, 1) := by decide +kernel
theorem dX0_competingNames_32 : decode cX0_competingNames 32 = .ok (.iinc 2 1, 3) := by decide +kernel
theorem dX0_competingNames_35 : decode cX0_competingNames 35 = .ok (.goto (-24), 3) := by decide +kernel
theorem dX0_competingNames_38 : decode cX0_competingNames 38 = .ok (.iload_n 1, 1) := by decide +kernel
theorem dX0_competingNames_39 : decode cX0_competingNames 39 = .ok (.ireturn, 1) := by decide +kernel
theorem dX0_namesTwiceIn_0 : decode cX0_namesTwiceIn 0 = .ok (.iconst 0, 1) := by decide +kernel
theorem dX0_namesTwiceIn_1 : decode cX0_namesTwiceIn 1 = .ok (.istore_n 3, 1) := by decide +kernel
theorem dX0_namesTwiceIn_2 : decode cX0_namesTwiceIn 2 = .ok (.iconst 0, 1) := by decide +kernel
theorem dX0_namesTwiceIn_3 : decode cX0_namesTwiceIn 3 = .ok (.istore 4, 2) := by decide +kernel
theorem dX0_namesTwiceIn_5 : decode cX0_namesTwiceIn 5 = .ok (.iconst 0, 1) := by decide +kernel
theorem dX0_namesTwiceIn_6 : decode cX0_namesTwiceIn 6 = .ok (.istore 5, 2) := by decide +kernel
theorem dX0_namesTwiceIn_8 : decode cX0_namesTwiceIn 8 = .ok (.iload 5, 2) := by decide +kernel
theorem dX0_namesTwiceIn_10 : decode cX0_namesTwiceIn 10 = .ok (.aload_n 0, 1) := by decide +kernel
theorem dX0_namesTwiceIn_11 : decode cX0_namesTwiceIn 11 = .ok (.getfield 17, 3) := by decide +kernel
theorem dX0_namesTwiceIn_14 : decode cX0_namesTwiceIn 14 = .ok (.if_icmp .ge 43, 3) := by decide +kernel
theorem dX0_namesTwiceIn_17 : decode cX0_namesTwiceIn 17 = .ok (.lload_n 1, 1) := by decide +kernel
theorem dX0_namesTwiceIn_18 : decode cX0_namesTwiceIn 18 = .ok (.iload 5, 2) := by decide +kernel
theorem dX0_namesTwiceIn_20 : decode cX0_namesTwiceIn 20 = .ok (.invokestatic 36, 3) := by decide +kernel
theorem dX0_namesTwiceIn_23 : decode cX0_namesTwiceIn 23 = .ok (.ifCond .eq 28, 3) := by decide +kernel
theorem dX0_namesTwiceIn_26 : decode cX0_namesTwiceIn 26 = .ok (.iconst 1, 1) := by decide +kernel
theorem dX0_namesTwiceIn_27 : decode cX0_namesTwiceIn 27 = .ok (.aload_n 0, 1) := by decide +kernel
theorem dX0_namesTwiceIn_28 : decode cX0_namesTwiceIn 28 = .ok (.getfield 9, 3) := by decide +kernel
theorem dX0_namesTwiceIn_31 : decode cX0_namesTwiceIn 31 = .ok (.iload 5, 2) := by decide +kernel
theorem dX0_namesTwiceIn_33 : decode cX0_namesTwiceIn 33 = .ok (.iaload, 1) := by decide +kernel
theorem dX0_namesTwiceIn_34 : decode cX0_namesTwiceIn 34 = .ok (.ishl, 1) := by decide +kernel
theorem dX0_namesTwiceIn_35 : decode cX0_namesTwiceIn 35 = .ok (.istore 6, 2) := by decide +kernel
theorem dX0_namesTwiceIn_37 : decode cX0_namesTwiceIn 37 = .ok (.iload 4, 2) := by decide +kernel
theorem dX0_namesTwiceIn_39 : decode cX0_namesTwiceIn 39 = .ok (.iload_n 3, 1) := by decide +kernel
theorem dX0_namesTwiceIn_40 : decode cX0_namesTwiceIn 40 = .ok (.iload 6, 2) := by decide +kernel
theorem dX0_namesTwiceIn_42 : decode cX0_namesTwiceIn 42 = .ok (.iand, 1) := by decide +kernel
theorem dX0_namesTwiceIn_43 : decode cX0_namesTwiceIn 43 = .ok (.ior, 1) := by decide +kernel
theorem dX0_namesTwiceIn_44 : decode cX0_namesTwiceIn 44 = .ok (.istore 4, 2) := by decide +kernel
theorem dX0_namesTwiceIn_46 : decode cX0_namesTwiceIn 46 = .ok (.iload_n 3, 1) := by decide +kernel
theorem dX0_namesTwiceIn_47 : decode cX0_namesTwiceIn 47 = .ok (.iload 6, 2) := by decide +kernel
theorem dX0_namesTwiceIn_49 : decode cX0_namesTwiceIn 49 = .ok (.ior, 1) := by decide +kernel
theorem dX0_namesTwiceIn_50 : decode cX0_namesTwiceIn 50 = .ok (.istore_n 3, 1) := by decide +kernel
theorem dX0_namesTwiceIn_51 : decode cX0_namesTwiceIn 51 = .ok (.iinc 5 1, 3) := by decide +kernel
theorem dX0_namesTwiceIn_54 : decode cX0_namesTwiceIn 54 = .ok (.goto (-46), 3) := by decide +kernel
theorem dX0_namesTwiceIn_57 : decode cX0_namesTwiceIn 57 = .ok (.iload 4, 2) := by decide +kernel
theorem dX0_namesTwiceIn_59 : decode cX0_namesTwiceIn 59 = .ok (.ireturn, 1) := by decide +kernel
theorem dX0_holds_0 : decode cX0_holds 0 = .ok (.lload_n 0, 1) := by decide +kernel
theorem dX0_holds_1 : decode cX0_holds 1 = .ok (.iload_n 2, 1) := by decide +kernel
theorem dX0_holds_2 : decode cX0_holds 2 = .ok (.lushr, 1) := by decide +kernel
theorem dX0_holds_3 : decode cX0_holds 3 = .ok (.lconst 1, 1) := by decide +kernel
theorem dX0_holds_4 : decode cX0_holds 4 = .ok (.land, 1) := by decide +kernel
theorem dX0_holds_5 : decode cX0_holds 5 = .ok (.lconst 0, 1) := by decide +kernel
theorem dX0_holds_6 : decode cX0_holds 6 = .ok (.lcmp, 1) := by decide +kernel
theorem dX0_holds_7 : decode cX0_holds 7 = .ok (.ifCond .eq 7, 3) := by decide +kernel
theorem dX0_holds_10 : decode cX0_holds 10 = .ok (.iconst 1, 1) := by decide +kernel
theorem dX0_holds_11 : decode cX0_holds 11 = .ok (.goto 4, 3) := by decide +kernel
theorem dX0_holds_14 : decode cX0_holds 14 = .ok (.iconst 0, 1) := by decide +kernel
theorem dX0_holds_15 : decode cX0_holds 15 = .ok (.ireturn, 1) := by decide +kernel
theorem dX1_init_0 : decode cX1_init 0 = .ok (.aload_n 0, 1) := by decide +kernel
theorem dX1_init_1 : decode cX1_init 1 = .ok (.invokespecial 1, 3) := by decide +kernel
theorem dX1_init_4 : decode cX1_init 4 = .ok (.aload_n 0, 1) := by decide +kernel
theorem dX1_init_5 : decode cX1_init 5 = .ok (.new 7, 3) := by decide +kernel
theorem dX1_init_8 : decode cX1_init 8 = .ok (.dup, 1) := by decide +kernel
theorem dX1_init_9 : decode cX1_init 9 = .ok (.invokespecial 9, 3) := by decide +kernel
theorem dX1_init_12 : decode cX1_init 12 = .ok (.putfield 10, 3) := by decide +kernel
theorem dX1_init_15 : decode cX1_init 15 = .ok (.aload_n 0, 1) := by decide +kernel
theorem dX1_init_16 : decode cX1_init 16 = .ok (.bipush 12, 2) := by decide +kernel
theorem dX1_init_18 : decode cX1_init 18 = .ok (.newarray .long, 2) := by decide +kernel
theorem dX1_init_20 : decode cX1_init 20 = .ok (.putfield 16, 3) := by decide +kernel
theorem dX1_init_23 : decode cX1_init 23 = .ok (.aload_n 0, 1) := by decide +kernel
theorem dX1_init_24 : decode cX1_init 24 = .ok (.bipush 12, 2) := by decide +kernel
theorem dX1_init_26 : decode cX1_init 26 = .ok (.newarray .long, 2) := by decide +kernel
theorem dX1_init_28 : decode cX1_init 28 = .ok (.putfield 20, 3) := by decide +kernel
theorem dX1_init_31 : decode cX1_init 31 = .ok (.aload_n 0, 1) := by decide +kernel
theorem dX1_init_32 : decode cX1_init 32 = .ok (.bipush 12, 2) := by decide +kernel
theorem dX1_init_34 : decode cX1_init 34 = .ok (.newarray .boolean, 2) := by decide +kernel
theorem dX1_init_36 : decode cX1_init 36 = .ok (.putfield 23, 3) := by decide +kernel
theorem dX1_init_39 : decode cX1_init 39 = .ok (.aload_n 0, 1) := by decide +kernel
theorem dX1_init_40 : decode cX1_init 40 = .ok (.bipush 12, 2) := by decide +kernel
theorem dX1_init_42 : decode cX1_init 42 = .ok (.newarray .int, 2) := by decide +kernel
theorem dX1_init_44 : decode cX1_init 44 = .ok (.putfield 27, 3) := by decide +kernel
theorem dX1_init_47 : decode cX1_init 47 = .ok (.return_, 1) := by decide +kernel
theorem dX1_begin_0 : decode cX1_begin 0 = .ok (.aload_n 0, 1) := by decide +kernel
theorem dX1_begin_1 : decode cX1_begin 1 = .ok (.getfield 10, 3) := by decide +kernel
theorem dX1_begin_4 : decode cX1_begin 4 = .ok (.invokevirtual 31, 3) := by decide +kernel
theorem dX1_begin_7 : decode cX1_begin 7 = .ok (.aload_n 0, 1) := by decide +kernel
theorem dX1_begin_8 : decode cX1_begin 8 = .ok (.iconst 0, 1) := by decide +kernel
theorem dX1_begin_9 : decode cX1_begin 9 = .ok (.putfield 34, 3) := by decide +kernel
theorem dX1_begin_12 : decode cX1_begin 12 = .ok (.aload_n 0, 1) := by decide +kernel
theorem dX1_begin_13 : decode cX1_begin 13 = .ok (.iconst 0, 1) := by decide +kernel
theorem dX1_begin_14 : decode cX1_begin 14 = .ok (.putfield 38, 3) := by decide +kernel
theorem dX1_begin_17 : decode cX1_begin 17 = .ok (.return_, 1) := by decide +kernel
theorem dX1_take_0 : decode cX1_take 0 = .ok (.aload_n 0, 1) := by decide +kernel
theorem dX1_take_1 : decode cX1_take 1 = .ok (.getfield 38, 3) := by decide +kernel
theorem dX1_take_4 : decode cX1_take 4 = .ok (.ifCond .ne 18, 3) := by decide +kernel
theorem dX1_take_7 : decode cX1_take 7 = .ok (.iload_n 1, 1) := by decide +kernel
theorem dX1_take_8 : decode cX1_take 8 = .ok (.bipush 40, 2) := by decide +kernel
theorem dX1_take_10 : decode cX1_take 10 = .ok (.if_icmp .ne 10, 3) := by decide +kernel
theorem dX1_take_13 : decode cX1_take 13 = .ok (.aload_n 0, 1) := by decide +kernel
theorem dX1_take_14 : decode cX1_take 14 = .ok (.invokevirtual 41, 3) := by decide +kernel
theorem dX1_take_17 : decode cX1_take 17 = .ok (.goto 4, 3) := by decide +kernel
theorem dX1_take_20 : decode cX1_take 20 = .ok (.iconst 1, 1) := by decide +kernel
theorem dX1_take_21 : decode cX1_take 21 = .ok (.ireturn, 1) := by decide +kernel
theorem dX1_take_22 : decode cX1_take 22 = .ok (.aload_n 0, 1) := by decide +kernel
theorem dX1_take_23 : decode cX1_take 23 = .ok (.getfield 38, 3) := by decide +kernel
theorem dX1_take_26 : decode cX1_take 26 = .ok (.iconst 1, 1) := by decide +kernel
theorem dX1_take_27 : decode cX1_take 27 = .ok (.if_icmp .ne 9, 3) := by decide +kernel
theorem dX1_take_30 : decode cX1_take 30 = .ok (.aload_n 0, 1) := by decide +kernel
theorem dX1_take_31 : decode cX1_take 31 = .ok (.iload_n 1, 1) := by decide +kernel
theorem dX1_take_32 : decode cX1_take 32 = .ok (.invokevirtual 45, 3) := by decide +kernel
theorem dX1_take_35 : decode cX1_take 35 = .ok (.ireturn, 1) := by decide +kernel
theorem dX1_take_36 : decode cX1_take 36 = .ok (.iload_n 1, 1) := by decide +kernel
theorem dX1_take_37 : decode cX1_take 37 = .ok (.invokestatic 49, 3) := by decide +kernel
theorem dX1_take_40 : decode cX1_take 40 = .ok (.ifCond .eq 9, 3) := by decide +kernel
theorem dX1_take_43 : decode cX1_take 43 = .ok (.aload_n 0, 1) := by decide +kernel
theorem dX1_take_44 : decode cX1_take 44 = .ok (.iload_n 1, 1) := by decide +kernel
theorem dX1_take_45 : decode cX1_take 45 = .ok (.invokevirtual 53, 3) := by decide +kernel
theorem dX1_take_48 : decode cX1_take 48 = .ok (.ireturn, 1) := by decide +kernel
theorem dX1_take_49 : decode cX1_take 49 = .ok (.aload_n 0, 1) := by decide +kernel
theorem dX1_take_50 : decode cX1_take 50 = .ok (.getfield 34, 3) := by decide +kernel
theorem dX1_take_53 : decode cX1_take 53 = .ok (.ifCond .ne 5, 3) := by decide +kernel
theorem dX1_take_56 : decode cX1_take 56 = .ok (.iconst 1, 1) := by decide +kernel
theorem dX1_take_57 : decode cX1_take 57 = .ok (.ireturn, 1) := by decide +kernel
theorem dX1_take_58 : decode cX1_take 58 = .ok (.iload_n 1, 1) := by decide +kernel
theorem dX1_take_59 : decode cX1_take 59 = .ok (.bipush 32, 2) := by decide +kernel
theorem dX1_take_61 : decode cX1_take 61 = .ok (.if_icmp .ne 10, 3) := by decide +kernel
theorem dX1_take_64 : decode cX1_take 64 = .ok (.aload_n 0, 1) := by decide +kernel
theorem dX1_take_65 : decode cX1_take 65 = .ok (.iconst 3, 1) := by decide +kernel
theorem dX1_take_66 : decode cX1_take 66 = .ok (.putfield 38, 3) := by decide +kernel
theorem dX1_take_69 : decode cX1_take 69 = .ok (.iconst 0, 1) := by decide +kernel
theorem dX1_take_70 : decode cX1_take 70 = .ok (.ireturn, 1) := by decide +kernel
theorem dX1_take_71 : decode cX1_take 71 = .ok (.iload_n 1, 1) := by decide +kernel
theorem dX1_take_72 : decode cX1_take 72 = .ok (.bipush 41, 2) := by decide +kernel
theorem dX1_take_74 : decode cX1_take 74 = .ok (.if_icmp .ne 8, 3) := by decide +kernel
theorem dX1_take_77 : decode cX1_take 77 = .ok (.aload_n 0, 1) := by decide +kernel
theorem dX1_take_78 : decode cX1_take 78 = .ok (.invokevirtual 56, 3) := by decide +kernel
theorem dX1_take_81 : decode cX1_take 81 = .ok (.ireturn, 1) := by decide +kernel
theorem dX1_take_82 : decode cX1_take 82 = .ok (.iload_n 1, 1) := by decide +kernel
theorem dX1_take_83 : decode cX1_take 83 = .ok (.bipush 124, 2) := by decide +kernel
theorem dX1_take_85 : decode cX1_take 85 = .ok (.if_icmp .eq 9, 3) := by decide +kernel
theorem dX1_take_88 : decode cX1_take 88 = .ok (.iload_n 1, 1) := by decide +kernel
theorem dX1_take_89 : decode cX1_take 89 = .ok (.bipush 44, 2) := by decide +kernel
theorem dX1_take_91 : decode cX1_take 91 = .ok (.if_icmp .ne 11, 3) := by decide +kernel
theorem dX1_take_94 : decode cX1_take 94 = .ok (.aload_n 0, 1) := by decide +kernel
theorem dX1_take_95 : decode cX1_take 95 = .ok (.iload_n 1, 1) := by decide +kernel
theorem dX1_take_96 : decode cX1_take 96 = .ok (.invokevirtual 59, 3) := by decide +kernel
theorem dX1_take_99 : decode cX1_take 99 = .ok (.goto 4, 3) := by decide +kernel
theorem dX1_take_102 : decode cX1_take 102 = .ok (.iconst 1, 1) := by decide +kernel
theorem dX1_take_103 : decode cX1_take 103 = .ok (.ireturn, 1) := by decide +kernel
theorem dX1_finish_0 : decode cX1_finish 0 = .ok (.aload_n 0, 1) := by decide +kernel
theorem dX1_finish_1 : decode cX1_finish 1 = .ok (.getfield 34, 3) := by decide +kernel
theorem dX1_finish_4 : decode cX1_finish 4 = .ok (.ifCond .gt 10, 3) := by decide +kernel
theorem dX1_finish_7 : decode cX1_finish 7 = .ok (.aload_n 0, 1) := by decide +kernel
theorem dX1_finish_8 : decode cX1_finish 8 = .ok (.getfield 38, 3) := by decide +kernel
theorem dX1_finish_11 : decode cX1_finish 11 = .ok (.ifCond .ne 5, 3) := by decide +kernel
theorem dX1_finish_14 : decode cX1_finish 14 = .ok (.iconst 0, 1) := by decide +kernel
theorem dX1_finish_15 : decode cX1_finish 15 = .ok (.ireturn, 1) := by decide +kernel
theorem dX1_finish_16 : decode cX1_finish 16 = .ok (.aload_n 0, 1) := by decide +kernel
theorem dX1_finish_17 : decode cX1_finish 17 = .ok (.getfield 10, 3) := by decide +kernel
theorem dX1_finish_20 : decode cX1_finish 20 = .ok (.aload_n 0, 1) := by decide +kernel
theorem dX1_finish_21 : decode cX1_finish 21 = .ok (.getfield 62, 3) := by decide +kernel
theorem dX1_finish_24 : decode cX1_finish 24 = .ok (.putfield 66, 3) := by decide +kernel
theorem dX1_finish_27 : decode cX1_finish 27 = .ok (.aload_n 0, 1) := by decide +kernel
theorem dX1_finish_28 : decode cX1_finish 28 = .ok (.getfield 10, 3) := by decide +kernel
theorem dX1_finish_31 : decode cX1_finish 31 = .ok (.aload_n 0, 1) := by decide +kernel
theorem dX1_finish_32 : decode cX1_finish 32 = .ok (.getfield 69, 3) := by decide +kernel
theorem dX1_finish_35 : decode cX1_finish 35 = .ok (.putfield 72, 3) := by decide +kernel
theorem dX1_finish_38 : decode cX1_finish 38 = .ok (.aload_n 0, 1) := by decide +kernel
theorem dX1_finish_39 : decode cX1_finish 39 = .ok (.getfield 10, 3) := by decide +kernel
theorem dX1_finish_42 : decode cX1_finish 42 = .ok (.aload_n 0, 1) := by decide +kernel
theorem dX1_finish_43 : decode cX1_finish 43 = .ok (.getfield 75, 3) := by decide +kernel
theorem dX1_finish_46 : decode cX1_finish 46 = .ok (.putfield 79, 3) := by decide +kernel
theorem dX1_finish_49 : decode cX1_finish 49 = .ok (.iconst 1, 1) := by decide +kernel
theorem dX1_finish_50 : decode cX1_finish 50 = .ok (.ireturn, 1) := by decide +kernel
theorem dX1_takeBeforePart_0 : decode cX1_takeBeforePart 0 = .ok (.iload_n 1, 1) := by decide +kernel
theorem dX1_takeBeforePart_1 : decode cX1_takeBeforePart 1 = .ok (.bipush 32, 2) := by decide +kernel
theorem dX1_takeBeforePart_3 : decode cX1_takeBeforePart 3 = .ok (.if_icmp .ne 5, 3) := by decide +kernel
theorem dX1_takeBeforePart_6 : decode cX1_takeBeforePart 6 = .ok (.iconst 0, 1) := by decide +kernel
theorem dX1_takeBeforePart_7 : decode cX1_takeBeforePart 7 = .ok (.ireturn, 1) := by decide +kernel
theorem dX1_takeBeforePart_8 : decode cX1_takeBeforePart 8 = .ok (.iload_n 1, 1) := by decide +kernel
theorem dX1_takeBeforePart_9 : decode cX1_takeBeforePart 9 = .ok (.bipush 40, 2) := by decide +kernel
theorem dX1_takeBeforePart_11 : decode cX1_takeBeforePart 11 = .ok (.if_icmp .ne 8, 3) := by decide +kernel
theorem dX1_takeBeforePart_14 : decode cX1_takeBeforePart 14 = .ok (.aload_n 0, 1) := by decide +kernel
theorem dX1_takeBeforePart_15 : decode cX1_takeBeforePart 15 = .ok (.invokevirtual 41, 3) := by decide +kernel
theorem dX1_takeBeforePart_18 : decode cX1_takeBeforePart 18 = .ok (.ireturn, 1) := by decide +kernel
theorem dX1_takeBeforePart_19 : decode cX1_takeBeforePart 19 = .ok (.iload_n 1, 1) := by decide +kernel
theorem dX1_takeBeforePart_20 : decode cX1_takeBeforePart 20 = .ok (.bipush 97, 2) := by decide +kernel
theorem dX1_takeBeforePart_22 : decode cX1_takeBeforePart 22 = .ok (.if_icmp .lt 20, 3) := by decide +kernel
theorem dX1_takeBeforePart_25 : decode cX1_takeBeforePart 25 = .ok (.iload_n 1, 1) := by decide +kernel
theorem dX1_takeBeforePart_26 : decode cX1_takeBeforePart 26 = .ok (.bipush 122, 2) := by decide +kernel
theorem dX1_takeBeforePart_28 : decode cX1_takeBeforePart 28 = .ok (.if_icmp .gt 14, 3) := by decide +kernel
theorem dX1_takeBeforePart_31 : decode cX1_takeBeforePart 31 = .ok (.aload_n 0, 1) := by decide +kernel
theorem dX1_takeBeforePart_32 : decode cX1_takeBeforePart 32 = .ok (.iload_n 1, 1) := by decide +kernel
theorem dX1_takeBeforePart_33 : decode cX1_takeBeforePart 33 = .ok (.bipush 97, 2) := by decide +kernel
theorem dX1_takeBeforePart_35 : decode cX1_takeBeforePart 35 = .ok (.isub, 1) := by decide +kernel
theorem dX1_takeBeforePart_36 : decode cX1_takeBeforePart 36 = .ok (.invokevirtual 82, 3) := by decide +kernel
theorem dX1_takeBeforePart_39 : decode cX1_takeBeforePart 39 = .ok (.goto 4, 3) := by decide +kernel
theorem dX1_takeBeforePart_42 : decode cX1_takeBeforePart 42 = .ok (.iconst 1, 1) := by decide +kernel
theorem dX1_takeBeforePart_43 : decode cX1_takeBeforePart 43 = .ok (.ireturn, 1) := by decide +kernel
theorem dX1_open_0 : decode cX1_open 0 = .ok (.aload_n 0, 1) := by decide +kernel
theorem dX1_open_1 : decode cX1_open 1 = .ok (.getfield 34, 3) := by decide +kernel
theorem dX1_open_4 : decode cX1_open 4 = .ok (.bipush 12, 2) := by decide +kernel
theorem dX1_open_6 : decode cX1_open 6 = .ok (.if_icmp .lt 5, 3) := by decide +kernel
theorem dX1_open_9 : decode cX1_open 9 = .ok (.iconst 2, 1) := by decide +kernel
theorem dX1_open_10 : decode cX1_open 10 = .ok (.ireturn, 1) := by decide +kernel
theorem dX1_open_11 : decode cX1_open 11 = .ok (.aload_n 0, 1) := by decide +kernel
theorem dX1_open_12 : decode cX1_open 12 = .ok (.getfield 27, 3) := by decide +kernel
theorem dX1_open_15 : decode cX1_open 15 = .ok (.aload_n 0, 1) := by decide +kernel
theorem dX1_open_16 : decode cX1_open 16 = .ok (.getfield 34, 3) := by decide +kernel
theorem dX1_open_19 : decode cX1_open 19 = .ok (.iconst 0, 1) := by decide +kernel
theorem dX1_open_20 : decode cX1_open 20 = .ok (.iastore, 1) := by decide +kernel
theorem dX1_open_21 : decode cX1_open 21 = .ok (.aload_n 0, 1) := by decide +kernel
theorem dX1_open_22 : decode cX1_open 22 = .ok (.dup, 1) := by decide +kernel
theorem dX1_open_23 : decode cX1_open 23 = .ok (.getfield 34, 3) := by decide +kernel
theorem dX1_open_26 : decode cX1_open 26 = .ok (.iconst 1, 1) := by decide +kernel
theorem dX1_open_27 : decode cX1_open 27 = .ok (.iadd, 1) := by decide +kernel
theorem dX1_open_28 : decode cX1_open 28 = .ok (.putfield 34, 3) := by decide +kernel
theorem dX1_open_31 : decode cX1_open 31 = .ok (.aload_n 0, 1) := by decide +kernel
theorem dX1_open_32 : decode cX1_open 32 = .ok (.iconst 1, 1) := by decide +kernel
theorem dX1_open_33 : decode cX1_open 33 = .ok (.putfield 38, 3) := by decide +kernel
theorem dX1_open_36 : decode cX1_open 36 = .ok (.iconst 0, 1) := by decide +kernel
theorem dX1_open_37 : decode cX1_open 37 = .ok (.ireturn, 1) := by decide +kernel
theorem dX1_takeName_0 : decode cX1_takeName 0 = .ok (.aload_n 0, 1) := by decide +kernel
theorem dX1_takeName_1 : decode cX1_takeName 1 = .ok (.getfield 10, 3) := by decide +kernel
theorem dX1_takeName_4 : decode cX1_takeName 4 = .ok (.invokevirtual 85, 3) := by decide +kernel
theorem dX1_takeName_7 : decode cX1_takeName 7 = .ok (.ifCond .eq 5, 3) := by decide +kernel
theorem dX1_takeName_10 : decode cX1_takeName 10 = .ok (.iconst 2, 1) := by decide +kernel
theorem dX1_takeName_11 : decode cX1_takeName 11 = .ok (.ireturn, 1) := by decide +kernel
theorem dX1_takeName_12 : decode cX1_takeName 12 = .ok (.aload_n 0, 1) := by decide +kernel
theorem dX1_takeName_13 : decode cX1_takeName 13 = .ok (.lconst 1, 1) := by decide +kernel
theorem dX1_takeName_14 : decode cX1_takeName 14 = .ok (.aload_n 0, 1) := by decide +kernel
theorem dX1_takeName_15 : decode cX1_takeName 15 = .ok (.getfield 10, 3) := by decide +kernel
theorem dX1_takeName_18 : decode cX1_takeName 18 = .ok (.getfield 89, 3) := by decide +kernel
theorem dX1_takeName_21 : decode cX1_takeName 21 = .ok (.lshl, 1) := by decide +kernel
theorem dX1_takeName_22 : decode cX1_takeName 22 = .ok (.putfield 62, 3) := by decide +kernel
theorem dX1_takeName_25 : decode cX1_takeName 25 = .ok (.aload_n 0, 1) := by decide +kernel
theorem dX1_takeName_26 : decode cX1_takeName 26 = .ok (.aload_n 0, 1) := by decide +kernel
theorem dX1_takeName_27 : decode cX1_takeName 27 = .ok (.getfield 62, 3) := by decide +kernel
theorem dX1_takeName_30 : decode cX1_takeName 30 = .ok (.putfield 69, 3) := by decide +kernel
theorem dX1_takeName_33 : decode cX1_takeName 33 = .ok (.aload_n 0, 1) := by decide +kernel
theorem dX1_takeName_34 : decode cX1_takeName 34 = .ok (.iconst 0, 1) := by decide +kernel
theorem dX1_takeName_35 : decode cX1_takeName 35 = .ok (.putfield 75, 3) := by decide +kernel
theorem dX1_takeName_38 : decode cX1_takeName 38 = .ok (.aload_n 0, 1) := by decide +kernel
theorem dX1_takeName_39 : decode cX1_takeName 39 = .ok (.getfield 10, 3) := by decide +kernel
theorem dX1_takeName_42 : decode cX1_takeName 42 = .ok (.iload_n 1, 1) := by decide +kernel
theorem dX1_takeName_43 : decode cX1_takeName 43 = .ok (.invokevirtual 92, 3) := by decide +kernel
theorem dX1_takeName_46 : decode cX1_takeName 46 = .ok (.aload_n 0, 1) := by decide +kernel
theorem dX1_takeName_47 : decode cX1_takeName 47 = .ok (.iconst 2, 1) := by decide +kernel
theorem dX1_takeName_48 : decode cX1_takeName 48 = .ok (.putfield 38, 3) := by decide +kernel
theorem dX1_takeName_51 : decode cX1_takeName 51 = .ok (.iconst 0, 1) := by decide +kernel
theorem dX1_takeName_52 : decode cX1_takeName 52 = .ok (.ireturn, 1) := by decide +kernel
theorem dX1_takeSign_0 : decode cX1_takeSign 0 = .ok (.aload_n 0, 1) := by decide +kernel
theorem dX1_takeSign_1 : decode cX1_takeSign 1 = .ok (.getfield 38, 3) := by decide +kernel
theorem dX1_takeSign_4 : decode cX1_takeSign 4 = .ok (.iconst 2, 1) := by decide +kernel
theorem dX1_takeSign_5 : decode cX1_takeSign 5 = .ok (.if_icmp .eq 5, 3) := by decide +kernel
theorem dX1_takeSign_8 : decode cX1_takeSign 8 = .ok (.iconst 1, 1) := by decide +kernel
theorem dX1_takeSign_9 : decode cX1_takeSign 9 = .ok (.ireturn, 1) := by decide +kernel
theorem dX1_takeSign_10 : decode cX1_takeSign 10 = .ok (.iload_n 1, 1) := by decide +kernel
theorem dX1_takeSign_11 : decode cX1_takeSign 11 = .ok (.bipush 63, 2) := by decide +kernel
theorem dX1_takeSign_13 : decode cX1_takeSign 13 = .ok (.if_icmp .eq 18, 3) := by decide +kernel
theorem dX1_takeSign_16 : decode cX1_takeSign 16 = .ok (.aload_n 0, 1) := by decide +kernel
theorem dX1_takeSign_17 : decode cX1_takeSign 17 = .ok (.getfield 10, 3) := by decide +kernel
theorem dX1_takeSign_20 : decode cX1_takeSign 20 = .ok (.aload_n 0, 1) := by decide +kernel
theorem dX1_takeSign_21 : decode cX1_takeSign 21 = .ok (.getfield 69, 3) := by decide +kernel
theorem dX1_takeSign_24 : decode cX1_takeSign 24 = .ok (.aload_n 0, 1) := by decide +kernel
theorem dX1_takeSign_25 : decode cX1_takeSign 25 = .ok (.getfield 62, 3) := by decide +kernel
theorem dX1_takeSign_28 : decode cX1_takeSign 28 = .ok (.invokevirtual 96, 3) := by decide +kernel
theorem dX1_takeSign_31 : decode cX1_takeSign 31 = .ok (.iload_n 1, 1) := by decide +kernel
theorem dX1_takeSign_32 : decode cX1_takeSign 32 = .ok (.bipush 43, 2) := by decide +kernel
theorem dX1_takeSign_34 : decode cX1_takeSign 34 = .ok (.if_icmp .eq 8, 3) := by decide +kernel
theorem dX1_takeSign_37 : decode cX1_takeSign 37 = .ok (.aload_n 0, 1) := by decide +kernel
theorem dX1_takeSign_38 : decode cX1_takeSign 38 = .ok (.iconst 1, 1) := by decide +kernel
theorem dX1_takeSign_39 : decode cX1_takeSign 39 = .ok (.putfield 75, 3) := by decide +kernel
theorem dX1_takeSign_42 : decode cX1_takeSign 42 = .ok (.aload_n 0, 1) := by decide +kernel
theorem dX1_takeSign_43 : decode cX1_takeSign 43 = .ok (.iconst 3, 1) := by decide +kernel
theorem dX1_takeSign_44 : decode cX1_takeSign 44 = .ok (.putfield 38, 3) := by decide +kernel
theorem dX1_takeSign_47 : decode cX1_takeSign 47 = .ok (.iconst 0, 1) := by decide +kernel
theorem dX1_takeSign_48 : decode cX1_takeSign 48 = .ok (.ireturn, 1) := by decide +kernel
theorem dX1_takeSeparator_0 : decode cX1_takeSeparator 0 = .ok (.aload_n 0, 1) := by decide +kernel
theorem dX1_takeSeparator_1 : decode cX1_takeSeparator 1 = .ok (.getfield 34, 3) := by decide +kernel
theorem dX1_takeSeparator_4 : decode cX1_takeSeparator 4 = .ok (.iconst 1, 1) := by decide +kernel
theorem dX1_takeSeparator_5 : decode cX1_takeSeparator 5 = .ok (.isub, 1) := by decide +kernel
theorem dX1_takeSeparator_6 : decode cX1_takeSeparator 6 = .ok (.istore_n 2, 1) := by decide +kernel
theorem dX1_takeSeparator_7 : decode cX1_takeSeparator 7 = .ok (.iload_n 2, 1) := by decide +kernel
theorem dX1_takeSeparator_8 : decode cX1_takeSeparator 8 = .ok (.ifCond .lt 9, 3) := by decide +kernel
theorem dX1_takeSeparator_11 : decode cX1_takeSeparator 11 = .ok (.iload_n 2, 1) := by decide +kernel
theorem dX1_takeSeparator_12 : decode cX1_takeSeparator 12 = .ok (.bipush 12, 2) := by decide +kernel
theorem dX1_takeSeparator_14 : decode cX1_takeSeparator 14 = .ok (.if_icmp .lt 5, 3) := by decide +kernel
theorem dX1_takeSeparator_17 : decode cX1_takeSeparator 17 = .ok (.iconst 1, 1) := by decide +kernel
theorem dX1_takeSeparator_18 : decode cX1_takeSeparator 18 = .ok (.ireturn, 1) := by decide +kernel
theorem dX1_takeSeparator_19 : decode cX1_takeSeparator 19 = .ok (.aload_n 0, 1) := by decide +kernel
theorem dX1_takeSeparator_20 : decode cX1_takeSeparator 20 = .ok (.getfield 27, 3) := by decide +kernel
theorem dX1_takeSeparator_23 : decode cX1_takeSeparator 23 = .ok (.iload_n 2, 1) := by decide +kernel
theorem dX1_takeSeparator_24 : decode cX1_takeSeparator 24 = .ok (.iaload, 1) := by decide +kernel
theorem dX1_takeSeparator_25 : decode cX1_takeSeparator 25 = .ok (.ifCond .eq 15, 3) := by decide +kernel
theorem dX1_takeSeparator_28 : decode cX1_takeSeparator 28 = .ok (.aload_n 0, 1) := by decide +kernel
theorem dX1_takeSeparator_29 : decode cX1_takeSeparator 29 = .ok (.getfield 27, 3) := by decide +kernel
theorem dX1_takeSeparator_32 : decode cX1_takeSeparator 32 = .ok (.iload_n 2, 1) := by decide +kernel
theorem dX1_takeSeparator_33 : decode cX1_takeSeparator 33 = .ok (.iaload, 1) := by decide +kernel
theorem dX1_takeSeparator_34 : decode cX1_takeSeparator 34 = .ok (.iload_n 1, 1) := by decide +kernel
theorem dX1_takeSeparator_35 : decode cX1_takeSeparator 35 = .ok (.if_icmp .eq 5, 3) := by decide +kernel
theorem dX1_takeSeparator_38 : decode cX1_takeSeparator 38 = .ok (.iconst 1, 1) := by decide +kernel
theorem dX1_takeSeparator_39 : decode cX1_takeSeparator 39 = .ok (.ireturn, 1) := by decide +kernel
theorem dX1_takeSeparator_40 : decode cX1_takeSeparator 40 = .ok (.aload_n 0, 1) := by decide +kernel
theorem dX1_takeSeparator_41 : decode cX1_takeSeparator 41 = .ok (.iload_n 2, 1) := by decide +kernel
theorem dX1_takeSeparator_42 : decode cX1_takeSeparator 42 = .ok (.invokevirtual 100, 3) := by decide +kernel
theorem dX1_takeSeparator_45 : decode cX1_takeSeparator 45 = .ok (.aload_n 0, 1) := by decide +kernel
theorem dX1_takeSeparator_46 : decode cX1_takeSeparator 46 = .ok (.getfield 27, 3) := by decide +kernel
theorem dX1_takeSeparator_49 : decode cX1_takeSeparator 49 = .ok (.iload_n 2, 1) := by decide +kernel
theorem dX1_takeSeparator_50 : decode cX1_takeSeparator 50 = .ok (.iload_n 1, 1) := by decide +kernel
theorem dX1_takeSeparator_51 : decode cX1_takeSeparator 51 = .ok (.iastore, 1) := by decide +kernel
theorem dX1_takeSeparator_52 : decode cX1_takeSeparator 52 = .ok (.aload_n 0, 1) := by decide +kernel
theorem dX1_takeSeparator_53 : decode cX1_takeSeparator 53 = .ok (.iconst 1, 1) := by decide +kernel
theorem dX1_takeSeparator_54 : decode cX1_takeSeparator 54 = .ok (.putfield 38, 3) := by decide +kernel
theorem dX1_takeSeparator_57 : decode cX1_takeSeparator 57 = .ok (.iconst 0, 1) := by decide +kernel
theorem dX1_takeSeparator_58 : decode cX1_takeSeparator 58 = .ok (.ireturn, 1) := by decide +kernel
theorem dX1_close_0 : decode cX1_close 0 = .ok (.aload_n 0, 1) := by decide +kernel
theorem dX1_close_1 : decode cX1_close 1 = .ok (.getfield 34, 3) := by decide +kernel
theorem dX1_close_4 : decode cX1_close 4 = .ok (.iconst 1, 1) := by decide +kernel
theorem dX1_close_5 : decode cX1_close 5 = .ok (.isub, 1) := by decide +kernel
theorem dX1_close_6 : decode cX1_close 6 = .ok (.istore_n 1, 1) := by decide +kernel
theorem dX1_close_7 : decode cX1_close 7 = .ok (.iload_n 1, 1) := by decide +kernel
theorem dX1_close_8 : decode cX1_close 8 = .ok (.ifCond .lt 9, 3) := by decide +kernel
theorem dX1_close_11 : decode cX1_close 11 = .ok (.iload_n 1, 1) := by decide +kernel
theorem dX1_close_12 : decode cX1_close 12 = .ok (.bipush 12, 2) := by decide +kernel
theorem dX1_close_14 : decode cX1_close 14 = .ok (.if_icmp .lt 5, 3) := by decide +kernel
theorem dX1_close_17 : decode cX1_close 17 = .ok (.iconst 1, 1) := by decide +kernel
theorem dX1_close_18 : decode cX1_close 18 = .ok (.ireturn, 1) := by decide +kernel
theorem dX1_close_19 : decode cX1_close 19 = .ok (.aload_n 0, 1) := by decide +kernel
theorem dX1_close_20 : decode cX1_close 20 = .ok (.iload_n 1, 1) := by decide +kernel
theorem dX1_close_21 : decode cX1_close 21 = .ok (.invokevirtual 100, 3) := by decide +kernel
theorem dX1_close_24 : decode cX1_close 24 = .ok (.aload_n 0, 1) := by decide +kernel
theorem dX1_close_25 : decode cX1_close 25 = .ok (.aload_n 0, 1) := by decide +kernel
theorem dX1_close_26 : decode cX1_close 26 = .ok (.getfield 16, 3) := by decide +kernel
theorem dX1_close_29 : decode cX1_close 29 = .ok (.iload_n 1, 1) := by decide +kernel
theorem dX1_close_30 : decode cX1_close 30 = .ok (.laload, 1) := by decide +kernel
theorem dX1_close_31 : decode cX1_close 31 = .ok (.putfield 62, 3) := by decide +kernel
theorem dX1_close_34 : decode cX1_close 34 = .ok (.aload_n 0, 1) := by decide +kernel
theorem dX1_close_35 : decode cX1_close 35 = .ok (.aload_n 0, 1) := by decide +kernel
theorem dX1_close_36 : decode cX1_close 36 = .ok (.getfield 20, 3) := by decide +kernel
theorem dX1_close_39 : decode cX1_close 39 = .ok (.iload_n 1, 1) := by decide +kernel
theorem dX1_close_40 : decode cX1_close 40 = .ok (.laload, 1) := by decide +kernel
theorem dX1_close_41 : decode cX1_close 41 = .ok (.putfield 69, 3) := by decide +kernel
theorem dX1_close_44 : decode cX1_close 44 = .ok (.aload_n 0, 1) := by decide +kernel
theorem dX1_close_45 : decode cX1_close 45 = .ok (.aload_n 0, 1) := by decide +kernel
theorem dX1_close_46 : decode cX1_close 46 = .ok (.getfield 23, 3) := by decide +kernel
theorem dX1_close_49 : decode cX1_close 49 = .ok (.iload_n 1, 1) := by decide +kernel
theorem dX1_close_50 : decode cX1_close 50 = .ok (.baload, 1) := by decide +kernel
theorem dX1_close_51 : decode cX1_close 51 = .ok (.putfield 75, 3) := by decide +kernel
theorem dX1_close_54 : decode cX1_close 54 = .ok (.aload_n 0, 1) := by decide +kernel
theorem dX1_close_55 : decode cX1_close 55 = .ok (.iload_n 1, 1) := by decide +kernel
theorem dX1_close_56 : decode cX1_close 56 = .ok (.putfield 34, 3) := by decide +kernel
theorem dX1_close_59 : decode cX1_close 59 = .ok (.aload_n 0, 1) := by decide +kernel
theorem dX1_close_60 : decode cX1_close 60 = .ok (.iconst 2, 1) := by decide +kernel
theorem dX1_close_61 : decode cX1_close 61 = .ok (.putfield 38, 3) := by decide +kernel
theorem dX1_close_64 : decode cX1_close 64 = .ok (.iconst 0, 1) := by decide +kernel
theorem dX1_close_65 : decode cX1_close 65 = .ok (.ireturn, 1) := by decide +kernel
theorem dX1_joinPart_0 : decode cX1_joinPart 0 = .ok (.aload_n 0, 1) := by decide +kernel
theorem dX1_joinPart_1 : decode cX1_joinPart 1 = .ok (.getfield 27, 3) := by decide +kernel
theorem dX1_joinPart_4 : decode cX1_joinPart 4 = .ok (.iload_n 1, 1) := by decide +kernel
theorem dX1_joinPart_5 : decode cX1_joinPart 5 = .ok (.iaload, 1) := by decide +kernel
theorem dX1_joinPart_6 : decode cX1_joinPart 6 = .ok (.ifCond .ne 36, 3) := by decide +kernel
theorem dX1_joinPart_9 : decode cX1_joinPart 9 = .ok (.aload_n 0, 1) := by decide +kernel
theorem dX1_joinPart_10 : decode cX1_joinPart 10 = .ok (.getfield 16, 3) := by decide +kernel
theorem dX1_joinPart_13 : decode cX1_joinPart 13 = .ok (.iload_n 1, 1) := by decide +kernel
theorem dX1_joinPart_14 : decode cX1_joinPart 14 = .ok (.aload_n 0, 1) := by decide +kernel
theorem dX1_joinPart_15 : decode cX1_joinPart 15 = .ok (.getfield 62, 3) := by decide +kernel
theorem dX1_joinPart_18 : decode cX1_joinPart 18 = .ok (.lastore, 1) := by decide +kernel
theorem dX1_joinPart_19 : decode cX1_joinPart 19 = .ok (.aload_n 0, 1) := by decide +kernel
theorem dX1_joinPart_20 : decode cX1_joinPart 20 = .ok (.getfield 20, 3) := by decide +kernel
theorem dX1_joinPart_23 : decode cX1_joinPart 23 = .ok (.iload_n 1, 1) := by decide +kernel
theorem dX1_joinPart_24 : decode cX1_joinPart 24 = .ok (.aload_n 0, 1) := by decide +kernel
theorem dX1_joinPart_25 : decode cX1_joinPart 25 = .ok (.getfield 69, 3) := by decide +kernel
theorem dX1_joinPart_28 : decode cX1_joinPart 28 = .ok (.lastore, 1) := by decide +kernel
theorem dX1_joinPart_29 : decode cX1_joinPart 29 = .ok (.aload_n 0, 1) := by decide +kernel
theorem dX1_joinPart_30 : decode cX1_joinPart 30 = .ok (.getfield 23, 3) := by decide +kernel
theorem dX1_joinPart_33 : decode cX1_joinPart 33 = .ok (.iload_n 1, 1) := by decide +kernel
theorem dX1_joinPart_34 : decode cX1_joinPart 34 = .ok (.aload_n 0, 1) := by decide +kernel
theorem dX1_joinPart_35 : decode cX1_joinPart 35 = .ok (.getfield 75, 3) := by decide +kernel
theorem dX1_joinPart_38 : decode cX1_joinPart 38 = .ok (.bastore, 1) := by decide +kernel
theorem dX1_joinPart_39 : decode cX1_joinPart 39 = .ok (.goto 167, 3) := by decide +kernel
theorem dX1_joinPart_42 : decode cX1_joinPart 42 = .ok (.aload_n 0, 1) := by decide +kernel
theorem dX1_joinPart_43 : decode cX1_joinPart 43 = .ok (.getfield 27, 3) := by decide +kernel
theorem dX1_joinPart_46 : decode cX1_joinPart 46 = .ok (.iload_n 1, 1) := by decide +kernel
theorem dX1_joinPart_47 : decode cX1_joinPart 47 = .ok (.iaload, 1) := by decide +kernel
theorem dX1_joinPart_48 : decode cX1_joinPart 48 = .ok (.bipush 124, 2) := by decide +kernel
theorem dX1_joinPart_50 : decode cX1_joinPart 50 = .ok (.if_icmp .ne 59, 3) := by decide +kernel
theorem dX1_joinPart_53 : decode cX1_joinPart 53 = .ok (.aload_n 0, 1) := by decide +kernel
theorem dX1_joinPart_54 : decode cX1_joinPart 54 = .ok (.getfield 16, 3) := by decide +kernel
theorem dX1_joinPart_57 : decode cX1_joinPart 57 = .ok (.iload_n 1, 1) := by decide +kernel
theorem dX1_joinPart_58 : decode cX1_joinPart 58 = .ok (.dup2, 1) := by decide +kernel
theorem dX1_joinPart_59 : decode cX1_joinPart 59 = .ok (.laload, 1) := by decide +kernel
theorem dX1_joinPart_60 : decode cX1_joinPart 60 = .ok (.aload_n 0, 1) := by decide +kernel
theorem dX1_joinPart_61 : decode cX1_joinPart 61 = .ok (.getfield 62, 3) := by decide +kernel
theorem dX1_joinPart_64 : decode cX1_joinPart 64 = .ok (.lor, 1) := by decide +kernel
theorem dX1_joinPart_65 : decode cX1_joinPart 65 = .ok (.lastore, 1) := by decide +kernel
theorem dX1_joinPart_66 : decode cX1_joinPart 66 = .ok (.aload_n 0, 1) := by decide +kernel
theorem dX1_joinPart_67 : decode cX1_joinPart 67 = .ok (.getfield 20, 3) := by decide +kernel
theorem dX1_joinPart_70 : decode cX1_joinPart 70 = .ok (.iload_n 1, 1) := by decide +kernel
theorem dX1_joinPart_71 : decode cX1_joinPart 71 = .ok (.dup2, 1) := by decide +kernel
theorem dX1_joinPart_72 : decode cX1_joinPart 72 = .ok (.laload, 1) := by decide +kernel
theorem dX1_joinPart_73 : decode cX1_joinPart 73 = .ok (.aload_n 0, 1) := by decide +kernel
theorem dX1_joinPart_74 : decode cX1_joinPart 74 = .ok (.getfield 69, 3) := by decide +kernel
theorem dX1_joinPart_77 : decode cX1_joinPart 77 = .ok (.lor, 1) := by decide +kernel
theorem dX1_joinPart_78 : decode cX1_joinPart 78 = .ok (.lastore, 1) := by decide +kernel
theorem dX1_joinPart_79 : decode cX1_joinPart 79 = .ok (.aload_n 0, 1) := by decide +kernel
theorem dX1_joinPart_80 : decode cX1_joinPart 80 = .ok (.getfield 23, 3) := by decide +kernel
theorem dX1_joinPart_83 : decode cX1_joinPart 83 = .ok (.iload_n 1, 1) := by decide +kernel
theorem dX1_joinPart_84 : decode cX1_joinPart 84 = .ok (.aload_n 0, 1) := by decide +kernel
theorem dX1_joinPart_85 : decode cX1_joinPart 85 = .ok (.getfield 23, 3) := by decide +kernel
theorem dX1_joinPart_88 : decode cX1_joinPart 88 = .ok (.iload_n 1, 1) := by decide +kernel
theorem dX1_joinPart_89 : decode cX1_joinPart 89 = .ok (.baload, 1) := by decide +kernel
theorem dX1_joinPart_90 : decode cX1_joinPart 90 = .ok (.ifCond .ne 10, 3) := by decide +kernel
theorem dX1_joinPart_93 : decode cX1_joinPart 93 = .ok (.aload_n 0, 1) := by decide +kernel
theorem dX1_joinPart_94 : decode cX1_joinPart 94 = .ok (.getfield 75, 3) := by decide +kernel
theorem dX1_joinPart_97 : decode cX1_joinPart 97 = .ok (.ifCond .eq 7, 3) := by decide +kernel
theorem dX1_joinPart_100 : decode cX1_joinPart 100 = .ok (.iconst 1, 1) := by decide +kernel
theorem dX1_joinPart_101 : decode cX1_joinPart 101 = .ok (.goto 4, 3) := by decide +kernel
theorem dX1_joinPart_104 : decode cX1_joinPart 104 = .ok (.iconst 0, 1) := by decide +kernel
theorem dX1_joinPart_105 : decode cX1_joinPart 105 = .ok (.bastore, 1) := by decide +kernel
theorem dX1_joinPart_106 : decode cX1_joinPart 106 = .ok (.goto 100, 3) := by decide +kernel
theorem dX1_joinPart_109 : decode cX1_joinPart 109 = .ok (.aload_n 0, 1) := by decide +kernel
theorem dX1_joinPart_110 : decode cX1_joinPart 110 = .ok (.getfield 10, 3) := by decide +kernel
theorem dX1_joinPart_113 : decode cX1_joinPart 113 = .ok (.aload_n 0, 1) := by decide +kernel
theorem dX1_joinPart_114 : decode cX1_joinPart 114 = .ok (.getfield 20, 3) := by decide +kernel
theorem dX1_joinPart_117 : decode cX1_joinPart 117 = .ok (.iload_n 1, 1) := by decide +kernel
theorem dX1_joinPart_118 : decode cX1_joinPart 118 = .ok (.laload, 1) := by decide +kernel
theorem dX1_joinPart_119 : decode cX1_joinPart 119 = .ok (.aload_n 0, 1) := by decide +kernel
theorem dX1_joinPart_120 : decode cX1_joinPart 120 = .ok (.getfield 62, 3) := by decide +kernel
theorem dX1_joinPart_123 : decode cX1_joinPart 123 = .ok (.invokevirtual 96, 3) := by decide +kernel
theorem dX1_joinPart_126 : decode cX1_joinPart 126 = .ok (.aload_n 0, 1) := by decide +kernel
theorem dX1_joinPart_127 : decode cX1_joinPart 127 = .ok (.getfield 23, 3) := by decide +kernel
theorem dX1_joinPart_130 : decode cX1_joinPart 130 = .ok (.iload_n 1, 1) := by decide +kernel
theorem dX1_joinPart_131 : decode cX1_joinPart 131 = .ok (.baload, 1) := by decide +kernel
theorem dX1_joinPart_132 : decode cX1_joinPart 132 = .ok (.ifCond .eq 16, 3) := by decide +kernel
theorem dX1_joinPart_135 : decode cX1_joinPart 135 = .ok (.aload_n 0, 1) := by decide +kernel
theorem dX1_joinPart_136 : decode cX1_joinPart 136 = .ok (.getfield 16, 3) := by decide +kernel
theorem dX1_joinPart_139 : decode cX1_joinPart 139 = .ok (.iload_n 1, 1) := by decide +kernel
theorem dX1_joinPart_140 : decode cX1_joinPart 140 = .ok (.dup2, 1) := by decide +kernel
theorem dX1_joinPart_141 : decode cX1_joinPart 141 = .ok (.laload, 1) := by decide +kernel
theorem dX1_joinPart_142 : decode cX1_joinPart 142 = .ok (.aload_n 0, 1) := by decide +kernel
theorem dX1_joinPart_143 : decode cX1_joinPart 143 = .ok (.getfield 62, 3) := by decide +kernel
theorem dX1_joinPart_146 : decode cX1_joinPart 146 = .ok (.lor, 1) := by decide +kernel
theorem dX1_joinPart_147 : decode cX1_joinPart 147 = .ok (.lastore, 1) := by decide +kernel
theorem dX1_joinPart_148 : decode cX1_joinPart 148 = .ok (.aload_n 0, 1) := by decide +kernel
theorem dX1_joinPart_149 : decode cX1_joinPart 149 = .ok (.getfield 20, 3) := by decide +kernel
theorem dX1_joinPart_152 : decode cX1_joinPart 152 = .ok (.iload_n 1, 1) := by decide +kernel
theorem dX1_joinPart_153 : decode cX1_joinPart 153 = .ok (.aload_n 0, 1) := by decide +kernel
theorem dX1_joinPart_154 : decode cX1_joinPart 154 = .ok (.getfield 75, 3) := by decide +kernel
theorem dX1_joinPart_157 : decode cX1_joinPart 157 = .ok (.ifCond .eq 17, 3) := by decide +kernel
theorem dX1_joinPart_160 : decode cX1_joinPart 160 = .ok (.aload_n 0, 1) := by decide +kernel
theorem dX1_joinPart_161 : decode cX1_joinPart 161 = .ok (.getfield 20, 3) := by decide +kernel
theorem dX1_joinPart_164 : decode cX1_joinPart 164 = .ok (.iload_n 1, 1) := by decide +kernel
theorem dX1_joinPart_165 : decode cX1_joinPart 165 = .ok (.laload, 1) := by decide +kernel
theorem dX1_joinPart_166 : decode cX1_joinPart 166 = .ok (.aload_n 0, 1) := by decide +kernel
theorem dX1_joinPart_167 : decode cX1_joinPart 167 = .ok (.getfield 69, 3) := by decide +kernel
theorem dX1_joinPart_170 : decode cX1_joinPart 170 = .ok (.lor, 1) := by decide +kernel
theorem dX1_joinPart_171 : decode cX1_joinPart 171 = .ok (.goto 7, 3) := by decide +kernel
theorem dX1_joinPart_174 : decode cX1_joinPart 174 = .ok (.aload_n 0, 1) := by decide +kernel
theorem dX1_joinPart_175 : decode cX1_joinPart 175 = .ok (.getfield 69, 3) := by decide +kernel
theorem dX1_joinPart_178 : decode cX1_joinPart 178 = .ok (.lastore, 1) := by decide +kernel
theorem dX1_joinPart_179 : decode cX1_joinPart 179 = .ok (.aload_n 0, 1) := by decide +kernel
theorem dX1_joinPart_180 : decode cX1_joinPart 180 = .ok (.getfield 23, 3) := by decide +kernel
theorem dX1_joinPart_183 : decode cX1_joinPart 183 = .ok (.iload_n 1, 1) := by decide +kernel
theorem dX1_joinPart_184 : decode cX1_joinPart 184 = .ok (.aload_n 0, 1) := by decide +kernel
theorem dX1_joinPart_185 : decode cX1_joinPart 185 = .ok (.getfield 23, 3) := by decide +kernel
theorem dX1_joinPart_188 : decode cX1_joinPart 188 = .ok (.iload_n 1, 1) := by decide +kernel
theorem dX1_joinPart_189 : decode cX1_joinPart 189 = .ok (.baload, 1) := by decide +kernel
theorem dX1_joinPart_190 : decode cX1_joinPart 190 = .ok (.ifCond .eq 14, 3) := by decide +kernel
theorem dX1_joinPart_193 : decode cX1_joinPart 193 = .ok (.aload_n 0, 1) := by decide +kernel
theorem dX1_joinPart_194 : decode cX1_joinPart 194 = .ok (.getfield 75, 3) := by decide +kernel
theorem dX1_joinPart_197 : decode cX1_joinPart 197 = .ok (.ifCond .eq 7, 3) := by decide +kernel
theorem dX1_joinPart_200 : decode cX1_joinPart 200 = .ok (.iconst 1, 1) := by decide +kernel
theorem dX1_joinPart_201 : decode cX1_joinPart 201 = .ok (.goto 4, 3) := by decide +kernel
theorem dX1_joinPart_204 : decode cX1_joinPart 204 = .ok (.iconst 0, 1) := by decide +kernel
theorem dX1_joinPart_205 : decode cX1_joinPart 205 = .ok (.bastore, 1) := by decide +kernel
theorem dX1_joinPart_206 : decode cX1_joinPart 206 = .ok (.return_, 1) := by decide +kernel
theorem dX1_isSign_0 : decode cX1_isSign 0 = .ok (.iload_n 0, 1) := by decide +kernel
theorem dX1_isSign_1 : decode cX1_isSign 1 = .ok (.bipush 63, 2) := by decide +kernel
theorem dX1_isSign_3 : decode cX1_isSign 3 = .ok (.if_icmp .eq 15, 3) := by decide +kernel
theorem dX1_isSign_6 : decode cX1_isSign 6 = .ok (.iload_n 0, 1) := by decide +kernel
theorem dX1_isSign_7 : decode cX1_isSign 7 = .ok (.bipush 42, 2) := by decide +kernel
theorem dX1_isSign_9 : decode cX1_isSign 9 = .ok (.if_icmp .eq 9, 3) := by decide +kernel
theorem dX1_isSign_12 : decode cX1_isSign 12 = .ok (.iload_n 0, 1) := by decide +kernel
theorem dX1_isSign_13 : decode cX1_isSign 13 = .ok (.bipush 43, 2) := by decide +kernel
theorem dX1_isSign_15 : decode cX1_isSign 15 = .ok (.if_icmp .ne 7, 3) := by decide +kernel
theorem dX1_isSign_18 : decode cX1_isSign 18 = .ok (.iconst 1, 1) := by decide +kernel
theorem dX1_isSign_19 : decode cX1_isSign 19 = .ok (.goto 4, 3) := by decide +kernel
theorem dX1_isSign_22 : decode cX1_isSign 22 = .ok (.iconst 0, 1) := by decide +kernel
theorem dX1_isSign_23 : decode cX1_isSign 23 = .ok (.ireturn, 1) := by decide +kernel
theorem dX2_init_0 : decode cX2_init 0 = .ok (.aload_n 0, 1) := by decide +kernel
theorem dX2_init_1 : decode cX2_init 1 = .ok (.invokespecial 1, 3) := by decide +kernel
theorem dX2_init_4 : decode cX2_init 4 = .ok (.aload_n 0, 1) := by decide +kernel
theorem dX2_init_5 : decode cX2_init 5 = .ok (.sipush 300, 3) := by decide +kernel
theorem dX2_init_8 : decode cX2_init 8 = .ok (.newarray .byte, 2) := by decide +kernel
theorem dX2_init_10 : decode cX2_init 10 = .ok (.putfield 9, 3) := by decide +kernel
theorem dX2_init_13 : decode cX2_init 13 = .ok (.aload_n 0, 1) := by decide +kernel
theorem dX2_init_14 : decode cX2_init 14 = .ok (.new 13, 3) := by decide +kernel
theorem dX2_init_17 : decode cX2_init 17 = .ok (.dup, 1) := by decide +kernel
theorem dX2_init_18 : decode cX2_init 18 = .ok (.invokespecial 15, 3) := by decide +kernel
theorem dX2_init_21 : decode cX2_init 21 = .ok (.putfield 16, 3) := by decide +kernel
theorem dX2_init_24 : decode cX2_init 24 = .ok (.aload_n 0, 1) := by decide +kernel
theorem dX2_init_25 : decode cX2_init 25 = .ok (.aload_n 0, 1) := by decide +kernel
theorem dX2_init_26 : decode cX2_init 26 = .ok (.getfield 16, 3) := by decide +kernel
theorem dX2_init_29 : decode cX2_init 29 = .ok (.getfield 20, 3) := by decide +kernel
theorem dX2_init_32 : decode cX2_init 32 = .ok (.putfield 24, 3) := by decide +kernel
theorem dX2_init_35 : decode cX2_init 35 = .ok (.return_, 1) := by decide +kernel
theorem dX2_put_0 : decode cX2_put 0 = .ok (.iload_n 3, 1) := by decide +kernel
theorem dX2_put_1 : decode cX2_put 1 = .ok (.iconst 1, 1) := by decide +kernel
theorem dX2_put_2 : decode cX2_put 2 = .ok (.if_icmp .lt 21, 3) := by decide +kernel
theorem dX2_put_5 : decode cX2_put 5 = .ok (.iload_n 3, 1) := by decide +kernel
theorem dX2_put_6 : decode cX2_put 6 = .ok (.bipush 8, 2) := by decide +kernel
theorem dX2_put_8 : decode cX2_put 8 = .ok (.if_icmp .gt 15, 3) := by decide +kernel
theorem dX2_put_11 : decode cX2_put 11 = .ok (.aload_n 0, 1) := by decide +kernel
theorem dX2_put_12 : decode cX2_put 12 = .ok (.getfield 25, 3) := by decide +kernel
theorem dX2_put_15 : decode cX2_put 15 = .ok (.iload_n 3, 1) := by decide +kernel
theorem dX2_put_16 : decode cX2_put 16 = .ok (.iadd, 1) := by decide +kernel
theorem dX2_put_17 : decode cX2_put 17 = .ok (.sipush 300, 3) := by decide +kernel
theorem dX2_put_20 : decode cX2_put 20 = .ok (.if_icmp .le 5, 3) := by decide +kernel
theorem dX2_put_23 : decode cX2_put 23 = .ok (.iconst 0, 1) := by decide +kernel
theorem dX2_put_24 : decode cX2_put 24 = .ok (.ireturn, 1) := by decide +kernel
theorem dX2_put_25 : decode cX2_put 25 = .ok (.iload_n 3, 1) := by decide +kernel
theorem dX2_put_26 : decode cX2_put 26 = .ok (.iconst 1, 1) := by decide +kernel
theorem dX2_put_27 : decode cX2_put 27 = .ok (.isub, 1) := by decide +kernel
theorem dX2_put_28 : decode cX2_put 28 = .ok (.istore 4, 2) := by decide +kernel
theorem dX2_put_30 : decode cX2_put 30 = .ok (.iload 4, 2) := by decide +kernel
theorem dX2_put_32 : decode cX2_put 32 = .ok (.ifCond .lt 37, 3) := by decide +kernel
theorem dX2_put_35 : decode cX2_put 35 = .ok (.aload_n 0, 1) := by decide +kernel
theorem dX2_put_36 : decode cX2_put 36 = .ok (.getfield 9, 3) := by decide +kernel
theorem dX2_put_39 : decode cX2_put 39 = .ok (.aload_n 0, 1) := by decide +kernel
theorem dX2_put_40 : decode cX2_put 40 = .ok (.getfield 25, 3) := by decide +kernel
theorem dX2_put_43 : decode cX2_put 43 = .ok (.lload_n 1, 1) := by decide +kernel
theorem dX2_put_44 : decode cX2_put 44 = .ok (.bipush 8, 2) := by decide +kernel
theorem dX2_put_46 : decode cX2_put 46 = .ok (.iload 4, 2) := by decide +kernel
theorem dX2_put_48 : decode cX2_put 48 = .ok (.imul, 1) := by decide +kernel
theorem dX2_put_49 : decode cX2_put 49 = .ok (.lushr, 1) := by decide +kernel
theorem dX2_put_50 : decode cX2_put 50 = .ok (.l2i, 1) := by decide +kernel
theorem dX2_put_51 : decode cX2_put 51 = .ok (.i2b, 1) := by decide +kernel
theorem dX2_put_52 : decode cX2_put 52 = .ok (.bastore, 1) := by decide +kernel
theorem dX2_put_53 : decode cX2_put 53 = .ok (.aload_n 0, 1) := by decide +kernel
theorem dX2_put_54 : decode cX2_put 54 = .ok (.dup, 1) := by decide +kernel
theorem dX2_put_55 : decode cX2_put 55 = .ok (.getfield 25, 3) := by decide +kernel
theorem dX2_put_58 : decode cX2_put 58 = .ok (.iconst 1, 1) := by decide +kernel
theorem dX2_put_59 : decode cX2_put 59 = .ok (.iadd, 1) := by decide +kernel
theorem dX2_put_60 : decode cX2_put 60 = .ok (.putfield 25, 3) := by decide +kernel
theorem dX2_put_63 : decode cX2_put 63 = .ok (.iinc 4 (-1), 3) := by decide +kernel
theorem dX2_put_66 : decode cX2_put 66 = .ok (.goto (-36), 3) := by decide +kernel
theorem dX2_put_69 : decode cX2_put 69 = .ok (.iconst 1, 1) := by decide +kernel
theorem dX2_put_70 : decode cX2_put 70 = .ok (.ireturn, 1) := by decide +kernel
theorem dX2_read_0 : decode cX2_read 0 = .ok (.aload_n 0, 1) := by decide +kernel
theorem dX2_read_1 : decode cX2_read 1 = .ok (.invokevirtual 29, 3) := by decide +kernel
theorem dX2_read_4 : decode cX2_read 4 = .ok (.istore_n 1, 1) := by decide +kernel
theorem dX2_read_5 : decode cX2_read 5 = .ok (.iload_n 1, 1) := by decide +kernel
theorem dX2_read_6 : decode cX2_read 6 = .ok (.ifCond .ge 10, 3) := by decide +kernel
theorem dX2_read_9 : decode cX2_read 9 = .ok (.aload_n 0, 1) := by decide +kernel
theorem dX2_read_10 : decode cX2_read 10 = .ok (.getfield 24, 3) := by decide +kernel
theorem dX2_read_13 : decode cX2_read 13 = .ok (.invokevirtual 33, 3) := by decide +kernel
theorem dX2_read_16 : decode cX2_read 16 = .ok (.aload_n 0, 1) := by decide +kernel
theorem dX2_read_17 : decode cX2_read 17 = .ok (.iconst 0, 1) := by decide +kernel
theorem dX2_read_18 : decode cX2_read 18 = .ok (.putfield 25, 3) := by decide +kernel
theorem dX2_read_21 : decode cX2_read 21 = .ok (.aload_n 0, 1) := by decide +kernel
theorem dX2_read_22 : decode cX2_read 22 = .ok (.invokevirtual 38, 3) := by decide +kernel
theorem dX2_read_25 : decode cX2_read 25 = .ok (.iload_n 1, 1) := by decide +kernel
theorem dX2_read_26 : decode cX2_read 26 = .ok (.ireturn, 1) := by decide +kernel
theorem dX2_isClear_0 : decode cX2_isClear 0 = .ok (.aload_n 0, 1) := by decide +kernel
theorem dX2_isClear_1 : decode cX2_isClear 1 = .ok (.getfield 24, 3) := by decide +kernel
theorem dX2_isClear_4 : decode cX2_isClear 4 = .ok (.getfield 41, 3) := by decide +kernel
theorem dX2_isClear_7 : decode cX2_isClear 7 = .ok (.ifCond .le 17, 3) := by decide +kernel
theorem dX2_isClear_10 : decode cX2_isClear 10 = .ok (.aload_n 0, 1) := by decide +kernel
theorem dX2_isClear_11 : decode cX2_isClear 11 = .ok (.getfield 24, 3) := by decide +kernel
theorem dX2_isClear_14 : decode cX2_isClear 14 = .ok (.invokevirtual 44, 3) := by decide +kernel
theorem dX2_isClear_17 : decode cX2_isClear 17 = .ok (.ifCond .ne 7, 3) := by decide +kernel
theorem dX2_isClear_20 : decode cX2_isClear 20 = .ok (.iconst 1, 1) := by decide +kernel
theorem dX2_isClear_21 : decode cX2_isClear 21 = .ok (.goto 4, 3) := by decide +kernel
theorem dX2_isClear_24 : decode cX2_isClear 24 = .ok (.iconst 0, 1) := by decide +kernel
theorem dX2_isClear_25 : decode cX2_isClear 25 = .ok (.ireturn, 1) := by decide +kernel
theorem dX2_competing_0 : decode cX2_competing 0 = .ok (.aload_n 0, 1) := by decide +kernel
theorem dX2_competing_1 : decode cX2_competing 1 = .ok (.getfield 24, 3) := by decide +kernel
theorem dX2_competing_4 : decode cX2_competing 4 = .ok (.invokevirtual 44, 3) := by decide +kernel
theorem dX2_competing_7 : decode cX2_competing 7 = .ok (.ireturn, 1) := by decide +kernel
theorem dX2_isEmpty_0 : decode cX2_isEmpty 0 = .ok (.aload_n 0, 1) := by decide +kernel
theorem dX2_isEmpty_1 : decode cX2_isEmpty 1 = .ok (.getfield 24, 3) := by decide +kernel
theorem dX2_isEmpty_4 : decode cX2_isEmpty 4 = .ok (.getfield 47, 3) := by decide +kernel
theorem dX2_isEmpty_7 : decode cX2_isEmpty 7 = .ok (.ireturn, 1) := by decide +kernel
theorem dX2_first_0 : decode cX2_first 0 = .ok (.aload_n 0, 1) := by decide +kernel
theorem dX2_first_1 : decode cX2_first 1 = .ok (.getfield 24, 3) := by decide +kernel
theorem dX2_first_4 : decode cX2_first 4 = .ok (.getfield 51, 3) := by decide +kernel
theorem dX2_first_7 : decode cX2_first 7 = .ok (.lreturn, 1) := by decide +kernel
theorem dX2_next_0 : decode cX2_next 0 = .ok (.aload_n 0, 1) := by decide +kernel
theorem dX2_next_1 : decode cX2_next 1 = .ok (.getfield 24, 3) := by decide +kernel
theorem dX2_next_4 : decode cX2_next 4 = .ok (.iload_n 1, 1) := by decide +kernel
theorem dX2_next_5 : decode cX2_next 5 = .ok (.invokevirtual 55, 3) := by decide +kernel
theorem dX2_next_8 : decode cX2_next 8 = .ok (.ifCond .eq 15, 3) := by decide +kernel
theorem dX2_next_11 : decode cX2_next 11 = .ok (.aload_n 0, 1) := by decide +kernel
theorem dX2_next_12 : decode cX2_next 12 = .ok (.getfield 24, 3) := by decide +kernel
theorem dX2_next_15 : decode cX2_next 15 = .ok (.getfield 59, 3) := by decide +kernel
theorem dX2_next_18 : decode cX2_next 18 = .ok (.iload_n 1, 1) := by decide +kernel
theorem dX2_next_19 : decode cX2_next 19 = .ok (.laload, 1) := by decide +kernel
theorem dX2_next_20 : decode cX2_next 20 = .ok (.goto 4, 3) := by decide +kernel
theorem dX2_next_23 : decode cX2_next 23 = .ok (.lconst 0, 1) := by decide +kernel
theorem dX2_next_24 : decode cX2_next 24 = .ok (.lreturn, 1) := by decide +kernel
theorem dX2_last_0 : decode cX2_last 0 = .ok (.aload_n 0, 1) := by decide +kernel
theorem dX2_last_1 : decode cX2_last 1 = .ok (.getfield 24, 3) := by decide +kernel
theorem dX2_last_4 : decode cX2_last 4 = .ok (.getfield 63, 3) := by decide +kernel
theorem dX2_last_7 : decode cX2_last 7 = .ok (.lreturn, 1) := by decide +kernel
theorem dX2_name_0 : decode cX2_name 0 = .ok (.aload_n 0, 1) := by decide +kernel
theorem dX2_name_1 : decode cX2_name 1 = .ok (.getfield 24, 3) := by decide +kernel
theorem dX2_name_4 : decode cX2_name 4 = .ok (.iload_n 1, 1) := by decide +kernel
theorem dX2_name_5 : decode cX2_name 5 = .ok (.invokevirtual 55, 3) := by decide +kernel
theorem dX2_name_8 : decode cX2_name 8 = .ok (.ifCond .eq 15, 3) := by decide +kernel
theorem dX2_name_11 : decode cX2_name 11 = .ok (.aload_n 0, 1) := by decide +kernel
theorem dX2_name_12 : decode cX2_name 12 = .ok (.getfield 24, 3) := by decide +kernel
theorem dX2_name_15 : decode cX2_name 15 = .ok (.getfield 66, 3) := by decide +kernel
theorem dX2_name_18 : decode cX2_name 18 = .ok (.iload_n 1, 1) := by decide +kernel
theorem dX2_name_19 : decode cX2_name 19 = .ok (.iaload, 1) := by decide +kernel
theorem dX2_name_20 : decode cX2_name 20 = .ok (.goto 4, 3) := by decide +kernel
theorem dX2_name_23 : decode cX2_name 23 = .ok (.iconst (-1), 1) := by decide +kernel
theorem dX2_name_24 : decode cX2_name 24 = .ok (.ireturn, 1) := by decide +kernel
theorem dX2_come_0 : decode cX2_come 0 = .ok (.aload_n 0, 1) := by decide +kernel
theorem dX2_come_1 : decode cX2_come 1 = .ok (.getfield 24, 3) := by decide +kernel
theorem dX2_come_4 : decode cX2_come 4 = .ok (.iload_n 1, 1) := by decide +kernel
theorem dX2_come_5 : decode cX2_come 5 = .ok (.aload_n 0, 1) := by decide +kernel
theorem dX2_come_6 : decode cX2_come 6 = .ok (.getfield 70, 3) := by decide +kernel
theorem dX2_come_9 : decode cX2_come 9 = .ok (.invokevirtual 73, 3) := by decide +kernel
theorem dX2_come_12 : decode cX2_come 12 = .ok (.lstore_n 2, 1) := by decide +kernel
theorem dX2_come_13 : decode cX2_come 13 = .ok (.lload_n 2, 1) := by decide +kernel
theorem dX2_come_14 : decode cX2_come 14 = .ok (.lconst 0, 1) := by decide +kernel
theorem dX2_come_15 : decode cX2_come 15 = .ok (.lcmp, 1) := by decide +kernel
theorem dX2_come_16 : decode cX2_come 16 = .ok (.ifCond .ne 5, 3) := by decide +kernel
theorem dX2_come_19 : decode cX2_come 19 = .ok (.iconst 0, 1) := by decide +kernel
theorem dX2_come_20 : decode cX2_come 20 = .ok (.ireturn, 1) := by decide +kernel
theorem dX2_come_21 : decode cX2_come 21 = .ok (.aload_n 0, 1) := by decide +kernel
theorem dX2_come_22 : decode cX2_come 22 = .ok (.aload_n 0, 1) := by decide +kernel
theorem dX2_come_23 : decode cX2_come 23 = .ok (.getfield 24, 3) := by decide +kernel
theorem dX2_come_26 : decode cX2_come 26 = .ok (.lload_n 2, 1) := by decide +kernel
theorem dX2_come_27 : decode cX2_come 27 = .ok (.invokevirtual 77, 3) := by decide +kernel
theorem dX2_come_30 : decode cX2_come 30 = .ok (.putfield 70, 3) := by decide +kernel
theorem dX2_come_33 : decode cX2_come 33 = .ok (.aload_n 0, 1) := by decide +kernel
theorem dX2_come_34 : decode cX2_come 34 = .ok (.lload_n 2, 1) := by decide +kernel
theorem dX2_come_35 : decode cX2_come 35 = .ok (.aload_n 0, 1) := by decide +kernel
theorem dX2_come_36 : decode cX2_come 36 = .ok (.getfield 24, 3) := by decide +kernel
theorem dX2_come_39 : decode cX2_come 39 = .ok (.getfield 63, 3) := by decide +kernel
theorem dX2_come_42 : decode cX2_come 42 = .ok (.land, 1) := by decide +kernel
theorem dX2_come_43 : decode cX2_come 43 = .ok (.lconst 0, 1) := by decide +kernel
theorem dX2_come_44 : decode cX2_come 44 = .ok (.lcmp, 1) := by decide +kernel
theorem dX2_come_45 : decode cX2_come 45 = .ok (.ifCond .eq 7, 3) := by decide +kernel
theorem dX2_come_48 : decode cX2_come 48 = .ok (.iconst 1, 1) := by decide +kernel
theorem dX2_come_49 : decode cX2_come 49 = .ok (.goto 4, 3) := by decide +kernel
theorem dX2_come_52 : decode cX2_come 52 = .ok (.iconst 0, 1) := by decide +kernel
theorem dX2_come_53 : decode cX2_come 53 = .ok (.putfield 81, 3) := by decide +kernel
theorem dX2_come_56 : decode cX2_come 56 = .ok (.aload_n 0, 1) := by decide +kernel
theorem dX2_come_57 : decode cX2_come 57 = .ok (.dup, 1) := by decide +kernel
theorem dX2_come_58 : decode cX2_come 58 = .ok (.getfield 84, 3) := by decide +kernel
theorem dX2_come_61 : decode cX2_come 61 = .ok (.iconst 1, 1) := by decide +kernel
theorem dX2_come_62 : decode cX2_come 62 = .ok (.iadd, 1) := by decide +kernel
theorem dX2_come_63 : decode cX2_come 63 = .ok (.putfield 84, 3) := by decide +kernel
theorem dX2_come_66 : decode cX2_come 66 = .ok (.iconst 1, 1) := by decide +kernel
theorem dX2_come_67 : decode cX2_come 67 = .ok (.ireturn, 1) := by decide +kernel
theorem dX2_isWhole_0 : decode cX2_isWhole 0 = .ok (.aload_n 0, 1) := by decide +kernel
theorem dX2_isWhole_1 : decode cX2_isWhole 1 = .ok (.getfield 81, 3) := by decide +kernel
theorem dX2_isWhole_4 : decode cX2_isWhole 4 = .ok (.ireturn, 1) := by decide +kernel
theorem dX2_may_0 : decode cX2_may 0 = .ok (.aload_n 0, 1) := by decide +kernel
theorem dX2_may_1 : decode cX2_may 1 = .ok (.getfield 24, 3) := by decide +kernel
theorem dX2_may_4 : decode cX2_may 4 = .ok (.aload_n 0, 1) := by decide +kernel
theorem dX2_may_5 : decode cX2_may 5 = .ok (.getfield 70, 3) := by decide +kernel
theorem dX2_may_8 : decode cX2_may 8 = .ok (.invokevirtual 87, 3) := by decide +kernel
theorem dX2_may_11 : decode cX2_may 11 = .ok (.ireturn, 1) := by decide +kernel
theorem dX2_again_0 : decode cX2_again 0 = .ok (.aload_n 0, 1) := by decide +kernel
theorem dX2_again_1 : decode cX2_again 1 = .ok (.getfield 84, 3) := by decide +kernel
theorem dX2_again_4 : decode cX2_again 4 = .ok (.istore_n 1, 1) := by decide +kernel
theorem dX2_again_5 : decode cX2_again 5 = .ok (.aload_n 0, 1) := by decide +kernel
theorem dX2_again_6 : decode cX2_again 6 = .ok (.invokevirtual 38, 3) := by decide +kernel
theorem dX2_again_9 : decode cX2_again 9 = .ok (.iload_n 1, 1) := by decide +kernel
theorem dX2_again_10 : decode cX2_again 10 = .ok (.ireturn, 1) := by decide +kernel
theorem dX2_readText_0 : decode cX2_readText 0 = .ok (.aload_n 0, 1) := by decide +kernel
theorem dX2_readText_1 : decode cX2_readText 1 = .ok (.getfield 16, 3) := by decide +kernel
theorem dX2_readText_4 : decode cX2_readText 4 = .ok (.invokevirtual 91, 3) := by decide +kernel
theorem dX2_readText_7 : decode cX2_readText 7 = .ok (.iconst 0, 1) := by decide +kernel
theorem dX2_readText_8 : decode cX2_readText 8 = .ok (.istore_n 1, 1) := by decide +kernel
theorem dX2_readText_9 : decode cX2_readText 9 = .ok (.iload_n 1, 1) := by decide +kernel
theorem dX2_readText_10 : decode cX2_readText 10 = .ok (.aload_n 0, 1) := by decide +kernel
theorem dX2_readText_11 : decode cX2_readText 11 = .ok (.getfield 25, 3) := by decide +kernel
theorem dX2_readText_14 : decode cX2_readText 14 = .ok (.if_icmp .ge 43, 3) := by decide +kernel
theorem dX2_readText_17 : decode cX2_readText 17 = .ok (.aload_n 0, 1) := by decide +kernel
theorem dX2_readText_18 : decode cX2_readText 18 = .ok (.getfield 16, 3) := by decide +kernel
theorem dX2_readText_21 : decode cX2_readText 21 = .ok (.aload_n 0, 1) := by decide +kernel
theorem dX2_readText_22 : decode cX2_readText 22 = .ok (.getfield 9, 3) := by decide +kernel
theorem dX2_readText_25 : decode cX2_readText 25 = .ok (.iload_n 1, 1) := by decide +kernel
theorem dX2_readText_26 : decode cX2_readText 26 = .ok (.baload, 1) := by decide +kernel
theorem dX2_readText_27 : decode cX2_readText 27 = .ok (.invokevirtual 94, 3) := by decide +kernel
theorem dX2_readText_30 : decode cX2_readText 30 = .ok (.istore_n 2, 1) := by decide +kernel
theorem dX2_readText_31 : decode cX2_readText 31 = .ok (.iload_n 2, 1) := by decide +kernel
theorem dX2_readText_32 : decode cX2_readText 32 = .ok (.iconst 1, 1) := by decide +kernel
theorem dX2_readText_33 : decode cX2_readText 33 = .ok (.if_icmp .ne 7, 3) := by decide +kernel
theorem dX2_readText_36 : decode cX2_readText 36 = .ok (.iconst (-1), 1) := by decide +kernel
theorem dX2_readText_37 : decode cX2_readText 37 = .ok (.iload_n 1, 1) := by decide +kernel
theorem dX2_readText_38 : decode cX2_readText 38 = .ok (.isub, 1) := by decide +kernel
theorem dX2_readText_39 : decode cX2_readText 39 = .ok (.ireturn, 1) := by decide +kernel
theorem dX2_readText_40 : decode cX2_readText 40 = .ok (.iload_n 2, 1) := by decide +kernel
theorem dX2_readText_41 : decode cX2_readText 41 = .ok (.iconst 2, 1) := by decide +kernel
theorem dX2_readText_42 : decode cX2_readText 42 = .ok (.if_icmp .ne 9, 3) := by decide +kernel
theorem dX2_readText_45 : decode cX2_readText 45 = .ok (.sipush (-1000), 3) := by decide +kernel
theorem dX2_readText_48 : decode cX2_readText 48 = .ok (.iload_n 1, 1) := by decide +kernel
theorem dX2_readText_49 : decode cX2_readText 49 = .ok (.isub, 1) := by decide +kernel
theorem dX2_readText_50 : decode cX2_readText 50 = .ok (.ireturn, 1) := by decide +kernel
theorem dX2_readText_51 : decode cX2_readText 51 = .ok (.iinc 1 1, 3) := by decide +kernel
theorem dX2_readText_54 : decode cX2_readText 54 = .ok (.goto (-45), 3) := by decide +kernel
theorem dX2_readText_57 : decode cX2_readText 57 = .ok (.aload_n 0, 1) := by decide +kernel
theorem dX2_readText_58 : decode cX2_readText 58 = .ok (.getfield 16, 3) := by decide +kernel
theorem dX2_readText_61 : decode cX2_readText 61 = .ok (.invokevirtual 98, 3) := by decide +kernel
theorem dX2_readText_64 : decode cX2_readText 64 = .ok (.ifCond .eq 13, 3) := by decide +kernel
theorem dX2_readText_67 : decode cX2_readText 67 = .ok (.aload_n 0, 1) := by decide +kernel
theorem dX2_readText_68 : decode cX2_readText 68 = .ok (.getfield 24, 3) := by decide +kernel
theorem dX2_readText_71 : decode cX2_readText 71 = .ok (.getfield 41, 3) := by decide +kernel
theorem dX2_readText_74 : decode cX2_readText 74 = .ok (.goto 9, 3) := by decide +kernel
theorem dX2_readText_77 : decode cX2_readText 77 = .ok (.iconst (-1), 1) := by decide +kernel
theorem dX2_readText_78 : decode cX2_readText 78 = .ok (.aload_n 0, 1) := by decide +kernel
theorem dX2_readText_79 : decode cX2_readText 79 = .ok (.getfield 25, 3) := by decide +kernel
theorem dX2_readText_82 : decode cX2_readText 82 = .ok (.isub, 1) := by decide +kernel
theorem dX2_readText_83 : decode cX2_readText 83 = .ok (.ireturn, 1) := by decide +kernel
theorem dX2_startRow_0 : decode cX2_startRow 0 = .ok (.aload_n 0, 1) := by decide +kernel
theorem dX2_startRow_1 : decode cX2_startRow 1 = .ok (.aload_n 0, 1) := by decide +kernel
theorem dX2_startRow_2 : decode cX2_startRow 2 = .ok (.getfield 24, 3) := by decide +kernel
theorem dX2_startRow_5 : decode cX2_startRow 5 = .ok (.getfield 51, 3) := by decide +kernel
theorem dX2_startRow_8 : decode cX2_startRow 8 = .ok (.putfield 70, 3) := by decide +kernel
theorem dX2_startRow_11 : decode cX2_startRow 11 = .ok (.aload_n 0, 1) := by decide +kernel
theorem dX2_startRow_12 : decode cX2_startRow 12 = .ok (.aload_n 0, 1) := by decide +kernel
theorem dX2_startRow_13 : decode cX2_startRow 13 = .ok (.getfield 24, 3) := by decide +kernel
theorem dX2_startRow_16 : decode cX2_startRow 16 = .ok (.getfield 47, 3) := by decide +kernel
theorem dX2_startRow_19 : decode cX2_startRow 19 = .ok (.putfield 81, 3) := by decide +kernel
theorem dX2_startRow_22 : decode cX2_startRow 22 = .ok (.aload_n 0, 1) := by decide +kernel
theorem dX2_startRow_23 : decode cX2_startRow 23 = .ok (.iconst 0, 1) := by decide +kernel
theorem dX2_startRow_24 : decode cX2_startRow 24 = .ok (.putfield 84, 3) := by decide +kernel
theorem dX2_startRow_27 : decode cX2_startRow 27 = .ok (.return_, 1) := by decide +kernel
end
section
theorem dX3_init_0 : decode cX3_init 0 = .ok (.aload_n 0, 1) := by decide +kernel
theorem dX3_init_1 : decode cX3_init 1 = .ok (.invokespecial 1, 3) := by decide +kernel
theorem dX3_init_4 : decode cX3_init 4 = .ok (.aload_n 0, 1) := by decide +kernel
theorem dX3_init_5 : decode cX3_init 5 = .ok (.sipush 300, 3) := by decide +kernel
theorem dX3_init_8 : decode cX3_init 8 = .ok (.newarray .int, 2) := by decide +kernel
theorem dX3_init_10 : decode cX3_init 10 = .ok (.putfield 7, 3) := by decide +kernel
theorem dX3_init_13 : decode cX3_init 13 = .ok (.aload_n 0, 1) := by decide +kernel
theorem dX3_init_14 : decode cX3_init 14 = .ok (.sipush 700, 3) := by decide +kernel
theorem dX3_init_17 : decode cX3_init 17 = .ok (.newarray .int, 2) := by decide +kernel
theorem dX3_init_19 : decode cX3_init 19 = .ok (.putfield 13, 3) := by decide +kernel
theorem dX3_init_22 : decode cX3_init 22 = .ok (.aload_n 0, 1) := by decide +kernel
theorem dX3_init_23 : decode cX3_init 23 = .ok (.sipush 700, 3) := by decide +kernel
theorem dX3_init_26 : decode cX3_init 26 = .ok (.newarray .int, 2) := by decide +kernel
theorem dX3_init_28 : decode cX3_init 28 = .ok (.putfield 16, 3) := by decide +kernel
theorem dX3_init_31 : decode cX3_init 31 = .ok (.aload_n 0, 1) := by decide +kernel
theorem dX3_init_32 : decode cX3_init 32 = .ok (.sipush 700, 3) := by decide +kernel
theorem dX3_init_35 : decode cX3_init 35 = .ok (.newarray .int, 2) := by decide +kernel
theorem dX3_init_37 : decode cX3_init 37 = .ok (.putfield 19, 3) := by decide +kernel
theorem dX3_init_40 : decode cX3_init 40 = .ok (.aload_n 0, 1) := by decide +kernel
theorem dX3_init_41 : decode cX3_init 41 = .ok (.sipush 700, 3) := by decide +kernel
theorem dX3_init_44 : decode cX3_init 44 = .ok (.newarray .int, 2) := by decide +kernel
theorem dX3_init_46 : decode cX3_init 46 = .ok (.putfield 22, 3) := by decide +kernel
theorem dX3_init_49 : decode cX3_init 49 = .ok (.aload_n 0, 1) := by decide +kernel
theorem dX3_init_50 : decode cX3_init 50 = .ok (.sipush 700, 3) := by decide +kernel
theorem dX3_init_53 : decode cX3_init 53 = .ok (.newarray .boolean, 2) := by decide +kernel
theorem dX3_init_55 : decode cX3_init 55 = .ok (.putfield 25, 3) := by decide +kernel
theorem dX3_init_58 : decode cX3_init 58 = .ok (.aload_n 0, 1) := by decide +kernel
theorem dX3_init_59 : decode cX3_init 59 = .ok (.bipush 60, 2) := by decide +kernel
theorem dX3_init_61 : decode cX3_init 61 = .ok (.newarray .int, 2) := by decide +kernel
theorem dX3_init_63 : decode cX3_init 63 = .ok (.putfield 29, 3) := by decide +kernel
theorem dX3_init_66 : decode cX3_init 66 = .ok (.aload_n 0, 1) := by decide +kernel
theorem dX3_init_67 : decode cX3_init 67 = .ok (.bipush 60, 2) := by decide +kernel
theorem dX3_init_69 : decode cX3_init 69 = .ok (.newarray .int, 2) := by decide +kernel
theorem dX3_init_71 : decode cX3_init 71 = .ok (.putfield 32, 3) := by decide +kernel
theorem dX3_init_74 : decode cX3_init 74 = .ok (.aload_n 0, 1) := by decide +kernel
theorem dX3_init_75 : decode cX3_init 75 = .ok (.bipush 12, 2) := by decide +kernel
theorem dX3_init_77 : decode cX3_init 77 = .ok (.newarray .int, 2) := by decide +kernel
theorem dX3_init_79 : decode cX3_init 79 = .ok (.putfield 35, 3) := by decide +kernel
theorem dX3_init_82 : decode cX3_init 82 = .ok (.aload_n 0, 1) := by decide +kernel
theorem dX3_init_83 : decode cX3_init 83 = .ok (.bipush 12, 2) := by decide +kernel
theorem dX3_init_85 : decode cX3_init 85 = .ok (.newarray .int, 2) := by decide +kernel
theorem dX3_init_87 : decode cX3_init 87 = .ok (.putfield 38, 3) := by decide +kernel
theorem dX3_init_90 : decode cX3_init 90 = .ok (.return_, 1) := by decide +kernel
theorem dX3_put_0 : decode cX3_put 0 = .ok (.iload_n 3, 1) := by decide +kernel
theorem dX3_put_1 : decode cX3_put 1 = .ok (.iconst 1, 1) := by decide +kernel
theorem dX3_put_2 : decode cX3_put 2 = .ok (.if_icmp .lt 21, 3) := by decide +kernel
theorem dX3_put_5 : decode cX3_put 5 = .ok (.iload_n 3, 1) := by decide +kernel
theorem dX3_put_6 : decode cX3_put 6 = .ok (.bipush 8, 2) := by decide +kernel
theorem dX3_put_8 : decode cX3_put 8 = .ok (.if_icmp .gt 15, 3) := by decide +kernel
theorem dX3_put_11 : decode cX3_put 11 = .ok (.aload_n 0, 1) := by decide +kernel
theorem dX3_put_12 : decode cX3_put 12 = .ok (.getfield 41, 3) := by decide +kernel
theorem dX3_put_15 : decode cX3_put 15 = .ok (.iload_n 3, 1) := by decide +kernel
theorem dX3_put_16 : decode cX3_put 16 = .ok (.iadd, 1) := by decide +kernel
theorem dX3_put_17 : decode cX3_put 17 = .ok (.sipush 300, 3) := by decide +kernel
theorem dX3_put_20 : decode cX3_put 20 = .ok (.if_icmp .le 5, 3) := by decide +kernel
theorem dX3_put_23 : decode cX3_put 23 = .ok (.iconst 0, 1) := by decide +kernel
theorem dX3_put_24 : decode cX3_put 24 = .ok (.ireturn, 1) := by decide +kernel
theorem dX3_put_25 : decode cX3_put 25 = .ok (.iconst 0, 1) := by decide +kernel
theorem dX3_put_26 : decode cX3_put 26 = .ok (.istore 4, 2) := by decide +kernel
theorem dX3_put_28 : decode cX3_put 28 = .ok (.iload 4, 2) := by decide +kernel
theorem dX3_put_30 : decode cX3_put 30 = .ok (.iload_n 3, 1) := by decide +kernel
theorem dX3_put_31 : decode cX3_put 31 = .ok (.if_icmp .ge 37, 3) := by decide +kernel
theorem dX3_put_34 : decode cX3_put 34 = .ok (.aload_n 0, 1) := by decide +kernel
theorem dX3_put_35 : decode cX3_put 35 = .ok (.getfield 7, 3) := by decide +kernel
theorem dX3_put_38 : decode cX3_put 38 = .ok (.aload_n 0, 1) := by decide +kernel
theorem dX3_put_39 : decode cX3_put 39 = .ok (.getfield 41, 3) := by decide +kernel
theorem dX3_put_42 : decode cX3_put 42 = .ok (.iload 4, 2) := by decide +kernel
theorem dX3_put_44 : decode cX3_put 44 = .ok (.iadd, 1) := by decide +kernel
theorem dX3_put_45 : decode cX3_put 45 = .ok (.lload_n 1, 1) := by decide +kernel
theorem dX3_put_46 : decode cX3_put 46 = .ok (.bipush 8, 2) := by decide +kernel
theorem dX3_put_48 : decode cX3_put 48 = .ok (.iload_n 3, 1) := by decide +kernel
theorem dX3_put_49 : decode cX3_put 49 = .ok (.iconst 1, 1) := by decide +kernel
theorem dX3_put_50 : decode cX3_put 50 = .ok (.isub, 1) := by decide +kernel
theorem dX3_put_51 : decode cX3_put 51 = .ok (.iload 4, 2) := by decide +kernel
theorem dX3_put_53 : decode cX3_put 53 = .ok (.isub, 1) := by decide +kernel
theorem dX3_put_54 : decode cX3_put 54 = .ok (.imul, 1) := by decide +kernel
theorem dX3_put_55 : decode cX3_put 55 = .ok (.lshr, 1) := by decide +kernel
theorem dX3_put_56 : decode cX3_put 56 = .ok (.ldc2_w 45, 3) := by decide +kernel
theorem dX3_put_59 : decode cX3_put 59 = .ok (.land, 1) := by decide +kernel
theorem dX3_put_60 : decode cX3_put 60 = .ok (.l2i, 1) := by decide +kernel
theorem dX3_put_61 : decode cX3_put 61 = .ok (.iastore, 1) := by decide +kernel
theorem dX3_put_62 : decode cX3_put 62 = .ok (.iinc 4 1, 3) := by decide +kernel
theorem dX3_put_65 : decode cX3_put 65 = .ok (.goto (-37), 3) := by decide +kernel
theorem dX3_put_68 : decode cX3_put 68 = .ok (.aload_n 0, 1) := by decide +kernel
theorem dX3_put_69 : decode cX3_put 69 = .ok (.aload_n 0, 1) := by decide +kernel
theorem dX3_put_70 : decode cX3_put 70 = .ok (.getfield 41, 3) := by decide +kernel
theorem dX3_put_73 : decode cX3_put 73 = .ok (.iload_n 3, 1) := by decide +kernel
theorem dX3_put_74 : decode cX3_put 74 = .ok (.iadd, 1) := by decide +kernel
theorem dX3_put_75 : decode cX3_put 75 = .ok (.putfield 41, 3) := by decide +kernel
theorem dX3_put_78 : decode cX3_put 78 = .ok (.iconst 1, 1) := by decide +kernel
theorem dX3_put_79 : decode cX3_put 79 = .ok (.ireturn, 1) := by decide +kernel
theorem dX3_at_0 : decode cX3_at 0 = .ok (.iload_n 1, 1) := by decide +kernel
theorem dX3_at_1 : decode cX3_at 1 = .ok (.aload_n 0, 1) := by decide +kernel
theorem dX3_at_2 : decode cX3_at 2 = .ok (.getfield 41, 3) := by decide +kernel
theorem dX3_at_5 : decode cX3_at 5 = .ok (.if_icmp .ge 12, 3) := by decide +kernel
theorem dX3_at_8 : decode cX3_at 8 = .ok (.aload_n 0, 1) := by decide +kernel
theorem dX3_at_9 : decode cX3_at 9 = .ok (.getfield 7, 3) := by decide +kernel
theorem dX3_at_12 : decode cX3_at 12 = .ok (.iload_n 1, 1) := by decide +kernel
theorem dX3_at_13 : decode cX3_at 13 = .ok (.iaload, 1) := by decide +kernel
theorem dX3_at_14 : decode cX3_at 14 = .ok (.goto 4, 3) := by decide +kernel
theorem dX3_at_17 : decode cX3_at 17 = .ok (.iconst (-1), 1) := by decide +kernel
theorem dX3_at_18 : decode cX3_at 18 = .ok (.ireturn, 1) := by decide +kernel
theorem dX3_node_0 : decode cX3_node 0 = .ok (.aload_n 0, 1) := by decide +kernel
theorem dX3_node_1 : decode cX3_node 1 = .ok (.getfield 13, 3) := by decide +kernel
theorem dX3_node_4 : decode cX3_node 4 = .ok (.aload_n 0, 1) := by decide +kernel
theorem dX3_node_5 : decode cX3_node 5 = .ok (.getfield 47, 3) := by decide +kernel
theorem dX3_node_8 : decode cX3_node 8 = .ok (.iload_n 1, 1) := by decide +kernel
theorem dX3_node_9 : decode cX3_node 9 = .ok (.iastore, 1) := by decide +kernel
theorem dX3_node_10 : decode cX3_node 10 = .ok (.aload_n 0, 1) := by decide +kernel
theorem dX3_node_11 : decode cX3_node 11 = .ok (.getfield 16, 3) := by decide +kernel
theorem dX3_node_14 : decode cX3_node 14 = .ok (.aload_n 0, 1) := by decide +kernel
theorem dX3_node_15 : decode cX3_node 15 = .ok (.getfield 47, 3) := by decide +kernel
theorem dX3_node_18 : decode cX3_node 18 = .ok (.iconst (-1), 1) := by decide +kernel
theorem dX3_node_19 : decode cX3_node 19 = .ok (.iastore, 1) := by decide +kernel
theorem dX3_node_20 : decode cX3_node 20 = .ok (.aload_n 0, 1) := by decide +kernel
theorem dX3_node_21 : decode cX3_node 21 = .ok (.getfield 19, 3) := by decide +kernel
theorem dX3_node_24 : decode cX3_node 24 = .ok (.aload_n 0, 1) := by decide +kernel
theorem dX3_node_25 : decode cX3_node 25 = .ok (.getfield 47, 3) := by decide +kernel
theorem dX3_node_28 : decode cX3_node 28 = .ok (.iconst (-1), 1) := by decide +kernel
theorem dX3_node_29 : decode cX3_node 29 = .ok (.iastore, 1) := by decide +kernel
theorem dX3_node_30 : decode cX3_node 30 = .ok (.aload_n 0, 1) := by decide +kernel
theorem dX3_node_31 : decode cX3_node 31 = .ok (.getfield 22, 3) := by decide +kernel
theorem dX3_node_34 : decode cX3_node 34 = .ok (.aload_n 0, 1) := by decide +kernel
theorem dX3_node_35 : decode cX3_node 35 = .ok (.getfield 47, 3) := by decide +kernel
theorem dX3_node_38 : decode cX3_node 38 = .ok (.iconst (-1), 1) := by decide +kernel
theorem dX3_node_39 : decode cX3_node 39 = .ok (.iastore, 1) := by decide +kernel
theorem dX3_node_40 : decode cX3_node 40 = .ok (.aload_n 0, 1) := by decide +kernel
theorem dX3_node_41 : decode cX3_node 41 = .ok (.getfield 25, 3) := by decide +kernel
theorem dX3_node_44 : decode cX3_node 44 = .ok (.aload_n 0, 1) := by decide +kernel
theorem dX3_node_45 : decode cX3_node 45 = .ok (.getfield 47, 3) := by decide +kernel
theorem dX3_node_48 : decode cX3_node 48 = .ok (.iload_n 1, 1) := by decide +kernel
theorem dX3_node_49 : decode cX3_node 49 = .ok (.iconst 3, 1) := by decide +kernel
theorem dX3_node_50 : decode cX3_node 50 = .ok (.if_icmp .eq 8, 3) := by decide +kernel
theorem dX3_node_53 : decode cX3_node 53 = .ok (.iload_n 1, 1) := by decide +kernel
theorem dX3_node_54 : decode cX3_node 54 = .ok (.iconst 4, 1) := by decide +kernel
theorem dX3_node_55 : decode cX3_node 55 = .ok (.if_icmp .ne 7, 3) := by decide +kernel
theorem dX3_node_58 : decode cX3_node 58 = .ok (.iconst 1, 1) := by decide +kernel
theorem dX3_node_59 : decode cX3_node 59 = .ok (.goto 4, 3) := by decide +kernel
theorem dX3_node_62 : decode cX3_node 62 = .ok (.iconst 0, 1) := by decide +kernel
theorem dX3_node_63 : decode cX3_node 63 = .ok (.bastore, 1) := by decide +kernel
theorem dX3_node_64 : decode cX3_node 64 = .ok (.aload_n 0, 1) := by decide +kernel
theorem dX3_node_65 : decode cX3_node 65 = .ok (.aload_n 0, 1) := by decide +kernel
theorem dX3_node_66 : decode cX3_node 66 = .ok (.getfield 47, 3) := by decide +kernel
theorem dX3_node_69 : decode cX3_node 69 = .ok (.iconst 1, 1) := by decide +kernel
theorem dX3_node_70 : decode cX3_node 70 = .ok (.iadd, 1) := by decide +kernel
theorem dX3_node_71 : decode cX3_node 71 = .ok (.putfield 47, 3) := by decide +kernel
theorem dX3_node_74 : decode cX3_node 74 = .ok (.aload_n 0, 1) := by decide +kernel
theorem dX3_node_75 : decode cX3_node 75 = .ok (.getfield 47, 3) := by decide +kernel
theorem dX3_node_78 : decode cX3_node 78 = .ok (.iconst 1, 1) := by decide +kernel
theorem dX3_node_79 : decode cX3_node 79 = .ok (.isub, 1) := by decide +kernel
theorem dX3_node_80 : decode cX3_node 80 = .ok (.ireturn, 1) := by decide +kernel
theorem dX3_add_0 : decode cX3_add 0 = .ok (.aload_n 0, 1) := by decide +kernel
theorem dX3_add_1 : decode cX3_add 1 = .ok (.getfield 35, 3) := by decide +kernel
theorem dX3_add_4 : decode cX3_add 4 = .ok (.aload_n 0, 1) := by decide +kernel
theorem dX3_add_5 : decode cX3_add 5 = .ok (.getfield 50, 3) := by decide +kernel
theorem dX3_add_8 : decode cX3_add 8 = .ok (.iconst 1, 1) := by decide +kernel
theorem dX3_add_9 : decode cX3_add 9 = .ok (.isub, 1) := by decide +kernel
theorem dX3_add_10 : decode cX3_add 10 = .ok (.iaload, 1) := by decide +kernel
theorem dX3_add_11 : decode cX3_add 11 = .ok (.istore_n 2, 1) := by decide +kernel
theorem dX3_add_12 : decode cX3_add 12 = .ok (.aload_n 0, 1) := by decide +kernel
theorem dX3_add_13 : decode cX3_add 13 = .ok (.getfield 19, 3) := by decide +kernel
theorem dX3_add_16 : decode cX3_add 16 = .ok (.iload_n 1, 1) := by decide +kernel
theorem dX3_add_17 : decode cX3_add 17 = .ok (.iload_n 2, 1) := by decide +kernel
theorem dX3_add_18 : decode cX3_add 18 = .ok (.iastore, 1) := by decide +kernel
theorem dX3_add_19 : decode cX3_add 19 = .ok (.iload_n 2, 1) := by decide +kernel
theorem dX3_add_20 : decode cX3_add 20 = .ok (.ifCond .lt 10, 3) := by decide +kernel
theorem dX3_add_23 : decode cX3_add 23 = .ok (.aload_n 0, 1) := by decide +kernel
theorem dX3_add_24 : decode cX3_add 24 = .ok (.getfield 22, 3) := by decide +kernel
theorem dX3_add_27 : decode cX3_add 27 = .ok (.iload_n 2, 1) := by decide +kernel
theorem dX3_add_28 : decode cX3_add 28 = .ok (.iload_n 1, 1) := by decide +kernel
theorem dX3_add_29 : decode cX3_add 29 = .ok (.iastore, 1) := by decide +kernel
theorem dX3_add_30 : decode cX3_add 30 = .ok (.aload_n 0, 1) := by decide +kernel
theorem dX3_add_31 : decode cX3_add 31 = .ok (.getfield 35, 3) := by decide +kernel
theorem dX3_add_34 : decode cX3_add 34 = .ok (.aload_n 0, 1) := by decide +kernel
theorem dX3_add_35 : decode cX3_add 35 = .ok (.getfield 50, 3) := by decide +kernel
theorem dX3_add_38 : decode cX3_add 38 = .ok (.iconst 1, 1) := by decide +kernel
theorem dX3_add_39 : decode cX3_add 39 = .ok (.isub, 1) := by decide +kernel
theorem dX3_add_40 : decode cX3_add 40 = .ok (.iload_n 1, 1) := by decide +kernel
theorem dX3_add_41 : decode cX3_add 41 = .ok (.iastore, 1) := by decide +kernel
theorem dX3_add_42 : decode cX3_add 42 = .ok (.return_, 1) := by decide +kernel
theorem dX3_signed_0 : decode cX3_signed 0 = .ok (.aload_n 0, 1) := by decide +kernel
theorem dX3_signed_1 : decode cX3_signed 1 = .ok (.iload_n 2, 1) := by decide +kernel
theorem dX3_signed_2 : decode cX3_signed 2 = .ok (.bipush 63, 2) := by decide +kernel
theorem dX3_signed_4 : decode cX3_signed 4 = .ok (.if_icmp .ne 7, 3) := by decide +kernel
theorem dX3_signed_7 : decode cX3_signed 7 = .ok (.iconst 3, 1) := by decide +kernel
theorem dX3_signed_8 : decode cX3_signed 8 = .ok (.goto 14, 3) := by decide +kernel
theorem dX3_signed_11 : decode cX3_signed 11 = .ok (.iload_n 2, 1) := by decide +kernel
theorem dX3_signed_12 : decode cX3_signed 12 = .ok (.bipush 42, 2) := by decide +kernel
theorem dX3_signed_14 : decode cX3_signed 14 = .ok (.if_icmp .ne 7, 3) := by decide +kernel
theorem dX3_signed_17 : decode cX3_signed 17 = .ok (.iconst 4, 1) := by decide +kernel
theorem dX3_signed_18 : decode cX3_signed 18 = .ok (.goto 4, 3) := by decide +kernel
theorem dX3_signed_21 : decode cX3_signed 21 = .ok (.iconst 5, 1) := by decide +kernel
theorem dX3_signed_22 : decode cX3_signed 22 = .ok (.invokevirtual 53, 3) := by decide +kernel
theorem dX3_signed_25 : decode cX3_signed 25 = .ok (.istore_n 3, 1) := by decide +kernel
theorem dX3_signed_26 : decode cX3_signed 26 = .ok (.aload_n 0, 1) := by decide +kernel
theorem dX3_signed_27 : decode cX3_signed 27 = .ok (.getfield 16, 3) := by decide +kernel
theorem dX3_signed_30 : decode cX3_signed 30 = .ok (.iload_n 1, 1) := by decide +kernel
theorem dX3_signed_31 : decode cX3_signed 31 = .ok (.iload_n 3, 1) := by decide +kernel
theorem dX3_signed_32 : decode cX3_signed 32 = .ok (.iastore, 1) := by decide +kernel
theorem dX3_signed_33 : decode cX3_signed 33 = .ok (.iload_n 2, 1) := by decide +kernel
theorem dX3_signed_34 : decode cX3_signed 34 = .ok (.bipush 43, 2) := by decide +kernel
theorem dX3_signed_36 : decode cX3_signed 36 = .ok (.if_icmp .ne 15, 3) := by decide +kernel
theorem dX3_signed_39 : decode cX3_signed 39 = .ok (.aload_n 0, 1) := by decide +kernel
theorem dX3_signed_40 : decode cX3_signed 40 = .ok (.getfield 25, 3) := by decide +kernel
theorem dX3_signed_43 : decode cX3_signed 43 = .ok (.iload_n 3, 1) := by decide +kernel
theorem dX3_signed_44 : decode cX3_signed 44 = .ok (.aload_n 0, 1) := by decide +kernel
theorem dX3_signed_45 : decode cX3_signed 45 = .ok (.getfield 25, 3) := by decide +kernel
theorem dX3_signed_48 : decode cX3_signed 48 = .ok (.iload_n 1, 1) := by decide +kernel
theorem dX3_signed_49 : decode cX3_signed 49 = .ok (.baload, 1) := by decide +kernel
theorem dX3_signed_50 : decode cX3_signed 50 = .ok (.bastore, 1) := by decide +kernel
theorem dX3_signed_51 : decode cX3_signed 51 = .ok (.iload_n 3, 1) := by decide +kernel
theorem dX3_signed_52 : decode cX3_signed 52 = .ok (.ireturn, 1) := by decide +kernel
theorem dX3_isSign_0 : decode cX3_isSign 0 = .ok (.iload_n 0, 1) := by decide +kernel
theorem dX3_isSign_1 : decode cX3_isSign 1 = .ok (.bipush 63, 2) := by decide +kernel
theorem dX3_isSign_3 : decode cX3_isSign 3 = .ok (.if_icmp .eq 15, 3) := by decide +kernel
theorem dX3_isSign_6 : decode cX3_isSign 6 = .ok (.iload_n 0, 1) := by decide +kernel
theorem dX3_isSign_7 : decode cX3_isSign 7 = .ok (.bipush 42, 2) := by decide +kernel
theorem dX3_isSign_9 : decode cX3_isSign 9 = .ok (.if_icmp .eq 9, 3) := by decide +kernel
theorem dX3_isSign_12 : decode cX3_isSign 12 = .ok (.iload_n 0, 1) := by decide +kernel
theorem dX3_isSign_13 : decode cX3_isSign 13 = .ok (.bipush 43, 2) := by decide +kernel
theorem dX3_isSign_15 : decode cX3_isSign 15 = .ok (.if_icmp .ne 7, 3) := by decide +kernel
theorem dX3_isSign_18 : decode cX3_isSign 18 = .ok (.iconst 1, 1) := by decide +kernel
theorem dX3_isSign_19 : decode cX3_isSign 19 = .ok (.goto 4, 3) := by decide +kernel
theorem dX3_isSign_22 : decode cX3_isSign 22 = .ok (.iconst 0, 1) := by decide +kernel
theorem dX3_isSign_23 : decode cX3_isSign 23 = .ok (.ireturn, 1) := by decide +kernel
theorem dX3_close_0 : decode cX3_close 0 = .ok (.aload_n 0, 1) := by decide +kernel
theorem dX3_close_1 : decode cX3_close 1 = .ok (.aload_n 0, 1) := by decide +kernel
theorem dX3_close_2 : decode cX3_close 2 = .ok (.getfield 38, 3) := by decide +kernel
theorem dX3_close_5 : decode cX3_close 5 = .ok (.aload_n 0, 1) := by decide +kernel
theorem dX3_close_6 : decode cX3_close 6 = .ok (.getfield 50, 3) := by decide +kernel
theorem dX3_close_9 : decode cX3_close 9 = .ok (.iconst 1, 1) := by decide +kernel
theorem dX3_close_10 : decode cX3_close 10 = .ok (.isub, 1) := by decide +kernel
theorem dX3_close_11 : decode cX3_close 11 = .ok (.iaload, 1) := by decide +kernel
theorem dX3_close_12 : decode cX3_close 12 = .ok (.iconst 1, 1) := by decide +kernel
theorem dX3_close_13 : decode cX3_close 13 = .ok (.if_icmp .ne 7, 3) := by decide +kernel
theorem dX3_close_16 : decode cX3_close 16 = .ok (.iconst 1, 1) := by decide +kernel
theorem dX3_close_17 : decode cX3_close 17 = .ok (.goto 4, 3) := by decide +kernel
theorem dX3_close_20 : decode cX3_close 20 = .ok (.iconst 2, 1) := by decide +kernel
theorem dX3_close_21 : decode cX3_close 21 = .ok (.invokevirtual 53, 3) := by decide +kernel
theorem dX3_close_24 : decode cX3_close 24 = .ok (.istore_n 1, 1) := by decide +kernel
theorem dX3_close_25 : decode cX3_close 25 = .ok (.iconst 1, 1) := by decide +kernel
theorem dX3_close_26 : decode cX3_close 26 = .ok (.istore_n 2, 1) := by decide +kernel
theorem dX3_close_27 : decode cX3_close 27 = .ok (.iconst 0, 1) := by decide +kernel
theorem dX3_close_28 : decode cX3_close 28 = .ok (.istore_n 3, 1) := by decide +kernel
theorem dX3_close_29 : decode cX3_close 29 = .ok (.aload_n 0, 1) := by decide +kernel
theorem dX3_close_30 : decode cX3_close 30 = .ok (.getfield 35, 3) := by decide +kernel
theorem dX3_close_33 : decode cX3_close 33 = .ok (.aload_n 0, 1) := by decide +kernel
theorem dX3_close_34 : decode cX3_close 34 = .ok (.getfield 50, 3) := by decide +kernel
theorem dX3_close_37 : decode cX3_close 37 = .ok (.iconst 1, 1) := by decide +kernel
theorem dX3_close_38 : decode cX3_close 38 = .ok (.isub, 1) := by decide +kernel
theorem dX3_close_39 : decode cX3_close 39 = .ok (.iaload, 1) := by decide +kernel
theorem dX3_close_40 : decode cX3_close 40 = .ok (.istore 4, 2) := by decide +kernel
theorem dX3_close_42 : decode cX3_close 42 = .ok (.iload 4, 2) := by decide +kernel
theorem dX3_close_44 : decode cX3_close 44 = .ok (.ifCond .lt 63, 3) := by decide +kernel
theorem dX3_close_47 : decode cX3_close 47 = .ok (.aload_n 0, 1) := by decide +kernel
theorem dX3_close_48 : decode cX3_close 48 = .ok (.getfield 16, 3) := by decide +kernel
theorem dX3_close_51 : decode cX3_close 51 = .ok (.iload 4, 2) := by decide +kernel
theorem dX3_close_53 : decode cX3_close 53 = .ok (.iload_n 1, 1) := by decide +kernel
theorem dX3_close_54 : decode cX3_close 54 = .ok (.iastore, 1) := by decide +kernel
theorem dX3_close_55 : decode cX3_close 55 = .ok (.iload_n 2, 1) := by decide +kernel
theorem dX3_close_56 : decode cX3_close 56 = .ok (.ifCond .eq 17, 3) := by decide +kernel
theorem dX3_close_59 : decode cX3_close 59 = .ok (.aload_n 0, 1) := by decide +kernel
theorem dX3_close_60 : decode cX3_close 60 = .ok (.getfield 25, 3) := by decide +kernel
theorem dX3_close_63 : decode cX3_close 63 = .ok (.iload 4, 2) := by decide +kernel
theorem dX3_close_65 : decode cX3_close 65 = .ok (.baload, 1) := by decide +kernel
theorem dX3_close_66 : decode cX3_close 66 = .ok (.ifCond .eq 7, 3) := by decide +kernel
theorem dX3_close_69 : decode cX3_close 69 = .ok (.iconst 1, 1) := by decide +kernel
theorem dX3_close_70 : decode cX3_close 70 = .ok (.goto 4, 3) := by decide +kernel
theorem dX3_close_73 : decode cX3_close 73 = .ok (.iconst 0, 1) := by decide +kernel
theorem dX3_close_74 : decode cX3_close 74 = .ok (.istore_n 2, 1) := by decide +kernel
theorem dX3_close_75 : decode cX3_close 75 = .ok (.iload_n 3, 1) := by decide +kernel
theorem dX3_close_76 : decode cX3_close 76 = .ok (.ifCond .ne 13, 3) := by decide +kernel
theorem dX3_close_79 : decode cX3_close 79 = .ok (.aload_n 0, 1) := by decide +kernel
theorem dX3_close_80 : decode cX3_close 80 = .ok (.getfield 25, 3) := by decide +kernel
theorem dX3_close_83 : decode cX3_close 83 = .ok (.iload 4, 2) := by decide +kernel
theorem dX3_close_85 : decode cX3_close 85 = .ok (.baload, 1) := by decide +kernel
theorem dX3_close_86 : decode cX3_close 86 = .ok (.ifCond .eq 7, 3) := by decide +kernel
theorem dX3_close_89 : decode cX3_close 89 = .ok (.iconst 1, 1) := by decide +kernel
theorem dX3_close_90 : decode cX3_close 90 = .ok (.goto 4, 3) := by decide +kernel
theorem dX3_close_93 : decode cX3_close 93 = .ok (.iconst 0, 1) := by decide +kernel
theorem dX3_close_94 : decode cX3_close 94 = .ok (.istore_n 3, 1) := by decide +kernel
theorem dX3_close_95 : decode cX3_close 95 = .ok (.aload_n 0, 1) := by decide +kernel
theorem dX3_close_96 : decode cX3_close 96 = .ok (.getfield 19, 3) := by decide +kernel
theorem dX3_close_99 : decode cX3_close 99 = .ok (.iload 4, 2) := by decide +kernel
theorem dX3_close_101 : decode cX3_close 101 = .ok (.iaload, 1) := by decide +kernel
theorem dX3_close_102 : decode cX3_close 102 = .ok (.istore 4, 2) := by decide +kernel
theorem dX3_close_104 : decode cX3_close 104 = .ok (.goto (-62), 3) := by decide +kernel
theorem dX3_close_107 : decode cX3_close 107 = .ok (.aload_n 0, 1) := by decide +kernel
theorem dX3_close_108 : decode cX3_close 108 = .ok (.getfield 25, 3) := by decide +kernel
theorem dX3_close_111 : decode cX3_close 111 = .ok (.iload_n 1, 1) := by decide +kernel
theorem dX3_close_112 : decode cX3_close 112 = .ok (.aload_n 0, 1) := by decide +kernel
theorem dX3_close_113 : decode cX3_close 113 = .ok (.getfield 13, 3) := by decide +kernel
theorem dX3_close_116 : decode cX3_close 116 = .ok (.iload_n 1, 1) := by decide +kernel
theorem dX3_close_117 : decode cX3_close 117 = .ok (.iaload, 1) := by decide +kernel
theorem dX3_close_118 : decode cX3_close 118 = .ok (.iconst 1, 1) := by decide +kernel
theorem dX3_close_119 : decode cX3_close 119 = .ok (.if_icmp .ne 7, 3) := by decide +kernel
theorem dX3_close_122 : decode cX3_close 122 = .ok (.iload_n 3, 1) := by decide +kernel
theorem dX3_close_123 : decode cX3_close 123 = .ok (.goto 4, 3) := by decide +kernel
theorem dX3_close_126 : decode cX3_close 126 = .ok (.iload_n 2, 1) := by decide +kernel
theorem dX3_close_127 : decode cX3_close 127 = .ok (.bastore, 1) := by decide +kernel
theorem dX3_close_128 : decode cX3_close 128 = .ok (.aload_n 0, 1) := by decide +kernel
theorem dX3_close_129 : decode cX3_close 129 = .ok (.aload_n 0, 1) := by decide +kernel
theorem dX3_close_130 : decode cX3_close 130 = .ok (.getfield 50, 3) := by decide +kernel
theorem dX3_close_133 : decode cX3_close 133 = .ok (.iconst 1, 1) := by decide +kernel
theorem dX3_close_134 : decode cX3_close 134 = .ok (.isub, 1) := by decide +kernel
theorem dX3_close_135 : decode cX3_close 135 = .ok (.putfield 50, 3) := by decide +kernel
theorem dX3_close_138 : decode cX3_close 138 = .ok (.iload_n 1, 1) := by decide +kernel
theorem dX3_close_139 : decode cX3_close 139 = .ok (.ireturn, 1) := by decide +kernel
theorem dX3_open_0 : decode cX3_open 0 = .ok (.aload_n 0, 1) := by decide +kernel
theorem dX3_open_1 : decode cX3_open 1 = .ok (.getfield 50, 3) := by decide +kernel
theorem dX3_open_4 : decode cX3_open 4 = .ok (.bipush 12, 2) := by decide +kernel
theorem dX3_open_6 : decode cX3_open 6 = .ok (.if_icmp .ne 5, 3) := by decide +kernel
theorem dX3_open_9 : decode cX3_open 9 = .ok (.iconst 0, 1) := by decide +kernel
theorem dX3_open_10 : decode cX3_open 10 = .ok (.ireturn, 1) := by decide +kernel
theorem dX3_open_11 : decode cX3_open 11 = .ok (.aload_n 0, 1) := by decide +kernel
theorem dX3_open_12 : decode cX3_open 12 = .ok (.getfield 35, 3) := by decide +kernel
theorem dX3_open_15 : decode cX3_open 15 = .ok (.aload_n 0, 1) := by decide +kernel
theorem dX3_open_16 : decode cX3_open 16 = .ok (.getfield 50, 3) := by decide +kernel
theorem dX3_open_19 : decode cX3_open 19 = .ok (.iconst (-1), 1) := by decide +kernel
theorem dX3_open_20 : decode cX3_open 20 = .ok (.iastore, 1) := by decide +kernel
theorem dX3_open_21 : decode cX3_open 21 = .ok (.aload_n 0, 1) := by decide +kernel
theorem dX3_open_22 : decode cX3_open 22 = .ok (.getfield 38, 3) := by decide +kernel
theorem dX3_open_25 : decode cX3_open 25 = .ok (.aload_n 0, 1) := by decide +kernel
theorem dX3_open_26 : decode cX3_open 26 = .ok (.getfield 50, 3) := by decide +kernel
theorem dX3_open_29 : decode cX3_open 29 = .ok (.iconst (-1), 1) := by decide +kernel
theorem dX3_open_30 : decode cX3_open 30 = .ok (.iastore, 1) := by decide +kernel
theorem dX3_open_31 : decode cX3_open 31 = .ok (.aload_n 0, 1) := by decide +kernel
theorem dX3_open_32 : decode cX3_open 32 = .ok (.aload_n 0, 1) := by decide +kernel
theorem dX3_open_33 : decode cX3_open 33 = .ok (.getfield 50, 3) := by decide +kernel
theorem dX3_open_36 : decode cX3_open 36 = .ok (.iconst 1, 1) := by decide +kernel
theorem dX3_open_37 : decode cX3_open 37 = .ok (.iadd, 1) := by decide +kernel
theorem dX3_open_38 : decode cX3_open 38 = .ok (.putfield 50, 3) := by decide +kernel
theorem dX3_open_41 : decode cX3_open 41 = .ok (.iconst 1, 1) := by decide +kernel
theorem dX3_open_42 : decode cX3_open 42 = .ok (.ireturn, 1) := by decide +kernel
theorem dX3_parse_0 : decode cX3_parse 0 = .ok (.aload_n 0, 1) := by decide +kernel
theorem dX3_parse_1 : decode cX3_parse 1 = .ok (.iconst 0, 1) := by decide +kernel
theorem dX3_parse_2 : decode cX3_parse 2 = .ok (.invokevirtual 57, 3) := by decide +kernel
theorem dX3_parse_5 : decode cX3_parse 5 = .ok (.bipush 40, 2) := by decide +kernel
theorem dX3_parse_7 : decode cX3_parse 7 = .ok (.if_icmp .eq 5, 3) := by decide +kernel
theorem dX3_parse_10 : decode cX3_parse 10 = .ok (.iconst (-1), 1) := by decide +kernel
theorem dX3_parse_11 : decode cX3_parse 11 = .ok (.ireturn, 1) := by decide +kernel
theorem dX3_parse_12 : decode cX3_parse 12 = .ok (.aload_n 0, 1) := by decide +kernel
theorem dX3_parse_13 : decode cX3_parse 13 = .ok (.invokevirtual 60, 3) := by decide +kernel
theorem dX3_parse_16 : decode cX3_parse 16 = .ok (.pop, 1) := by decide +kernel
theorem dX3_parse_17 : decode cX3_parse 17 = .ok (.iconst 1, 1) := by decide +kernel
theorem dX3_parse_18 : decode cX3_parse 18 = .ok (.istore_n 1, 1) := by decide +kernel
theorem dX3_parse_19 : decode cX3_parse 19 = .ok (.iconst 1, 1) := by decide +kernel
theorem dX3_parse_20 : decode cX3_parse 20 = .ok (.istore_n 2, 1) := by decide +kernel
theorem dX3_parse_21 : decode cX3_parse 21 = .ok (.aload_n 0, 1) := by decide +kernel
theorem dX3_parse_22 : decode cX3_parse 22 = .ok (.getfield 50, 3) := by decide +kernel
theorem dX3_parse_25 : decode cX3_parse 25 = .ok (.ifCond .le 332, 3) := by decide +kernel
theorem dX3_parse_28 : decode cX3_parse 28 = .ok (.aload_n 0, 1) := by decide +kernel
theorem dX3_parse_29 : decode cX3_parse 29 = .ok (.iload_n 1, 1) := by decide +kernel
theorem dX3_parse_30 : decode cX3_parse 30 = .ok (.invokevirtual 57, 3) := by decide +kernel
theorem dX3_parse_33 : decode cX3_parse 33 = .ok (.bipush 32, 2) := by decide +kernel
theorem dX3_parse_35 : decode cX3_parse 35 = .ok (.if_icmp .ne 10, 3) := by decide +kernel
theorem dX3_parse_38 : decode cX3_parse 38 = .ok (.iload_n 1, 1) := by decide +kernel
theorem dX3_parse_39 : decode cX3_parse 39 = .ok (.iconst 1, 1) := by decide +kernel
theorem dX3_parse_40 : decode cX3_parse 40 = .ok (.iadd, 1) := by decide +kernel
theorem dX3_parse_41 : decode cX3_parse 41 = .ok (.istore_n 1, 1) := by decide +kernel
theorem dX3_parse_42 : decode cX3_parse 42 = .ok (.goto (-14), 3) := by decide +kernel
theorem dX3_parse_45 : decode cX3_parse 45 = .ok (.aload_n 0, 1) := by decide +kernel
theorem dX3_parse_46 : decode cX3_parse 46 = .ok (.iload_n 1, 1) := by decide +kernel
theorem dX3_parse_47 : decode cX3_parse 47 = .ok (.invokevirtual 57, 3) := by decide +kernel
theorem dX3_parse_50 : decode cX3_parse 50 = .ok (.istore_n 3, 1) := by decide +kernel
theorem dX3_parse_51 : decode cX3_parse 51 = .ok (.iload_n 2, 1) := by decide +kernel
theorem dX3_parse_52 : decode cX3_parse 52 = .ok (.ifCond .eq 29, 3) := by decide +kernel
theorem dX3_parse_55 : decode cX3_parse 55 = .ok (.iload_n 3, 1) := by decide +kernel
theorem dX3_parse_56 : decode cX3_parse 56 = .ok (.bipush 40, 2) := by decide +kernel
theorem dX3_parse_58 : decode cX3_parse 58 = .ok (.if_icmp .ne 23, 3) := by decide +kernel
theorem dX3_parse_61 : decode cX3_parse 61 = .ok (.aload_n 0, 1) := by decide +kernel
theorem dX3_parse_62 : decode cX3_parse 62 = .ok (.invokevirtual 60, 3) := by decide +kernel
theorem dX3_parse_65 : decode cX3_parse 65 = .ok (.ifCond .ne 9, 3) := by decide +kernel
theorem dX3_parse_68 : decode cX3_parse 68 = .ok (.sipush (-1000), 3) := by decide +kernel
theorem dX3_parse_71 : decode cX3_parse 71 = .ok (.iload_n 1, 1) := by decide +kernel
theorem dX3_parse_72 : decode cX3_parse 72 = .ok (.isub, 1) := by decide +kernel
theorem dX3_parse_73 : decode cX3_parse 73 = .ok (.ireturn, 1) := by decide +kernel
theorem dX3_parse_74 : decode cX3_parse 74 = .ok (.iload_n 1, 1) := by decide +kernel
theorem dX3_parse_75 : decode cX3_parse 75 = .ok (.iconst 1, 1) := by decide +kernel
theorem dX3_parse_76 : decode cX3_parse 76 = .ok (.iadd, 1) := by decide +kernel
theorem dX3_parse_77 : decode cX3_parse 77 = .ok (.istore_n 1, 1) := by decide +kernel
theorem dX3_parse_78 : decode cX3_parse 78 = .ok (.goto 276, 3) := by decide +kernel
theorem dX3_parse_81 : decode cX3_parse 81 = .ok (.iload_n 2, 1) := by decide +kernel
theorem dX3_parse_82 : decode cX3_parse 82 = .ok (.ifCond .eq 118, 3) := by decide +kernel
theorem dX3_parse_85 : decode cX3_parse 85 = .ok (.iload_n 3, 1) := by decide +kernel
theorem dX3_parse_86 : decode cX3_parse 86 = .ok (.bipush 97, 2) := by decide +kernel
theorem dX3_parse_88 : decode cX3_parse 88 = .ok (.if_icmp .lt 9, 3) := by decide +kernel
theorem dX3_parse_91 : decode cX3_parse 91 = .ok (.iload_n 3, 1) := by decide +kernel
theorem dX3_parse_92 : decode cX3_parse 92 = .ok (.bipush 122, 2) := by decide +kernel
theorem dX3_parse_94 : decode cX3_parse 94 = .ok (.if_icmp .le 7, 3) := by decide +kernel
theorem dX3_parse_97 : decode cX3_parse 97 = .ok (.iconst (-1), 1) := by decide +kernel
theorem dX3_parse_98 : decode cX3_parse 98 = .ok (.iload_n 1, 1) := by decide +kernel
theorem dX3_parse_99 : decode cX3_parse 99 = .ok (.isub, 1) := by decide +kernel
theorem dX3_parse_100 : decode cX3_parse 100 = .ok (.ireturn, 1) := by decide +kernel
theorem dX3_parse_101 : decode cX3_parse 101 = .ok (.aload_n 0, 1) := by decide +kernel
theorem dX3_parse_102 : decode cX3_parse 102 = .ok (.getfield 64, 3) := by decide +kernel
theorem dX3_parse_105 : decode cX3_parse 105 = .ok (.bipush 60, 2) := by decide +kernel
theorem dX3_parse_107 : decode cX3_parse 107 = .ok (.if_icmp .ne 9, 3) := by decide +kernel
theorem dX3_parse_110 : decode cX3_parse 110 = .ok (.sipush (-1000), 3) := by decide +kernel
theorem dX3_parse_113 : decode cX3_parse 113 = .ok (.iload_n 1, 1) := by decide +kernel
theorem dX3_parse_114 : decode cX3_parse 114 = .ok (.isub, 1) := by decide +kernel
theorem dX3_parse_115 : decode cX3_parse 115 = .ok (.ireturn, 1) := by decide +kernel
theorem dX3_parse_116 : decode cX3_parse 116 = .ok (.aload_n 0, 1) := by decide +kernel
theorem dX3_parse_117 : decode cX3_parse 117 = .ok (.iconst 0, 1) := by decide +kernel
theorem dX3_parse_118 : decode cX3_parse 118 = .ok (.invokevirtual 53, 3) := by decide +kernel
theorem dX3_parse_121 : decode cX3_parse 121 = .ok (.istore 4, 2) := by decide +kernel
theorem dX3_parse_123 : decode cX3_parse 123 = .ok (.aload_n 0, 1) := by decide +kernel
theorem dX3_parse_124 : decode cX3_parse 124 = .ok (.getfield 29, 3) := by decide +kernel
theorem dX3_parse_127 : decode cX3_parse 127 = .ok (.aload_n 0, 1) := by decide +kernel
theorem dX3_parse_128 : decode cX3_parse 128 = .ok (.getfield 64, 3) := by decide +kernel
theorem dX3_parse_131 : decode cX3_parse 131 = .ok (.iload 4, 2) := by decide +kernel
theorem dX3_parse_133 : decode cX3_parse 133 = .ok (.iastore, 1) := by decide +kernel
theorem dX3_parse_134 : decode cX3_parse 134 = .ok (.aload_n 0, 1) := by decide +kernel
theorem dX3_parse_135 : decode cX3_parse 135 = .ok (.getfield 32, 3) := by decide +kernel
theorem dX3_parse_138 : decode cX3_parse 138 = .ok (.aload_n 0, 1) := by decide +kernel
theorem dX3_parse_139 : decode cX3_parse 139 = .ok (.getfield 64, 3) := by decide +kernel
theorem dX3_parse_142 : decode cX3_parse 142 = .ok (.iload_n 3, 1) := by decide +kernel
theorem dX3_parse_143 : decode cX3_parse 143 = .ok (.bipush 97, 2) := by decide +kernel
theorem dX3_parse_145 : decode cX3_parse 145 = .ok (.isub, 1) := by decide +kernel
theorem dX3_parse_146 : decode cX3_parse 146 = .ok (.iastore, 1) := by decide +kernel
theorem dX3_parse_147 : decode cX3_parse 147 = .ok (.aload_n 0, 1) := by decide +kernel
theorem dX3_parse_148 : decode cX3_parse 148 = .ok (.aload_n 0, 1) := by decide +kernel
theorem dX3_parse_149 : decode cX3_parse 149 = .ok (.getfield 64, 3) := by decide +kernel
theorem dX3_parse_152 : decode cX3_parse 152 = .ok (.iconst 1, 1) := by decide +kernel
theorem dX3_parse_153 : decode cX3_parse 153 = .ok (.iadd, 1) := by decide +kernel
theorem dX3_parse_154 : decode cX3_parse 154 = .ok (.putfield 64, 3) := by decide +kernel
theorem dX3_parse_157 : decode cX3_parse 157 = .ok (.iload_n 1, 1) := by decide +kernel
theorem dX3_parse_158 : decode cX3_parse 158 = .ok (.iconst 1, 1) := by decide +kernel
theorem dX3_parse_159 : decode cX3_parse 159 = .ok (.iadd, 1) := by decide +kernel
theorem dX3_parse_160 : decode cX3_parse 160 = .ok (.istore_n 1, 1) := by decide +kernel
theorem dX3_parse_161 : decode cX3_parse 161 = .ok (.aload_n 0, 1) := by decide +kernel
theorem dX3_parse_162 : decode cX3_parse 162 = .ok (.iload_n 1, 1) := by decide +kernel
theorem dX3_parse_163 : decode cX3_parse 163 = .ok (.invokevirtual 57, 3) := by decide +kernel
theorem dX3_parse_166 : decode cX3_parse 166 = .ok (.invokestatic 67, 3) := by decide +kernel
theorem dX3_parse_169 : decode cX3_parse 169 = .ok (.ifCond .eq 20, 3) := by decide +kernel
theorem dX3_parse_172 : decode cX3_parse 172 = .ok (.aload_n 0, 1) := by decide +kernel
theorem dX3_parse_173 : decode cX3_parse 173 = .ok (.iload 4, 2) := by decide +kernel
theorem dX3_parse_175 : decode cX3_parse 175 = .ok (.aload_n 0, 1) := by decide +kernel
theorem dX3_parse_176 : decode cX3_parse 176 = .ok (.iload_n 1, 1) := by decide +kernel
theorem dX3_parse_177 : decode cX3_parse 177 = .ok (.invokevirtual 57, 3) := by decide +kernel
theorem dX3_parse_180 : decode cX3_parse 180 = .ok (.invokevirtual 71, 3) := by decide +kernel
theorem dX3_parse_183 : decode cX3_parse 183 = .ok (.istore 4, 2) := by decide +kernel
theorem dX3_parse_185 : decode cX3_parse 185 = .ok (.iload_n 1, 1) := by decide +kernel
theorem dX3_parse_186 : decode cX3_parse 186 = .ok (.iconst 1, 1) := by decide +kernel
theorem dX3_parse_187 : decode cX3_parse 187 = .ok (.iadd, 1) := by decide +kernel
theorem dX3_parse_188 : decode cX3_parse 188 = .ok (.istore_n 1, 1) := by decide +kernel
theorem dX3_parse_189 : decode cX3_parse 189 = .ok (.aload_n 0, 1) := by decide +kernel
theorem dX3_parse_190 : decode cX3_parse 190 = .ok (.iload 4, 2) := by decide +kernel
theorem dX3_parse_192 : decode cX3_parse 192 = .ok (.invokevirtual 75, 3) := by decide +kernel
theorem dX3_parse_195 : decode cX3_parse 195 = .ok (.iconst 0, 1) := by decide +kernel
theorem dX3_parse_196 : decode cX3_parse 196 = .ok (.istore_n 2, 1) := by decide +kernel
theorem dX3_parse_197 : decode cX3_parse 197 = .ok (.goto 157, 3) := by decide +kernel
theorem dX3_parse_200 : decode cX3_parse 200 = .ok (.iload_n 3, 1) := by decide +kernel
theorem dX3_parse_201 : decode cX3_parse 201 = .ok (.bipush 124, 2) := by decide +kernel
theorem dX3_parse_203 : decode cX3_parse 203 = .ok (.if_icmp .eq 9, 3) := by decide +kernel
theorem dX3_parse_206 : decode cX3_parse 206 = .ok (.iload_n 3, 1) := by decide +kernel
theorem dX3_parse_207 : decode cX3_parse 207 = .ok (.bipush 44, 2) := by decide +kernel
theorem dX3_parse_209 : decode cX3_parse 209 = .ok (.if_icmp .ne 72, 3) := by decide +kernel
theorem dX3_parse_212 : decode cX3_parse 212 = .ok (.iload_n 3, 1) := by decide +kernel
theorem dX3_parse_213 : decode cX3_parse 213 = .ok (.bipush 124, 2) := by decide +kernel
theorem dX3_parse_215 : decode cX3_parse 215 = .ok (.if_icmp .ne 7, 3) := by decide +kernel
theorem dX3_parse_218 : decode cX3_parse 218 = .ok (.iconst 1, 1) := by decide +kernel
theorem dX3_parse_219 : decode cX3_parse 219 = .ok (.goto 4, 3) := by decide +kernel
theorem dX3_parse_222 : decode cX3_parse 222 = .ok (.iconst 2, 1) := by decide +kernel
theorem dX3_parse_223 : decode cX3_parse 223 = .ok (.istore 4, 2) := by decide +kernel
theorem dX3_parse_225 : decode cX3_parse 225 = .ok (.aload_n 0, 1) := by decide +kernel
theorem dX3_parse_226 : decode cX3_parse 226 = .ok (.getfield 38, 3) := by decide +kernel
theorem dX3_parse_229 : decode cX3_parse 229 = .ok (.aload_n 0, 1) := by decide +kernel
theorem dX3_parse_230 : decode cX3_parse 230 = .ok (.getfield 50, 3) := by decide +kernel
theorem dX3_parse_233 : decode cX3_parse 233 = .ok (.iconst 1, 1) := by decide +kernel
theorem dX3_parse_234 : decode cX3_parse 234 = .ok (.isub, 1) := by decide +kernel
theorem dX3_parse_235 : decode cX3_parse 235 = .ok (.iaload, 1) := by decide +kernel
theorem dX3_parse_236 : decode cX3_parse 236 = .ok (.ifCond .lt 23, 3) := by decide +kernel
theorem dX3_parse_239 : decode cX3_parse 239 = .ok (.aload_n 0, 1) := by decide +kernel
theorem dX3_parse_240 : decode cX3_parse 240 = .ok (.getfield 38, 3) := by decide +kernel
theorem dX3_parse_243 : decode cX3_parse 243 = .ok (.aload_n 0, 1) := by decide +kernel
theorem dX3_parse_244 : decode cX3_parse 244 = .ok (.getfield 50, 3) := by decide +kernel
theorem dX3_parse_247 : decode cX3_parse 247 = .ok (.iconst 1, 1) := by decide +kernel
theorem dX3_parse_248 : decode cX3_parse 248 = .ok (.isub, 1) := by decide +kernel
theorem dX3_parse_249 : decode cX3_parse 249 = .ok (.iaload, 1) := by decide +kernel
theorem dX3_parse_250 : decode cX3_parse 250 = .ok (.iload 4, 2) := by decide +kernel
theorem dX3_parse_252 : decode cX3_parse 252 = .ok (.if_icmp .eq 7, 3) := by decide +kernel
theorem dX3_parse_255 : decode cX3_parse 255 = .ok (.iconst (-1), 1) := by decide +kernel
theorem dX3_parse_256 : decode cX3_parse 256 = .ok (.iload_n 1, 1) := by decide +kernel
theorem dX3_parse_257 : decode cX3_parse 257 = .ok (.isub, 1) := by decide +kernel
theorem dX3_parse_258 : decode cX3_parse 258 = .ok (.ireturn, 1) := by decide +kernel
theorem dX3_parse_259 : decode cX3_parse 259 = .ok (.aload_n 0, 1) := by decide +kernel
theorem dX3_parse_260 : decode cX3_parse 260 = .ok (.getfield 38, 3) := by decide +kernel
theorem dX3_parse_263 : decode cX3_parse 263 = .ok (.aload_n 0, 1) := by decide +kernel
theorem dX3_parse_264 : decode cX3_parse 264 = .ok (.getfield 50, 3) := by decide +kernel
theorem dX3_parse_267 : decode cX3_parse 267 = .ok (.iconst 1, 1) := by decide +kernel
theorem dX3_parse_268 : decode cX3_parse 268 = .ok (.isub, 1) := by decide +kernel
theorem dX3_parse_269 : decode cX3_parse 269 = .ok (.iload 4, 2) := by decide +kernel
theorem dX3_parse_271 : decode cX3_parse 271 = .ok (.iastore, 1) := by decide +kernel
theorem dX3_parse_272 : decode cX3_parse 272 = .ok (.iload_n 1, 1) := by decide +kernel
theorem dX3_parse_273 : decode cX3_parse 273 = .ok (.iconst 1, 1) := by decide +kernel
theorem dX3_parse_274 : decode cX3_parse 274 = .ok (.iadd, 1) := by decide +kernel
theorem dX3_parse_275 : decode cX3_parse 275 = .ok (.istore_n 1, 1) := by decide +kernel
theorem dX3_parse_276 : decode cX3_parse 276 = .ok (.iconst 1, 1) := by decide +kernel
theorem dX3_parse_277 : decode cX3_parse 277 = .ok (.istore_n 2, 1) := by decide +kernel
theorem dX3_parse_278 : decode cX3_parse 278 = .ok (.goto 76, 3) := by decide +kernel
theorem dX3_parse_281 : decode cX3_parse 281 = .ok (.iload_n 3, 1) := by decide +kernel
theorem dX3_parse_282 : decode cX3_parse 282 = .ok (.bipush 41, 2) := by decide +kernel
theorem dX3_parse_284 : decode cX3_parse 284 = .ok (.if_icmp .ne 66, 3) := by decide +kernel
theorem dX3_parse_287 : decode cX3_parse 287 = .ok (.aload_n 0, 1) := by decide +kernel
theorem dX3_parse_288 : decode cX3_parse 288 = .ok (.invokevirtual 79, 3) := by decide +kernel
theorem dX3_parse_291 : decode cX3_parse 291 = .ok (.istore 4, 2) := by decide +kernel
theorem dX3_parse_293 : decode cX3_parse 293 = .ok (.iload_n 1, 1) := by decide +kernel
theorem dX3_parse_294 : decode cX3_parse 294 = .ok (.iconst 1, 1) := by decide +kernel
theorem dX3_parse_295 : decode cX3_parse 295 = .ok (.iadd, 1) := by decide +kernel
theorem dX3_parse_296 : decode cX3_parse 296 = .ok (.istore_n 1, 1) := by decide +kernel
theorem dX3_parse_297 : decode cX3_parse 297 = .ok (.aload_n 0, 1) := by decide +kernel
theorem dX3_parse_298 : decode cX3_parse 298 = .ok (.iload_n 1, 1) := by decide +kernel
theorem dX3_parse_299 : decode cX3_parse 299 = .ok (.invokevirtual 57, 3) := by decide +kernel
theorem dX3_parse_302 : decode cX3_parse 302 = .ok (.invokestatic 67, 3) := by decide +kernel
theorem dX3_parse_305 : decode cX3_parse 305 = .ok (.ifCond .eq 20, 3) := by decide +kernel
theorem dX3_parse_308 : decode cX3_parse 308 = .ok (.aload_n 0, 1) := by decide +kernel
theorem dX3_parse_309 : decode cX3_parse 309 = .ok (.iload 4, 2) := by decide +kernel
theorem dX3_parse_311 : decode cX3_parse 311 = .ok (.aload_n 0, 1) := by decide +kernel
theorem dX3_parse_312 : decode cX3_parse 312 = .ok (.iload_n 1, 1) := by decide +kernel
theorem dX3_parse_313 : decode cX3_parse 313 = .ok (.invokevirtual 57, 3) := by decide +kernel
theorem dX3_parse_316 : decode cX3_parse 316 = .ok (.invokevirtual 71, 3) := by decide +kernel
theorem dX3_parse_319 : decode cX3_parse 319 = .ok (.istore 4, 2) := by decide +kernel
theorem dX3_parse_321 : decode cX3_parse 321 = .ok (.iload_n 1, 1) := by decide +kernel
theorem dX3_parse_322 : decode cX3_parse 322 = .ok (.iconst 1, 1) := by decide +kernel
theorem dX3_parse_323 : decode cX3_parse 323 = .ok (.iadd, 1) := by decide +kernel
theorem dX3_parse_324 : decode cX3_parse 324 = .ok (.istore_n 1, 1) := by decide +kernel
theorem dX3_parse_325 : decode cX3_parse 325 = .ok (.aload_n 0, 1) := by decide +kernel
theorem dX3_parse_326 : decode cX3_parse 326 = .ok (.getfield 50, 3) := by decide +kernel
theorem dX3_parse_329 : decode cX3_parse 329 = .ok (.ifCond .le 12, 3) := by decide +kernel
theorem dX3_parse_332 : decode cX3_parse 332 = .ok (.aload_n 0, 1) := by decide +kernel
theorem dX3_parse_333 : decode cX3_parse 333 = .ok (.iload 4, 2) := by decide +kernel
theorem dX3_parse_335 : decode cX3_parse 335 = .ok (.invokevirtual 75, 3) := by decide +kernel
theorem dX3_parse_338 : decode cX3_parse 338 = .ok (.goto 9, 3) := by decide +kernel
theorem dX3_parse_341 : decode cX3_parse 341 = .ok (.aload_n 0, 1) := by decide +kernel
theorem dX3_parse_342 : decode cX3_parse 342 = .ok (.iload 4, 2) := by decide +kernel
theorem dX3_parse_344 : decode cX3_parse 344 = .ok (.putfield 83, 3) := by decide +kernel
theorem dX3_parse_347 : decode cX3_parse 347 = .ok (.goto 7, 3) := by decide +kernel
theorem dX3_parse_350 : decode cX3_parse 350 = .ok (.iconst (-1), 1) := by decide +kernel
theorem dX3_parse_351 : decode cX3_parse 351 = .ok (.iload_n 1, 1) := by decide +kernel
theorem dX3_parse_352 : decode cX3_parse 352 = .ok (.isub, 1) := by decide +kernel
theorem dX3_parse_353 : decode cX3_parse 353 = .ok (.ireturn, 1) := by decide +kernel
theorem dX3_parse_354 : decode cX3_parse 354 = .ok (.goto (-333), 3) := by decide +kernel
theorem dX3_parse_357 : decode cX3_parse 357 = .ok (.iload_n 1, 1) := by decide +kernel
theorem dX3_parse_358 : decode cX3_parse 358 = .ok (.aload_n 0, 1) := by decide +kernel
theorem dX3_parse_359 : decode cX3_parse 359 = .ok (.getfield 41, 3) := by decide +kernel
theorem dX3_parse_362 : decode cX3_parse 362 = .ok (.if_icmp .ge 9, 3) := by decide +kernel
theorem dX3_parse_365 : decode cX3_parse 365 = .ok (.iconst (-1), 1) := by decide +kernel
theorem dX3_parse_366 : decode cX3_parse 366 = .ok (.iload_n 1, 1) := by decide +kernel
theorem dX3_parse_367 : decode cX3_parse 367 = .ok (.isub, 1) := by decide +kernel
theorem dX3_parse_368 : decode cX3_parse 368 = .ok (.goto 7, 3) := by decide +kernel
theorem dX3_parse_371 : decode cX3_parse 371 = .ok (.aload_n 0, 1) := by decide +kernel
theorem dX3_parse_372 : decode cX3_parse 372 = .ok (.getfield 64, 3) := by decide +kernel
theorem dX3_parse_375 : decode cX3_parse 375 = .ok (.ireturn, 1) := by decide +kernel
theorem dX3_read_0 : decode cX3_read 0 = .ok (.aload_n 0, 1) := by decide +kernel
theorem dX3_read_1 : decode cX3_read 1 = .ok (.iconst 0, 1) := by decide +kernel
theorem dX3_read_2 : decode cX3_read 2 = .ok (.putfield 47, 3) := by decide +kernel
theorem dX3_read_5 : decode cX3_read 5 = .ok (.aload_n 0, 1) := by decide +kernel
theorem dX3_read_6 : decode cX3_read 6 = .ok (.iconst 0, 1) := by decide +kernel
theorem dX3_read_7 : decode cX3_read 7 = .ok (.putfield 64, 3) := by decide +kernel
theorem dX3_read_10 : decode cX3_read 10 = .ok (.aload_n 0, 1) := by decide +kernel
theorem dX3_read_11 : decode cX3_read 11 = .ok (.iconst 0, 1) := by decide +kernel
theorem dX3_read_12 : decode cX3_read 12 = .ok (.putfield 50, 3) := by decide +kernel
theorem dX3_read_15 : decode cX3_read 15 = .ok (.aload_n 0, 1) := by decide +kernel
theorem dX3_read_16 : decode cX3_read 16 = .ok (.iconst 0, 1) := by decide +kernel
theorem dX3_read_17 : decode cX3_read 17 = .ok (.putfield 86, 3) := by decide +kernel
theorem dX3_read_20 : decode cX3_read 20 = .ok (.aload_n 0, 1) := by decide +kernel
theorem dX3_read_21 : decode cX3_read 21 = .ok (.lconst 0, 1) := by decide +kernel
theorem dX3_read_22 : decode cX3_read 22 = .ok (.putfield 89, 3) := by decide +kernel
theorem dX3_read_25 : decode cX3_read 25 = .ok (.aload_n 0, 1) := by decide +kernel
theorem dX3_read_26 : decode cX3_read 26 = .ok (.invokevirtual 93, 3) := by decide +kernel
theorem dX3_read_29 : decode cX3_read 29 = .ok (.istore_n 1, 1) := by decide +kernel
theorem dX3_read_30 : decode cX3_read 30 = .ok (.aload_n 0, 1) := by decide +kernel
theorem dX3_read_31 : decode cX3_read 31 = .ok (.iconst 0, 1) := by decide +kernel
theorem dX3_read_32 : decode cX3_read 32 = .ok (.putfield 41, 3) := by decide +kernel
theorem dX3_read_35 : decode cX3_read 35 = .ok (.aload_n 0, 1) := by decide +kernel
theorem dX3_read_36 : decode cX3_read 36 = .ok (.iload_n 1, 1) := by decide +kernel
theorem dX3_read_37 : decode cX3_read 37 = .ok (.ifCond .lt 7, 3) := by decide +kernel
theorem dX3_read_40 : decode cX3_read 40 = .ok (.iconst 1, 1) := by decide +kernel
theorem dX3_read_41 : decode cX3_read 41 = .ok (.goto 4, 3) := by decide +kernel
theorem dX3_read_44 : decode cX3_read 44 = .ok (.iconst 0, 1) := by decide +kernel
theorem dX3_read_45 : decode cX3_read 45 = .ok (.putfield 96, 3) := by decide +kernel
theorem dX3_read_48 : decode cX3_read 48 = .ok (.aload_n 0, 1) := by decide +kernel
theorem dX3_read_49 : decode cX3_read 49 = .ok (.getfield 96, 3) := by decide +kernel
theorem dX3_read_52 : decode cX3_read 52 = .ok (.ifCond .ne 8, 3) := by decide +kernel
theorem dX3_read_55 : decode cX3_read 55 = .ok (.aload_n 0, 1) := by decide +kernel
theorem dX3_read_56 : decode cX3_read 56 = .ok (.iconst 0, 1) := by decide +kernel
theorem dX3_read_57 : decode cX3_read 57 = .ok (.putfield 64, 3) := by decide +kernel
theorem dX3_read_60 : decode cX3_read 60 = .ok (.iload_n 1, 1) := by decide +kernel
theorem dX3_read_61 : decode cX3_read 61 = .ok (.ireturn, 1) := by decide +kernel
theorem dX3_begins_0 : decode cX3_begins 0 = .ok (.aload_n 0, 1) := by decide +kernel
theorem dX3_begins_1 : decode cX3_begins 1 = .ok (.getfield 29, 3) := by decide +kernel
theorem dX3_begins_4 : decode cX3_begins 4 = .ok (.iload_n 1, 1) := by decide +kernel
theorem dX3_begins_5 : decode cX3_begins 5 = .ok (.iaload, 1) := by decide +kernel
theorem dX3_begins_6 : decode cX3_begins 6 = .ok (.istore_n 3, 1) := by decide +kernel
theorem dX3_begins_7 : decode cX3_begins 7 = .ok (.iload_n 3, 1) := by decide +kernel
theorem dX3_begins_8 : decode cX3_begins 8 = .ok (.iload_n 2, 1) := by decide +kernel
theorem dX3_begins_9 : decode cX3_begins 9 = .ok (.if_icmp .eq 72, 3) := by decide +kernel
theorem dX3_begins_12 : decode cX3_begins 12 = .ok (.aload_n 0, 1) := by decide +kernel
theorem dX3_begins_13 : decode cX3_begins 13 = .ok (.getfield 16, 3) := by decide +kernel
theorem dX3_begins_16 : decode cX3_begins 16 = .ok (.iload_n 3, 1) := by decide +kernel
theorem dX3_begins_17 : decode cX3_begins 17 = .ok (.iaload, 1) := by decide +kernel
theorem dX3_begins_18 : decode cX3_begins 18 = .ok (.istore 4, 2) := by decide +kernel
theorem dX3_begins_20 : decode cX3_begins 20 = .ok (.iload 4, 2) := by decide +kernel
theorem dX3_begins_22 : decode cX3_begins 22 = .ok (.ifCond .ge 5, 3) := by decide +kernel
theorem dX3_begins_25 : decode cX3_begins 25 = .ok (.iconst 0, 1) := by decide +kernel
theorem dX3_begins_26 : decode cX3_begins 26 = .ok (.ireturn, 1) := by decide +kernel
theorem dX3_begins_27 : decode cX3_begins 27 = .ok (.aload_n 0, 1) := by decide +kernel
theorem dX3_begins_28 : decode cX3_begins 28 = .ok (.getfield 19, 3) := by decide +kernel
theorem dX3_begins_31 : decode cX3_begins 31 = .ok (.iload_n 3, 1) := by decide +kernel
theorem dX3_begins_32 : decode cX3_begins 32 = .ok (.iaload, 1) := by decide +kernel
theorem dX3_begins_33 : decode cX3_begins 33 = .ok (.istore 5, 2) := by decide +kernel
theorem dX3_begins_35 : decode cX3_begins 35 = .ok (.iload 5, 2) := by decide +kernel
theorem dX3_begins_37 : decode cX3_begins 37 = .ok (.ifCond .lt 38, 3) := by decide +kernel
theorem dX3_begins_40 : decode cX3_begins 40 = .ok (.aload_n 0, 1) := by decide +kernel
theorem dX3_begins_41 : decode cX3_begins 41 = .ok (.getfield 13, 3) := by decide +kernel
theorem dX3_begins_44 : decode cX3_begins 44 = .ok (.iload 4, 2) := by decide +kernel
theorem dX3_begins_46 : decode cX3_begins 46 = .ok (.iaload, 1) := by decide +kernel
theorem dX3_begins_47 : decode cX3_begins 47 = .ok (.iconst 2, 1) := by decide +kernel
theorem dX3_begins_48 : decode cX3_begins 48 = .ok (.if_icmp .ne 27, 3) := by decide +kernel
theorem dX3_begins_51 : decode cX3_begins 51 = .ok (.aload_n 0, 1) := by decide +kernel
theorem dX3_begins_52 : decode cX3_begins 52 = .ok (.getfield 25, 3) := by decide +kernel
theorem dX3_begins_55 : decode cX3_begins 55 = .ok (.iload 5, 2) := by decide +kernel
theorem dX3_begins_57 : decode cX3_begins 57 = .ok (.baload, 1) := by decide +kernel
theorem dX3_begins_58 : decode cX3_begins 58 = .ok (.ifCond .ne 5, 3) := by decide +kernel
theorem dX3_begins_61 : decode cX3_begins 61 = .ok (.iconst 0, 1) := by decide +kernel
theorem dX3_begins_62 : decode cX3_begins 62 = .ok (.ireturn, 1) := by decide +kernel
theorem dX3_begins_63 : decode cX3_begins 63 = .ok (.aload_n 0, 1) := by decide +kernel
theorem dX3_begins_64 : decode cX3_begins 64 = .ok (.getfield 19, 3) := by decide +kernel
theorem dX3_begins_67 : decode cX3_begins 67 = .ok (.iload 5, 2) := by decide +kernel
theorem dX3_begins_69 : decode cX3_begins 69 = .ok (.iaload, 1) := by decide +kernel
theorem dX3_begins_70 : decode cX3_begins 70 = .ok (.istore 5, 2) := by decide +kernel
theorem dX3_begins_72 : decode cX3_begins 72 = .ok (.goto (-37), 3) := by decide +kernel
theorem dX3_begins_75 : decode cX3_begins 75 = .ok (.iload 4, 2) := by decide +kernel
theorem dX3_begins_77 : decode cX3_begins 77 = .ok (.istore_n 3, 1) := by decide +kernel
theorem dX3_begins_78 : decode cX3_begins 78 = .ok (.goto (-71), 3) := by decide +kernel
theorem dX3_begins_81 : decode cX3_begins 81 = .ok (.iconst 1, 1) := by decide +kernel
theorem dX3_begins_82 : decode cX3_begins 82 = .ok (.ireturn, 1) := by decide +kernel
theorem dX3_firsts_0 : decode cX3_firsts 0 = .ok (.lconst 0, 1) := by decide +kernel
theorem dX3_firsts_1 : decode cX3_firsts 1 = .ok (.lstore_n 2, 1) := by decide +kernel
theorem dX3_firsts_2 : decode cX3_firsts 2 = .ok (.iconst 0, 1) := by decide +kernel
theorem dX3_firsts_3 : decode cX3_firsts 3 = .ok (.istore 4, 2) := by decide +kernel
theorem dX3_firsts_5 : decode cX3_firsts 5 = .ok (.iload 4, 2) := by decide +kernel
theorem dX3_firsts_7 : decode cX3_firsts 7 = .ok (.aload_n 0, 1) := by decide +kernel
theorem dX3_firsts_8 : decode cX3_firsts 8 = .ok (.getfield 64, 3) := by decide +kernel
theorem dX3_firsts_11 : decode cX3_firsts 11 = .ok (.if_icmp .ge 30, 3) := by decide +kernel
theorem dX3_firsts_14 : decode cX3_firsts 14 = .ok (.lload_n 2, 1) := by decide +kernel
theorem dX3_firsts_15 : decode cX3_firsts 15 = .ok (.aload_n 0, 1) := by decide +kernel
theorem dX3_firsts_16 : decode cX3_firsts 16 = .ok (.iload 4, 2) := by decide +kernel
theorem dX3_firsts_18 : decode cX3_firsts 18 = .ok (.iload_n 1, 1) := by decide +kernel
theorem dX3_firsts_19 : decode cX3_firsts 19 = .ok (.invokevirtual 100, 3) := by decide +kernel
theorem dX3_firsts_22 : decode cX3_firsts 22 = .ok (.ifCond .eq 10, 3) := by decide +kernel
theorem dX3_firsts_25 : decode cX3_firsts 25 = .ok (.lconst 1, 1) := by decide +kernel
theorem dX3_firsts_26 : decode cX3_firsts 26 = .ok (.iload 4, 2) := by decide +kernel
theorem dX3_firsts_28 : decode cX3_firsts 28 = .ok (.lshl, 1) := by decide +kernel
theorem dX3_firsts_29 : decode cX3_firsts 29 = .ok (.goto 4, 3) := by decide +kernel
theorem dX3_firsts_32 : decode cX3_firsts 32 = .ok (.lconst 0, 1) := by decide +kernel
theorem dX3_firsts_33 : decode cX3_firsts 33 = .ok (.lor, 1) := by decide +kernel
theorem dX3_firsts_34 : decode cX3_firsts 34 = .ok (.lstore_n 2, 1) := by decide +kernel
theorem dX3_firsts_35 : decode cX3_firsts 35 = .ok (.iinc 4 1, 3) := by decide +kernel
theorem dX3_firsts_38 : decode cX3_firsts 38 = .ok (.goto (-33), 3) := by decide +kernel
theorem dX3_firsts_41 : decode cX3_firsts 41 = .ok (.lload_n 2, 1) := by decide +kernel
theorem dX3_firsts_42 : decode cX3_firsts 42 = .ok (.lreturn, 1) := by decide +kernel
theorem dX3_ends_0 : decode cX3_ends 0 = .ok (.aload_n 0, 1) := by decide +kernel
theorem dX3_ends_1 : decode cX3_ends 1 = .ok (.getfield 29, 3) := by decide +kernel
theorem dX3_ends_4 : decode cX3_ends 4 = .ok (.iload_n 1, 1) := by decide +kernel
theorem dX3_ends_5 : decode cX3_ends 5 = .ok (.iaload, 1) := by decide +kernel
theorem dX3_ends_6 : decode cX3_ends 6 = .ok (.istore_n 2, 1) := by decide +kernel
theorem dX3_ends_7 : decode cX3_ends 7 = .ok (.aload_n 0, 1) := by decide +kernel
theorem dX3_ends_8 : decode cX3_ends 8 = .ok (.getfield 16, 3) := by decide +kernel
theorem dX3_ends_11 : decode cX3_ends 11 = .ok (.iload_n 2, 1) := by decide +kernel
theorem dX3_ends_12 : decode cX3_ends 12 = .ok (.iaload, 1) := by decide +kernel
theorem dX3_ends_13 : decode cX3_ends 13 = .ok (.ifCond .lt 60, 3) := by decide +kernel
theorem dX3_ends_16 : decode cX3_ends 16 = .ok (.aload_n 0, 1) := by decide +kernel
theorem dX3_ends_17 : decode cX3_ends 17 = .ok (.getfield 22, 3) := by decide +kernel
theorem dX3_ends_20 : decode cX3_ends 20 = .ok (.iload_n 2, 1) := by decide +kernel
theorem dX3_ends_21 : decode cX3_ends 21 = .ok (.iaload, 1) := by decide +kernel
theorem dX3_ends_22 : decode cX3_ends 22 = .ok (.istore_n 3, 1) := by decide +kernel
theorem dX3_ends_23 : decode cX3_ends 23 = .ok (.iload_n 3, 1) := by decide +kernel
theorem dX3_ends_24 : decode cX3_ends 24 = .ok (.ifCond .lt 39, 3) := by decide +kernel
theorem dX3_ends_27 : decode cX3_ends 27 = .ok (.aload_n 0, 1) := by decide +kernel
theorem dX3_ends_28 : decode cX3_ends 28 = .ok (.getfield 13, 3) := by decide +kernel
theorem dX3_ends_31 : decode cX3_ends 31 = .ok (.aload_n 0, 1) := by decide +kernel
theorem dX3_ends_32 : decode cX3_ends 32 = .ok (.getfield 16, 3) := by decide +kernel
theorem dX3_ends_35 : decode cX3_ends 35 = .ok (.iload_n 2, 1) := by decide +kernel
theorem dX3_ends_36 : decode cX3_ends 36 = .ok (.iaload, 1) := by decide +kernel
theorem dX3_ends_37 : decode cX3_ends 37 = .ok (.iaload, 1) := by decide +kernel
theorem dX3_ends_38 : decode cX3_ends 38 = .ok (.iconst 2, 1) := by decide +kernel
theorem dX3_ends_39 : decode cX3_ends 39 = .ok (.if_icmp .ne 24, 3) := by decide +kernel
theorem dX3_ends_42 : decode cX3_ends 42 = .ok (.aload_n 0, 1) := by decide +kernel
theorem dX3_ends_43 : decode cX3_ends 43 = .ok (.getfield 25, 3) := by decide +kernel
theorem dX3_ends_46 : decode cX3_ends 46 = .ok (.iload_n 3, 1) := by decide +kernel
theorem dX3_ends_47 : decode cX3_ends 47 = .ok (.baload, 1) := by decide +kernel
theorem dX3_ends_48 : decode cX3_ends 48 = .ok (.ifCond .ne 5, 3) := by decide +kernel
theorem dX3_ends_51 : decode cX3_ends 51 = .ok (.iconst 0, 1) := by decide +kernel
theorem dX3_ends_52 : decode cX3_ends 52 = .ok (.ireturn, 1) := by decide +kernel
theorem dX3_ends_53 : decode cX3_ends 53 = .ok (.aload_n 0, 1) := by decide +kernel
theorem dX3_ends_54 : decode cX3_ends 54 = .ok (.getfield 22, 3) := by decide +kernel
theorem dX3_ends_57 : decode cX3_ends 57 = .ok (.iload_n 3, 1) := by decide +kernel
theorem dX3_ends_58 : decode cX3_ends 58 = .ok (.iaload, 1) := by decide +kernel
theorem dX3_ends_59 : decode cX3_ends 59 = .ok (.istore_n 3, 1) := by decide +kernel
theorem dX3_ends_60 : decode cX3_ends 60 = .ok (.goto (-37), 3) := by decide +kernel
theorem dX3_ends_63 : decode cX3_ends 63 = .ok (.aload_n 0, 1) := by decide +kernel
theorem dX3_ends_64 : decode cX3_ends 64 = .ok (.getfield 16, 3) := by decide +kernel
theorem dX3_ends_67 : decode cX3_ends 67 = .ok (.iload_n 2, 1) := by decide +kernel
theorem dX3_ends_68 : decode cX3_ends 68 = .ok (.iaload, 1) := by decide +kernel
theorem dX3_ends_69 : decode cX3_ends 69 = .ok (.istore_n 2, 1) := by decide +kernel
theorem dX3_ends_70 : decode cX3_ends 70 = .ok (.goto (-63), 3) := by decide +kernel
theorem dX3_ends_73 : decode cX3_ends 73 = .ok (.iconst 1, 1) := by decide +kernel
theorem dX3_ends_74 : decode cX3_ends 74 = .ok (.ireturn, 1) := by decide +kernel
theorem dX3_first_0 : decode cX3_first 0 = .ok (.aload_n 0, 1) := by decide +kernel
theorem dX3_first_1 : decode cX3_first 1 = .ok (.getfield 96, 3) := by decide +kernel
theorem dX3_first_4 : decode cX3_first 4 = .ok (.ifCond .eq 14, 3) := by decide +kernel
theorem dX3_first_7 : decode cX3_first 7 = .ok (.aload_n 0, 1) := by decide +kernel
theorem dX3_first_8 : decode cX3_first 8 = .ok (.aload_n 0, 1) := by decide +kernel
theorem dX3_first_9 : decode cX3_first 9 = .ok (.getfield 83, 3) := by decide +kernel
theorem dX3_first_12 : decode cX3_first 12 = .ok (.invokevirtual 104, 3) := by decide +kernel
theorem dX3_first_15 : decode cX3_first 15 = .ok (.goto 4, 3) := by decide +kernel
theorem dX3_first_18 : decode cX3_first 18 = .ok (.lconst 0, 1) := by decide +kernel
theorem dX3_first_19 : decode cX3_first 19 = .ok (.lreturn, 1) := by decide +kernel
theorem dX3_next_0 : decode cX3_next 0 = .ok (.iload_n 1, 1) := by decide +kernel
theorem dX3_next_1 : decode cX3_next 1 = .ok (.ifCond .lt 11, 3) := by decide +kernel
theorem dX3_next_4 : decode cX3_next 4 = .ok (.iload_n 1, 1) := by decide +kernel
theorem dX3_next_5 : decode cX3_next 5 = .ok (.aload_n 0, 1) := by decide +kernel
theorem dX3_next_6 : decode cX3_next 6 = .ok (.getfield 64, 3) := by decide +kernel
theorem dX3_next_9 : decode cX3_next 9 = .ok (.if_icmp .lt 5, 3) := by decide +kernel
theorem dX3_next_12 : decode cX3_next 12 = .ok (.lconst 0, 1) := by decide +kernel
theorem dX3_next_13 : decode cX3_next 13 = .ok (.lreturn, 1) := by decide +kernel
theorem dX3_next_14 : decode cX3_next 14 = .ok (.lconst 0, 1) := by decide +kernel
theorem dX3_next_15 : decode cX3_next 15 = .ok (.lstore_n 2, 1) := by decide +kernel
theorem dX3_next_16 : decode cX3_next 16 = .ok (.aload_n 0, 1) := by decide +kernel
theorem dX3_next_17 : decode cX3_next 17 = .ok (.getfield 29, 3) := by decide +kernel
theorem dX3_next_20 : decode cX3_next 20 = .ok (.iload_n 1, 1) := by decide +kernel
theorem dX3_next_21 : decode cX3_next 21 = .ok (.iaload, 1) := by decide +kernel
theorem dX3_next_22 : decode cX3_next 22 = .ok (.istore 4, 2) := by decide +kernel
theorem dX3_next_24 : decode cX3_next 24 = .ok (.aload_n 0, 1) := by decide +kernel
theorem dX3_next_25 : decode cX3_next 25 = .ok (.getfield 16, 3) := by decide +kernel
theorem dX3_next_28 : decode cX3_next 28 = .ok (.iload 4, 2) := by decide +kernel
theorem dX3_next_30 : decode cX3_next 30 = .ok (.iaload, 1) := by decide +kernel
theorem dX3_next_31 : decode cX3_next 31 = .ok (.ifCond .lt 108, 3) := by decide +kernel
theorem dX3_next_34 : decode cX3_next 34 = .ok (.aload_n 0, 1) := by decide +kernel
theorem dX3_next_35 : decode cX3_next 35 = .ok (.getfield 16, 3) := by decide +kernel
theorem dX3_next_38 : decode cX3_next 38 = .ok (.iload 4, 2) := by decide +kernel
theorem dX3_next_40 : decode cX3_next 40 = .ok (.iaload, 1) := by decide +kernel
theorem dX3_next_41 : decode cX3_next 41 = .ok (.istore 5, 2) := by decide +kernel
theorem dX3_next_43 : decode cX3_next 43 = .ok (.aload_n 0, 1) := by decide +kernel
theorem dX3_next_44 : decode cX3_next 44 = .ok (.getfield 13, 3) := by decide +kernel
theorem dX3_next_47 : decode cX3_next 47 = .ok (.iload 5, 2) := by decide +kernel
theorem dX3_next_49 : decode cX3_next 49 = .ok (.iaload, 1) := by decide +kernel
theorem dX3_next_50 : decode cX3_next 50 = .ok (.iconst 4, 1) := by decide +kernel
theorem dX3_next_51 : decode cX3_next 51 = .ok (.if_icmp .eq 14, 3) := by decide +kernel
theorem dX3_next_54 : decode cX3_next 54 = .ok (.aload_n 0, 1) := by decide +kernel
theorem dX3_next_55 : decode cX3_next 55 = .ok (.getfield 13, 3) := by decide +kernel
theorem dX3_next_58 : decode cX3_next 58 = .ok (.iload 5, 2) := by decide +kernel
theorem dX3_next_60 : decode cX3_next 60 = .ok (.iaload, 1) := by decide +kernel
theorem dX3_next_61 : decode cX3_next 61 = .ok (.iconst 5, 1) := by decide +kernel
theorem dX3_next_62 : decode cX3_next 62 = .ok (.if_icmp .ne 12, 3) := by decide +kernel
theorem dX3_next_65 : decode cX3_next 65 = .ok (.lload_n 2, 1) := by decide +kernel
theorem dX3_next_66 : decode cX3_next 66 = .ok (.aload_n 0, 1) := by decide +kernel
theorem dX3_next_67 : decode cX3_next 67 = .ok (.iload 4, 2) := by decide +kernel
theorem dX3_next_69 : decode cX3_next 69 = .ok (.invokevirtual 104, 3) := by decide +kernel
theorem dX3_next_72 : decode cX3_next 72 = .ok (.lor, 1) := by decide +kernel
theorem dX3_next_73 : decode cX3_next 73 = .ok (.lstore_n 2, 1) := by decide +kernel
theorem dX3_next_74 : decode cX3_next 74 = .ok (.aload_n 0, 1) := by decide +kernel
theorem dX3_next_75 : decode cX3_next 75 = .ok (.getfield 22, 3) := by decide +kernel
theorem dX3_next_78 : decode cX3_next 78 = .ok (.iload 4, 2) := by decide +kernel
theorem dX3_next_80 : decode cX3_next 80 = .ok (.iaload, 1) := by decide +kernel
theorem dX3_next_81 : decode cX3_next 81 = .ok (.istore 6, 2) := by decide +kernel
theorem dX3_next_83 : decode cX3_next 83 = .ok (.iload 6, 2) := by decide +kernel
theorem dX3_next_85 : decode cX3_next 85 = .ok (.ifCond .lt 47, 3) := by decide +kernel
theorem dX3_next_88 : decode cX3_next 88 = .ok (.aload_n 0, 1) := by decide +kernel
theorem dX3_next_89 : decode cX3_next 89 = .ok (.getfield 13, 3) := by decide +kernel
theorem dX3_next_92 : decode cX3_next 92 = .ok (.iload 5, 2) := by decide +kernel
theorem dX3_next_94 : decode cX3_next 94 = .ok (.iaload, 1) := by decide +kernel
theorem dX3_next_95 : decode cX3_next 95 = .ok (.iconst 2, 1) := by decide +kernel
theorem dX3_next_96 : decode cX3_next 96 = .ok (.if_icmp .ne 36, 3) := by decide +kernel
theorem dX3_next_99 : decode cX3_next 99 = .ok (.lload_n 2, 1) := by decide +kernel
theorem dX3_next_100 : decode cX3_next 100 = .ok (.aload_n 0, 1) := by decide +kernel
theorem dX3_next_101 : decode cX3_next 101 = .ok (.iload 6, 2) := by decide +kernel
theorem dX3_next_103 : decode cX3_next 103 = .ok (.invokevirtual 104, 3) := by decide +kernel
theorem dX3_next_106 : decode cX3_next 106 = .ok (.lor, 1) := by decide +kernel
theorem dX3_next_107 : decode cX3_next 107 = .ok (.lstore_n 2, 1) := by decide +kernel
theorem dX3_next_108 : decode cX3_next 108 = .ok (.aload_n 0, 1) := by decide +kernel
theorem dX3_next_109 : decode cX3_next 109 = .ok (.getfield 25, 3) := by decide +kernel
theorem dX3_next_112 : decode cX3_next 112 = .ok (.iload 6, 2) := by decide +kernel
theorem dX3_next_114 : decode cX3_next 114 = .ok (.baload, 1) := by decide +kernel
theorem dX3_next_115 : decode cX3_next 115 = .ok (.ifCond .ne 5, 3) := by decide +kernel
theorem dX3_next_118 : decode cX3_next 118 = .ok (.lload_n 2, 1) := by decide +kernel
theorem dX3_next_119 : decode cX3_next 119 = .ok (.lreturn, 1) := by decide +kernel
theorem dX3_next_120 : decode cX3_next 120 = .ok (.aload_n 0, 1) := by decide +kernel
theorem dX3_next_121 : decode cX3_next 121 = .ok (.getfield 22, 3) := by decide +kernel
theorem dX3_next_124 : decode cX3_next 124 = .ok (.iload 6, 2) := by decide +kernel
theorem dX3_next_126 : decode cX3_next 126 = .ok (.iaload, 1) := by decide +kernel
theorem dX3_next_127 : decode cX3_next 127 = .ok (.istore 6, 2) := by decide +kernel
theorem dX3_next_129 : decode cX3_next 129 = .ok (.goto (-46), 3) := by decide +kernel
theorem dX3_next_132 : decode cX3_next 132 = .ok (.iload 5, 2) := by decide +kernel
theorem dX3_next_134 : decode cX3_next 134 = .ok (.istore 4, 2) := by decide +kernel
theorem dX3_next_136 : decode cX3_next 136 = .ok (.goto (-112), 3) := by decide +kernel
theorem dX3_next_139 : decode cX3_next 139 = .ok (.lload_n 2, 1) := by decide +kernel
theorem dX3_next_140 : decode cX3_next 140 = .ok (.lreturn, 1) := by decide +kernel
theorem dX3_last_0 : decode cX3_last 0 = .ok (.lconst 0, 1) := by decide +kernel
theorem dX3_last_1 : decode cX3_last 1 = .ok (.lstore_n 1, 1) := by decide +kernel
theorem dX3_last_2 : decode cX3_last 2 = .ok (.iconst 0, 1) := by decide +kernel
theorem dX3_last_3 : decode cX3_last 3 = .ok (.istore_n 3, 1) := by decide +kernel
theorem dX3_last_4 : decode cX3_last 4 = .ok (.iload_n 3, 1) := by decide +kernel
theorem dX3_last_5 : decode cX3_last 5 = .ok (.aload_n 0, 1) := by decide +kernel
theorem dX3_last_6 : decode cX3_last 6 = .ok (.getfield 64, 3) := by decide +kernel
theorem dX3_last_9 : decode cX3_last 9 = .ok (.if_icmp .ge 27, 3) := by decide +kernel
theorem dX3_last_12 : decode cX3_last 12 = .ok (.lload_n 1, 1) := by decide +kernel
theorem dX3_last_13 : decode cX3_last 13 = .ok (.aload_n 0, 1) := by decide +kernel
theorem dX3_last_14 : decode cX3_last 14 = .ok (.iload_n 3, 1) := by decide +kernel
theorem dX3_last_15 : decode cX3_last 15 = .ok (.invokevirtual 108, 3) := by decide +kernel
theorem dX3_last_18 : decode cX3_last 18 = .ok (.ifCond .eq 9, 3) := by decide +kernel
theorem dX3_last_21 : decode cX3_last 21 = .ok (.lconst 1, 1) := by decide +kernel
theorem dX3_last_22 : decode cX3_last 22 = .ok (.iload_n 3, 1) := by decide +kernel
theorem dX3_last_23 : decode cX3_last 23 = .ok (.lshl, 1) := by decide +kernel
theorem dX3_last_24 : decode cX3_last 24 = .ok (.goto 4, 3) := by decide +kernel
theorem dX3_last_27 : decode cX3_last 27 = .ok (.lconst 0, 1) := by decide +kernel
theorem dX3_last_28 : decode cX3_last 28 = .ok (.lor, 1) := by decide +kernel
theorem dX3_last_29 : decode cX3_last 29 = .ok (.lstore_n 1, 1) := by decide +kernel
theorem dX3_last_30 : decode cX3_last 30 = .ok (.iinc 3 1, 3) := by decide +kernel
theorem dX3_last_33 : decode cX3_last 33 = .ok (.goto (-29), 3) := by decide +kernel
theorem dX3_last_36 : decode cX3_last 36 = .ok (.lload_n 1, 1) := by decide +kernel
theorem dX3_last_37 : decode cX3_last 37 = .ok (.lreturn, 1) := by decide +kernel
theorem dX3_twice_0 : decode cX3_twice 0 = .ok (.iconst 0, 1) := by decide +kernel
theorem dX3_twice_1 : decode cX3_twice 1 = .ok (.istore_n 3, 1) := by decide +kernel
theorem dX3_twice_2 : decode cX3_twice 2 = .ok (.iconst 0, 1) := by decide +kernel
theorem dX3_twice_3 : decode cX3_twice 3 = .ok (.istore 4, 2) := by decide +kernel
theorem dX3_twice_5 : decode cX3_twice 5 = .ok (.iconst 0, 1) := by decide +kernel
theorem dX3_twice_6 : decode cX3_twice 6 = .ok (.istore 5, 2) := by decide +kernel
theorem dX3_twice_8 : decode cX3_twice 8 = .ok (.iload 5, 2) := by decide +kernel
theorem dX3_twice_10 : decode cX3_twice 10 = .ok (.aload_n 0, 1) := by decide +kernel
theorem dX3_twice_11 : decode cX3_twice 11 = .ok (.getfield 64, 3) := by decide +kernel
theorem dX3_twice_14 : decode cX3_twice 14 = .ok (.if_icmp .ge 49, 3) := by decide +kernel
theorem dX3_twice_17 : decode cX3_twice 17 = .ok (.lload_n 1, 1) := by decide +kernel
theorem dX3_twice_18 : decode cX3_twice 18 = .ok (.iload 5, 2) := by decide +kernel
theorem dX3_twice_20 : decode cX3_twice 20 = .ok (.lshr, 1) := by decide +kernel
theorem dX3_twice_21 : decode cX3_twice 21 = .ok (.lconst 1, 1) := by decide +kernel
theorem dX3_twice_22 : decode cX3_twice 22 = .ok (.land, 1) := by decide +kernel
theorem dX3_twice_23 : decode cX3_twice 23 = .ok (.lconst 1, 1) := by decide +kernel
theorem dX3_twice_24 : decode cX3_twice 24 = .ok (.lcmp, 1) := by decide +kernel
theorem dX3_twice_25 : decode cX3_twice 25 = .ok (.ifCond .ne 15, 3) := by decide +kernel
theorem dX3_twice_28 : decode cX3_twice 28 = .ok (.iconst 1, 1) := by decide +kernel
theorem dX3_twice_29 : decode cX3_twice 29 = .ok (.aload_n 0, 1) := by decide +kernel
theorem dX3_twice_30 : decode cX3_twice 30 = .ok (.getfield 32, 3) := by decide +kernel
theorem dX3_twice_33 : decode cX3_twice 33 = .ok (.iload 5, 2) := by decide +kernel
theorem dX3_twice_35 : decode cX3_twice 35 = .ok (.iaload, 1) := by decide +kernel
theorem dX3_twice_36 : decode cX3_twice 36 = .ok (.ishl, 1) := by decide +kernel
theorem dX3_twice_37 : decode cX3_twice 37 = .ok (.goto 4, 3) := by decide +kernel
theorem dX3_twice_40 : decode cX3_twice 40 = .ok (.iconst 0, 1) := by decide +kernel
theorem dX3_twice_41 : decode cX3_twice 41 = .ok (.istore 6, 2) := by decide +kernel
theorem dX3_twice_43 : decode cX3_twice 43 = .ok (.iload 4, 2) := by decide +kernel
theorem dX3_twice_45 : decode cX3_twice 45 = .ok (.iload_n 3, 1) := by decide +kernel
theorem dX3_twice_46 : decode cX3_twice 46 = .ok (.iload 6, 2) := by decide +kernel
theorem dX3_twice_48 : decode cX3_twice 48 = .ok (.iand, 1) := by decide +kernel
theorem dX3_twice_49 : decode cX3_twice 49 = .ok (.ior, 1) := by decide +kernel
theorem dX3_twice_50 : decode cX3_twice 50 = .ok (.istore 4, 2) := by decide +kernel
theorem dX3_twice_52 : decode cX3_twice 52 = .ok (.iload_n 3, 1) := by decide +kernel
theorem dX3_twice_53 : decode cX3_twice 53 = .ok (.iload 6, 2) := by decide +kernel
theorem dX3_twice_55 : decode cX3_twice 55 = .ok (.ior, 1) := by decide +kernel
theorem dX3_twice_56 : decode cX3_twice 56 = .ok (.istore_n 3, 1) := by decide +kernel
theorem dX3_twice_57 : decode cX3_twice 57 = .ok (.iinc 5 1, 3) := by decide +kernel
theorem dX3_twice_60 : decode cX3_twice 60 = .ok (.goto (-52), 3) := by decide +kernel
theorem dX3_twice_63 : decode cX3_twice 63 = .ok (.iload 4, 2) := by decide +kernel
theorem dX3_twice_65 : decode cX3_twice 65 = .ok (.ireturn, 1) := by decide +kernel
theorem dX3_competing_0 : decode cX3_competing 0 = .ok (.aload_n 0, 1) := by decide +kernel
theorem dX3_competing_1 : decode cX3_competing 1 = .ok (.aload_n 0, 1) := by decide +kernel
theorem dX3_competing_2 : decode cX3_competing 2 = .ok (.invokevirtual 111, 3) := by decide +kernel
theorem dX3_competing_5 : decode cX3_competing 5 = .ok (.invokevirtual 115, 3) := by decide +kernel
theorem dX3_competing_8 : decode cX3_competing 8 = .ok (.istore_n 1, 1) := by decide +kernel
theorem dX3_competing_9 : decode cX3_competing 9 = .ok (.iconst 0, 1) := by decide +kernel
theorem dX3_competing_10 : decode cX3_competing 10 = .ok (.istore_n 2, 1) := by decide +kernel
theorem dX3_competing_11 : decode cX3_competing 11 = .ok (.iload_n 2, 1) := by decide +kernel
theorem dX3_competing_12 : decode cX3_competing 12 = .ok (.aload_n 0, 1) := by decide +kernel
theorem dX3_competing_13 : decode cX3_competing 13 = .ok (.getfield 64, 3) := by decide +kernel
theorem dX3_competing_16 : decode cX3_competing 16 = .ok (.if_icmp .ge 21, 3) := by decide +kernel
theorem dX3_competing_19 : decode cX3_competing 19 = .ok (.iload_n 1, 1) := by decide +kernel
theorem dX3_competing_20 : decode cX3_competing 20 = .ok (.aload_n 0, 1) := by decide +kernel
theorem dX3_competing_21 : decode cX3_competing 21 = .ok (.aload_n 0, 1) := by decide +kernel
theorem dX3_competing_22 : decode cX3_competing 22 = .ok (.iload_n 2, 1) := by decide +kernel
theorem dX3_competing_23 : decode cX3_competing 23 = .ok (.invokevirtual 119, 3) := by decide +kernel
theorem dX3_competing_26 : decode cX3_competing 26 = .ok (.invokevirtual 115, 3) := by decide +kernel
theorem dX3_competing_29 : decode cX3_competing 29 = .ok (.ior, 1) := by decide +kernel
theorem dX3_competing_30 : decode cX3_competing 30 = .ok (.istore_n 1, 1) := by decide +kernel
theorem dX3_competing_31 : decode cX3_competing 31 = .ok (.iinc 2 1, 3) := by decide +kernel
theorem dX3_competing_34 : decode cX3_competing 34 = .ok (.goto (-23), 3) := by decide +kernel
theorem dX3_competing_37 : decode cX3_competing 37 = .ok (.iload_n 1, 1) := by decide +kernel
theorem dX3_competing_38 : decode cX3_competing 38 = .ok (.ireturn, 1) := by decide +kernel
theorem dX3_isClear_0 : decode cX3_isClear 0 = .ok (.aload_n 0, 1) := by decide +kernel
theorem dX3_isClear_1 : decode cX3_isClear 1 = .ok (.getfield 96, 3) := by decide +kernel
theorem dX3_isClear_4 : decode cX3_isClear 4 = .ok (.ifCond .eq 14, 3) := by decide +kernel
theorem dX3_isClear_7 : decode cX3_isClear 7 = .ok (.aload_n 0, 1) := by decide +kernel
theorem dX3_isClear_8 : decode cX3_isClear 8 = .ok (.invokevirtual 122, 3) := by decide +kernel
theorem dX3_isClear_11 : decode cX3_isClear 11 = .ok (.ifCond .ne 7, 3) := by decide +kernel
theorem dX3_isClear_14 : decode cX3_isClear 14 = .ok (.iconst 1, 1) := by decide +kernel
theorem dX3_isClear_15 : decode cX3_isClear 15 = .ok (.goto 4, 3) := by decide +kernel
theorem dX3_isClear_18 : decode cX3_isClear 18 = .ok (.iconst 0, 1) := by decide +kernel
theorem dX3_isClear_19 : decode cX3_isClear 19 = .ok (.ireturn, 1) := by decide +kernel
theorem dX3_isEmpty_0 : decode cX3_isEmpty 0 = .ok (.aload_n 0, 1) := by decide +kernel
theorem dX3_isEmpty_1 : decode cX3_isEmpty 1 = .ok (.getfield 96, 3) := by decide +kernel
theorem dX3_isEmpty_4 : decode cX3_isEmpty 4 = .ok (.ifCond .eq 19, 3) := by decide +kernel
theorem dX3_isEmpty_7 : decode cX3_isEmpty 7 = .ok (.aload_n 0, 1) := by decide +kernel
theorem dX3_isEmpty_8 : decode cX3_isEmpty 8 = .ok (.getfield 25, 3) := by decide +kernel
theorem dX3_isEmpty_11 : decode cX3_isEmpty 11 = .ok (.aload_n 0, 1) := by decide +kernel
theorem dX3_isEmpty_12 : decode cX3_isEmpty 12 = .ok (.getfield 83, 3) := by decide +kernel
theorem dX3_isEmpty_15 : decode cX3_isEmpty 15 = .ok (.baload, 1) := by decide +kernel
theorem dX3_isEmpty_16 : decode cX3_isEmpty 16 = .ok (.ifCond .eq 7, 3) := by decide +kernel
theorem dX3_isEmpty_19 : decode cX3_isEmpty 19 = .ok (.iconst 1, 1) := by decide +kernel
theorem dX3_isEmpty_20 : decode cX3_isEmpty 20 = .ok (.goto 4, 3) := by decide +kernel
theorem dX3_isEmpty_23 : decode cX3_isEmpty 23 = .ok (.iconst 0, 1) := by decide +kernel
theorem dX3_isEmpty_24 : decode cX3_isEmpty 24 = .ok (.ireturn, 1) := by decide +kernel
theorem dX3_name_0 : decode cX3_name 0 = .ok (.iload_n 1, 1) := by decide +kernel
theorem dX3_name_1 : decode cX3_name 1 = .ok (.ifCond .lt 20, 3) := by decide +kernel
theorem dX3_name_4 : decode cX3_name 4 = .ok (.iload_n 1, 1) := by decide +kernel
theorem dX3_name_5 : decode cX3_name 5 = .ok (.aload_n 0, 1) := by decide +kernel
theorem dX3_name_6 : decode cX3_name 6 = .ok (.getfield 64, 3) := by decide +kernel
theorem dX3_name_9 : decode cX3_name 9 = .ok (.if_icmp .ge 12, 3) := by decide +kernel
theorem dX3_name_12 : decode cX3_name 12 = .ok (.aload_n 0, 1) := by decide +kernel
theorem dX3_name_13 : decode cX3_name 13 = .ok (.getfield 32, 3) := by decide +kernel
theorem dX3_name_16 : decode cX3_name 16 = .ok (.iload_n 1, 1) := by decide +kernel
theorem dX3_name_17 : decode cX3_name 17 = .ok (.iaload, 1) := by decide +kernel
theorem dX3_name_18 : decode cX3_name 18 = .ok (.goto 4, 3) := by decide +kernel
theorem dX3_name_21 : decode cX3_name 21 = .ok (.iconst (-1), 1) := by decide +kernel
theorem dX3_name_22 : decode cX3_name 22 = .ok (.ireturn, 1) := by decide +kernel
theorem dX3_able_0 : decode cX3_able 0 = .ok (.aload_n 0, 1) := by decide +kernel
theorem dX3_able_1 : decode cX3_able 1 = .ok (.getfield 86, 3) := by decide +kernel
theorem dX3_able_4 : decode cX3_able 4 = .ok (.ifCond .ne 8, 3) := by decide +kernel
theorem dX3_able_7 : decode cX3_able 7 = .ok (.aload_n 0, 1) := by decide +kernel
theorem dX3_able_8 : decode cX3_able 8 = .ok (.invokevirtual 111, 3) := by decide +kernel
theorem dX3_able_11 : decode cX3_able 11 = .ok (.lreturn, 1) := by decide +kernel
theorem dX3_able_12 : decode cX3_able 12 = .ok (.lconst 0, 1) := by decide +kernel
theorem dX3_able_13 : decode cX3_able 13 = .ok (.lstore_n 3, 1) := by decide +kernel
theorem dX3_able_14 : decode cX3_able 14 = .ok (.iconst 0, 1) := by decide +kernel
theorem dX3_able_15 : decode cX3_able 15 = .ok (.istore 5, 2) := by decide +kernel
theorem dX3_able_17 : decode cX3_able 17 = .ok (.iload 5, 2) := by decide +kernel
theorem dX3_able_19 : decode cX3_able 19 = .ok (.aload_n 0, 1) := by decide +kernel
theorem dX3_able_20 : decode cX3_able 20 = .ok (.getfield 64, 3) := by decide +kernel
theorem dX3_able_23 : decode cX3_able 23 = .ok (.if_icmp .ge 33, 3) := by decide +kernel
theorem dX3_able_26 : decode cX3_able 26 = .ok (.lload_n 3, 1) := by decide +kernel
theorem dX3_able_27 : decode cX3_able 27 = .ok (.lload_n 1, 1) := by decide +kernel
theorem dX3_able_28 : decode cX3_able 28 = .ok (.iload 5, 2) := by decide +kernel
theorem dX3_able_30 : decode cX3_able 30 = .ok (.lshr, 1) := by decide +kernel
theorem dX3_able_31 : decode cX3_able 31 = .ok (.lconst 1, 1) := by decide +kernel
theorem dX3_able_32 : decode cX3_able 32 = .ok (.land, 1) := by decide +kernel
theorem dX3_able_33 : decode cX3_able 33 = .ok (.lconst 1, 1) := by decide +kernel
theorem dX3_able_34 : decode cX3_able 34 = .ok (.lcmp, 1) := by decide +kernel
theorem dX3_able_35 : decode cX3_able 35 = .ok (.ifCond .ne 12, 3) := by decide +kernel
theorem dX3_able_38 : decode cX3_able 38 = .ok (.aload_n 0, 1) := by decide +kernel
theorem dX3_able_39 : decode cX3_able 39 = .ok (.iload 5, 2) := by decide +kernel
theorem dX3_able_41 : decode cX3_able 41 = .ok (.invokevirtual 119, 3) := by decide +kernel
theorem dX3_able_44 : decode cX3_able 44 = .ok (.goto 4, 3) := by decide +kernel
theorem dX3_able_47 : decode cX3_able 47 = .ok (.lconst 0, 1) := by decide +kernel
theorem dX3_able_48 : decode cX3_able 48 = .ok (.lor, 1) := by decide +kernel
theorem dX3_able_49 : decode cX3_able 49 = .ok (.lstore_n 3, 1) := by decide +kernel
theorem dX3_able_50 : decode cX3_able 50 = .ok (.iinc 5 1, 3) := by decide +kernel
theorem dX3_able_53 : decode cX3_able 53 = .ok (.goto (-36), 3) := by decide +kernel
theorem dX3_able_56 : decode cX3_able 56 = .ok (.lload_n 3, 1) := by decide +kernel
theorem dX3_able_57 : decode cX3_able 57 = .ok (.lreturn, 1) := by decide +kernel
theorem dX3_come_0 : decode cX3_come 0 = .ok (.aload_n 0, 1) := by decide +kernel
theorem dX3_come_1 : decode cX3_come 1 = .ok (.aload_n 0, 1) := by decide +kernel
theorem dX3_come_2 : decode cX3_come 2 = .ok (.getfield 89, 3) := by decide +kernel
theorem dX3_come_5 : decode cX3_come 5 = .ok (.invokevirtual 125, 3) := by decide +kernel
theorem dX3_come_8 : decode cX3_come 8 = .ok (.lstore_n 2, 1) := by decide +kernel
theorem dX3_come_9 : decode cX3_come 9 = .ok (.lconst 0, 1) := by decide +kernel
theorem dX3_come_10 : decode cX3_come 10 = .ok (.lstore 4, 2) := by decide +kernel
theorem dX3_come_12 : decode cX3_come 12 = .ok (.iconst 0, 1) := by decide +kernel
theorem dX3_come_13 : decode cX3_come 13 = .ok (.istore 6, 2) := by decide +kernel
theorem dX3_come_15 : decode cX3_come 15 = .ok (.iload 6, 2) := by decide +kernel
theorem dX3_come_17 : decode cX3_come 17 = .ok (.aload_n 0, 1) := by decide +kernel
theorem dX3_come_18 : decode cX3_come 18 = .ok (.getfield 64, 3) := by decide +kernel
theorem dX3_come_21 : decode cX3_come 21 = .ok (.if_icmp .ge 35, 3) := by decide +kernel
theorem dX3_come_24 : decode cX3_come 24 = .ok (.lload 4, 2) := by decide +kernel
theorem dX3_come_26 : decode cX3_come 26 = .ok (.aload_n 0, 1) := by decide +kernel
theorem dX3_come_27 : decode cX3_come 27 = .ok (.getfield 32, 3) := by decide +kernel
theorem dX3_come_30 : decode cX3_come 30 = .ok (.iload 6, 2) := by decide +kernel
theorem dX3_come_32 : decode cX3_come 32 = .ok (.iaload, 1) := by decide +kernel
theorem dX3_come_33 : decode cX3_come 33 = .ok (.iload_n 1, 1) := by decide +kernel
theorem dX3_come_34 : decode cX3_come 34 = .ok (.if_icmp .ne 12, 3) := by decide +kernel
theorem dX3_come_37 : decode cX3_come 37 = .ok (.lload_n 2, 1) := by decide +kernel
theorem dX3_come_38 : decode cX3_come 38 = .ok (.lconst 1, 1) := by decide +kernel
theorem dX3_come_39 : decode cX3_come 39 = .ok (.iload 6, 2) := by decide +kernel
theorem dX3_come_41 : decode cX3_come 41 = .ok (.lshl, 1) := by decide +kernel
theorem dX3_come_42 : decode cX3_come 42 = .ok (.land, 1) := by decide +kernel
theorem dX3_come_43 : decode cX3_come 43 = .ok (.goto 4, 3) := by decide +kernel
theorem dX3_come_46 : decode cX3_come 46 = .ok (.lconst 0, 1) := by decide +kernel
theorem dX3_come_47 : decode cX3_come 47 = .ok (.lor, 1) := by decide +kernel
theorem dX3_come_48 : decode cX3_come 48 = .ok (.lstore 4, 2) := by decide +kernel
theorem dX3_come_50 : decode cX3_come 50 = .ok (.iinc 6 1, 3) := by decide +kernel
theorem dX3_come_53 : decode cX3_come 53 = .ok (.goto (-38), 3) := by decide +kernel
theorem dX3_come_56 : decode cX3_come 56 = .ok (.lload 4, 2) := by decide +kernel
theorem dX3_come_58 : decode cX3_come 58 = .ok (.lconst 0, 1) := by decide +kernel
theorem dX3_come_59 : decode cX3_come 59 = .ok (.lcmp, 1) := by decide +kernel
theorem dX3_come_60 : decode cX3_come 60 = .ok (.ifCond .ne 5, 3) := by decide +kernel
theorem dX3_come_63 : decode cX3_come 63 = .ok (.iconst 0, 1) := by decide +kernel
theorem dX3_come_64 : decode cX3_come 64 = .ok (.ireturn, 1) := by decide +kernel
theorem dX3_come_65 : decode cX3_come 65 = .ok (.aload_n 0, 1) := by decide +kernel
theorem dX3_come_66 : decode cX3_come 66 = .ok (.lload 4, 2) := by decide +kernel
theorem dX3_come_68 : decode cX3_come 68 = .ok (.putfield 89, 3) := by decide +kernel
theorem dX3_come_71 : decode cX3_come 71 = .ok (.aload_n 0, 1) := by decide +kernel
theorem dX3_come_72 : decode cX3_come 72 = .ok (.aload_n 0, 1) := by decide +kernel
theorem dX3_come_73 : decode cX3_come 73 = .ok (.getfield 86, 3) := by decide +kernel
theorem dX3_come_76 : decode cX3_come 76 = .ok (.iconst 1, 1) := by decide +kernel
theorem dX3_come_77 : decode cX3_come 77 = .ok (.iadd, 1) := by decide +kernel
theorem dX3_come_78 : decode cX3_come 78 = .ok (.putfield 86, 3) := by decide +kernel
theorem dX3_come_81 : decode cX3_come 81 = .ok (.iconst 1, 1) := by decide +kernel
theorem dX3_come_82 : decode cX3_come 82 = .ok (.ireturn, 1) := by decide +kernel
theorem dX3_isWhole_0 : decode cX3_isWhole 0 = .ok (.aload_n 0, 1) := by decide +kernel
theorem dX3_isWhole_1 : decode cX3_isWhole 1 = .ok (.getfield 96, 3) := by decide +kernel
theorem dX3_isWhole_4 : decode cX3_isWhole 4 = .ok (.ifCond .eq 43, 3) := by decide +kernel
theorem dX3_isWhole_7 : decode cX3_isWhole 7 = .ok (.aload_n 0, 1) := by decide +kernel
theorem dX3_isWhole_8 : decode cX3_isWhole 8 = .ok (.getfield 86, 3) := by decide +kernel
theorem dX3_isWhole_11 : decode cX3_isWhole 11 = .ok (.ifCond .ne 18, 3) := by decide +kernel
theorem dX3_isWhole_14 : decode cX3_isWhole 14 = .ok (.aload_n 0, 1) := by decide +kernel
theorem dX3_isWhole_15 : decode cX3_isWhole 15 = .ok (.getfield 25, 3) := by decide +kernel
theorem dX3_isWhole_18 : decode cX3_isWhole 18 = .ok (.aload_n 0, 1) := by decide +kernel
theorem dX3_isWhole_19 : decode cX3_isWhole 19 = .ok (.getfield 83, 3) := by decide +kernel
theorem dX3_isWhole_22 : decode cX3_isWhole 22 = .ok (.baload, 1) := by decide +kernel
theorem dX3_isWhole_23 : decode cX3_isWhole 23 = .ok (.ifCond .eq 24, 3) := by decide +kernel
theorem dX3_isWhole_26 : decode cX3_isWhole 26 = .ok (.goto 17, 3) := by decide +kernel
theorem dX3_isWhole_29 : decode cX3_isWhole 29 = .ok (.aload_n 0, 1) := by decide +kernel
theorem dX3_isWhole_30 : decode cX3_isWhole 30 = .ok (.getfield 89, 3) := by decide +kernel
theorem dX3_isWhole_33 : decode cX3_isWhole 33 = .ok (.aload_n 0, 1) := by decide +kernel
theorem dX3_isWhole_34 : decode cX3_isWhole 34 = .ok (.invokevirtual 129, 3) := by decide +kernel
theorem dX3_isWhole_37 : decode cX3_isWhole 37 = .ok (.land, 1) := by decide +kernel
theorem dX3_isWhole_38 : decode cX3_isWhole 38 = .ok (.lconst 0, 1) := by decide +kernel
theorem dX3_isWhole_39 : decode cX3_isWhole 39 = .ok (.lcmp, 1) := by decide +kernel
theorem dX3_isWhole_40 : decode cX3_isWhole 40 = .ok (.ifCond .eq 7, 3) := by decide +kernel
theorem dX3_isWhole_43 : decode cX3_isWhole 43 = .ok (.iconst 1, 1) := by decide +kernel
theorem dX3_isWhole_44 : decode cX3_isWhole 44 = .ok (.goto 4, 3) := by decide +kernel
theorem dX3_isWhole_47 : decode cX3_isWhole 47 = .ok (.iconst 0, 1) := by decide +kernel
theorem dX3_isWhole_48 : decode cX3_isWhole 48 = .ok (.ireturn, 1) := by decide +kernel
theorem dX3_may_0 : decode cX3_may 0 = .ok (.aload_n 0, 1) := by decide +kernel
theorem dX3_may_1 : decode cX3_may 1 = .ok (.aload_n 0, 1) := by decide +kernel
theorem dX3_may_2 : decode cX3_may 2 = .ok (.getfield 89, 3) := by decide +kernel
theorem dX3_may_5 : decode cX3_may 5 = .ok (.invokevirtual 125, 3) := by decide +kernel
theorem dX3_may_8 : decode cX3_may 8 = .ok (.lstore_n 1, 1) := by decide +kernel
theorem dX3_may_9 : decode cX3_may 9 = .ok (.iconst 0, 1) := by decide +kernel
theorem dX3_may_10 : decode cX3_may 10 = .ok (.istore_n 3, 1) := by decide +kernel
theorem dX3_may_11 : decode cX3_may 11 = .ok (.iconst 0, 1) := by decide +kernel
theorem dX3_may_12 : decode cX3_may 12 = .ok (.istore 4, 2) := by decide +kernel
theorem dX3_may_14 : decode cX3_may 14 = .ok (.iload 4, 2) := by decide +kernel
theorem dX3_may_16 : decode cX3_may 16 = .ok (.aload_n 0, 1) := by decide +kernel
theorem dX3_may_17 : decode cX3_may 17 = .ok (.getfield 64, 3) := by decide +kernel
theorem dX3_may_20 : decode cX3_may 20 = .ok (.if_icmp .ge 36, 3) := by decide +kernel
theorem dX3_may_23 : decode cX3_may 23 = .ok (.iload_n 3, 1) := by decide +kernel
theorem dX3_may_24 : decode cX3_may 24 = .ok (.lload_n 1, 1) := by decide +kernel
theorem dX3_may_25 : decode cX3_may 25 = .ok (.iload 4, 2) := by decide +kernel
theorem dX3_may_27 : decode cX3_may 27 = .ok (.lshr, 1) := by decide +kernel
theorem dX3_may_28 : decode cX3_may 28 = .ok (.lconst 1, 1) := by decide +kernel
theorem dX3_may_29 : decode cX3_may 29 = .ok (.land, 1) := by decide +kernel
theorem dX3_may_30 : decode cX3_may 30 = .ok (.lconst 1, 1) := by decide +kernel
theorem dX3_may_31 : decode cX3_may 31 = .ok (.lcmp, 1) := by decide +kernel
theorem dX3_may_32 : decode cX3_may 32 = .ok (.ifCond .ne 15, 3) := by decide +kernel
theorem dX3_may_35 : decode cX3_may 35 = .ok (.iconst 1, 1) := by decide +kernel
theorem dX3_may_36 : decode cX3_may 36 = .ok (.aload_n 0, 1) := by decide +kernel
theorem dX3_may_37 : decode cX3_may 37 = .ok (.getfield 32, 3) := by decide +kernel
theorem dX3_may_40 : decode cX3_may 40 = .ok (.iload 4, 2) := by decide +kernel
theorem dX3_may_42 : decode cX3_may 42 = .ok (.iaload, 1) := by decide +kernel
theorem dX3_may_43 : decode cX3_may 43 = .ok (.ishl, 1) := by decide +kernel
theorem dX3_may_44 : decode cX3_may 44 = .ok (.goto 4, 3) := by decide +kernel
theorem dX3_may_47 : decode cX3_may 47 = .ok (.iconst 0, 1) := by decide +kernel
theorem dX3_may_48 : decode cX3_may 48 = .ok (.ior, 1) := by decide +kernel
theorem dX3_may_49 : decode cX3_may 49 = .ok (.istore_n 3, 1) := by decide +kernel
theorem dX3_may_50 : decode cX3_may 50 = .ok (.iinc 4 1, 3) := by decide +kernel
theorem dX3_may_53 : decode cX3_may 53 = .ok (.goto (-39), 3) := by decide +kernel
theorem dX3_may_56 : decode cX3_may 56 = .ok (.iload_n 3, 1) := by decide +kernel
theorem dX3_may_57 : decode cX3_may 57 = .ok (.ireturn, 1) := by decide +kernel
theorem dX3_again_0 : decode cX3_again 0 = .ok (.aload_n 0, 1) := by decide +kernel
theorem dX3_again_1 : decode cX3_again 1 = .ok (.getfield 86, 3) := by decide +kernel
theorem dX3_again_4 : decode cX3_again 4 = .ok (.istore_n 1, 1) := by decide +kernel
theorem dX3_again_5 : decode cX3_again 5 = .ok (.aload_n 0, 1) := by decide +kernel
theorem dX3_again_6 : decode cX3_again 6 = .ok (.iconst 0, 1) := by decide +kernel
theorem dX3_again_7 : decode cX3_again 7 = .ok (.putfield 86, 3) := by decide +kernel
theorem dX3_again_10 : decode cX3_again 10 = .ok (.aload_n 0, 1) := by decide +kernel
theorem dX3_again_11 : decode cX3_again 11 = .ok (.lconst 0, 1) := by decide +kernel
theorem dX3_again_12 : decode cX3_again 12 = .ok (.putfield 89, 3) := by decide +kernel
theorem dX3_again_15 : decode cX3_again 15 = .ok (.iload_n 1, 1) := by decide +kernel
theorem dX3_again_16 : decode cX3_again 16 = .ok (.ireturn, 1) := by decide +kernel
end
section
/-! ===== Int32 by its bits: bt x i ===== -/
def bt (x : Int32) (i : Nat) : Bool := x.toBitVec.getLsbD i
theorem b_ext {x y : Int32} (h : ∀ i, i < 32 → bt x i = bt y i) : x = y := Int32.toBitVec_inj.mp (BitVec.eq_of_getLsbD_eq (fun i hi => h i hi))
theorem b_or (x y : Int32) (i : Nat) : bt (x ||| y) i = (bt x i || bt y i) := by unfold bt; rw [Int32.toBitVec_or, BitVec.getLsbD_or]
theorem b_and (x y : Int32) (i : Nat) : bt (x &&& y) i = (bt x i && bt y i) := by unfold bt; rw [Int32.toBitVec_and, BitVec.getLsbD_and]
theorem b_xor (x y : Int32) (i : Nat) : bt (x ^^^ y) i = (bt x i ^^ bt y i) := by unfold bt; rw [Int32.toBitVec_xor, BitVec.getLsbD_xor]
theorem b_big {x : Int32} {i : Nat} (h : 32 ≤ i) : bt x i = false := BitVec.getLsbD_of_ge _ _ h
theorem b_255 (i : Nat) : bt 255 i = decide (i < 8) := by
  rcases Nat.lt_or_ge i 32 with h | h
  · exact (by decide +kernel : ∀ i, i < 32 → bt 255 i = decide (i < 8)) i h
  · rw [b_big h, decide_eq_false (by omega)]
theorem b_65535 (i : Nat) : bt 65535 i = decide (i < 16) := by
  rcases Nat.lt_or_ge i 32 with h | h
  · exact (by decide +kernel : ∀ i, i < 32 → bt 65535 i = decide (i < 16)) i h
  · rw [b_big h, decide_eq_false (by omega)]
theorem b_m1 : ∀ i, i < 32 → bt (-1) i = true := by decide +kernel
theorem b_0 (i : Nat) : bt 0 i = false := BitVec.getLsbD_zero
theorem s_l : ∀ n, n < 32 → ((nI n &&& 31).toBitVec.smod 32).toNat = n := by decide +kernel
theorem s_u : ∀ n, n < 32 → (((nI n).toUInt32 &&& Int32.toUInt32 31).toBitVec % 32).toNat = n := by decide +kernel
theorem b_shl (n : Nat) (hn : n < 32) (x : Int32) {i : Nat} (hi : i < 32) : bt (x <<< (nI n &&& 31)) i = (decide (n ≤ i) && bt x (i - n)) := by
  unfold bt
  rw [Int32.toBitVec_shiftLeft]
  show (x.toBitVec <<< ((nI n &&& 31).toBitVec.smod 32).toNat).getLsbD i = _
  rw [s_l n hn, BitVec.getLsbD_shiftLeft]
  rcases Nat.lt_or_ge i n with h | h
  · simp [h, Nat.not_le.mpr h]
  · simp [hi, h, Nat.not_lt.mpr h]
theorem b_ushr (n : Nat) (hn : n < 32) (x : Int32) (i : Nat) : bt ((x.toUInt32 >>> ((nI n).toUInt32 &&& Int32.toUInt32 31)).toInt32) i = bt x (n + i) := by
  show (x.toUInt32 >>> ((nI n).toUInt32 &&& Int32.toUInt32 31)).toBitVec.getLsbD i = x.toUInt32.toBitVec.getLsbD (n + i)
  rw [UInt32.toBitVec_shiftRight]
  show (x.toUInt32.toBitVec >>> (((nI n).toUInt32 &&& Int32.toUInt32 31).toBitVec % 32).toNat).getLsbD i = _
  rw [s_u n hn, BitVec.getLsbD_ushiftRight]
theorem b_sshr (n : Nat) (hn : n < 32) (x : Int32) {i : Nat} (hi : i < 32) : bt (x >>> (nI n &&& 31)) i = if n + i < 32 then bt x (n + i) else bt x 31 := by
  unfold bt
  rw [Int32.toBitVec_shiftRight]
  show (x.toBitVec.sshiftRight ((nI n &&& 31).toBitVec.smod 32).toNat).getLsbD i = _
  rw [s_l n hn, BitVec.getLsbD_sshiftRight, BitVec.msb_eq_getLsbD_last]
  simp [hi]
theorem b_shl8 (x : Int32) {i : Nat} (hi : i < 32) : bt (x <<< ((8 : Int32) &&& 31)) i = (decide (8 ≤ i) && bt x (i - 8)) := b_shl 8 (by omega) x hi
theorem b_shl16 (x : Int32) {i : Nat} (hi : i < 32) : bt (x <<< ((16 : Int32) &&& 31)) i = (decide (16 ≤ i) && bt x (i - 16)) := b_shl 16 (by omega) x hi
theorem b_shl24 (x : Int32) {i : Nat} (hi : i < 32) : bt (x <<< ((24 : Int32) &&& 31)) i = (decide (24 ≤ i) && bt x (i - 24)) := b_shl 24 (by omega) x hi
theorem b_sshr8 (x : Int32) {i : Nat} (hi : i < 32) : bt (x >>> ((8 : Int32) &&& 31)) i = if 8 + i < 32 then bt x (8 + i) else bt x 31 := b_sshr 8 (by omega) x hi
/-! ===== Int64 as a set of bits: test, set, clear ===== -/
theorem ts_nf {x : Bool} (h : ¬ x = false) : x = true := by cases x <;> first | rfl | exact absurd rfl h
theorem ts_nt {x : Bool} (h : ¬ x = true) : x = false := by cases x <;> first | rfl | exact absurd rfl h
theorem ts_bit {w : Int64} {s : UInt64} {j : Nat} (hj : j < 64) (hs : s.toNat = j) : ((w.toUInt64 >>> s).toInt64 &&& 1) = 0 ↔ w.toBitVec.getLsbD j = false := by
  have e : (w.toUInt64 >>> s).toInt64.toBitVec = w.toBitVec >>> j := by
    apply BitVec.eq_of_toNat_eq
    show (w.toUInt64 >>> s).toNat = _
    rw [UInt64.toNat_shiftRight, hs, Nat.mod_eq_of_lt hj, BitVec.toNat_ushiftRight]
    rfl
  rw [← Int64.toBitVec_inj, Int64.toBitVec_and, e]
  show w.toBitVec >>> j &&& 1#64 = 0#64 ↔ _
  constructor
  · intro h
    have t := congrArg (fun x => x.getLsbD 0) h
    simpa using t
  · intro h
    apply BitVec.eq_of_getLsbD_eq
    intro i hi
    cases i with
    | zero => simp [h]
    | succ i => simp
theorem ts_or {w m : Int64} {j : Nat} (hj : j < 64) (hm : m.toBitVec = BitVec.twoPow 64 j) : (w ||| m) = w ↔ w.toBitVec.getLsbD j = true := by
  rw [← Int64.toBitVec_inj, Int64.toBitVec_or, hm]
  constructor
  · intro h
    have t := congrArg (fun x => x.getLsbD j) h
    simp only [BitVec.getLsbD_or, BitVec.getLsbD_twoPow] at t
    simpa [hj] using t.symm
  · intro h
    apply BitVec.eq_of_getLsbD_eq
    intro i hi
    rw [BitVec.getLsbD_or, BitVec.getLsbD_twoPow]
    by_cases e : j = i
    · subst e; rw [h, Bool.true_or]
    · simp [e]
theorem ts_and {w m : Int64} {j : Nat} (hj : j < 64) (hm : m.toBitVec = BitVec.twoPow 64 j) : (w &&& (m ^^^ (-1))) = w ↔ w.toBitVec.getLsbD j = false := by
  have ha : (-1 : Int64).toBitVec = BitVec.allOnes 64 := by decide
  rw [← Int64.toBitVec_inj, Int64.toBitVec_and, Int64.toBitVec_xor, hm, ha]
  constructor
  · intro h
    have t := congrArg (fun x => x.getLsbD j) h
    simp only [BitVec.getLsbD_and, BitVec.getLsbD_xor, BitVec.getLsbD_twoPow, BitVec.getLsbD_allOnes] at t
    simpa [hj] using t.symm
  · intro h
    apply BitVec.eq_of_getLsbD_eq
    intro i hi
    rw [BitVec.getLsbD_and, BitVec.getLsbD_xor, BitVec.getLsbD_twoPow, BitVec.getLsbD_allOnes]
    by_cases e : j = i
    · subst e; rw [h, Bool.false_and]
    · simp [e, hi]
/-! ===== lN n to 2^64: shifts, and, or, masks, one bit ===== -/
theorem wb_tb (n : Nat) : (lN n).toBitVec = BitVec.ofNat 64 n := rfl
theorem wb_inj {a b : Int64} (h : a.toBitVec = b.toBitVec) : a = b := Int64.toBitVec_inj.mp h
theorem wb_tn {n : Nat} (h : n < 2 ^ 64) : (lN n).toBitVec.toNat = n := by rw [wb_tb, BitVec.toNat_ofNat, Nat.mod_eq_of_lt h]
theorem wb_of (x : Int64) : ∃ n, n < 2 ^ 64 ∧ x = lN n := ⟨x.toBitVec.toNat, x.toBitVec.isLt, wb_inj (by rw [wb_tb]; simp)⟩
theorem wb_of32 (x : Int32) : ∃ n, n < 2 ^ 32 ∧ x = nI n := ⟨x.toBitVec.toNat, x.toBitVec.isLt, Int32.toBitVec_inj.mp (by show _ = BitVec.ofNat 32 _; simp)⟩
theorem wb_c : ∀ k, k < 64 → ((nI k).toInt64 &&& 63) = lN k := by decide +kernel
theorem wb_cu : ∀ k, k < 64 → ((nI k).toInt64.toUInt64 &&& Int64.toUInt64 63) = UInt64.ofNat k := by decide +kernel
theorem wb_sm : ∀ k, k < 64 → (BitVec.ofNat 64 k).smod 64 = BitVec.ofNat 64 k := by decide +kernel
theorem wb_pw {a b : Nat} (h : a ≤ b) : 2 ^ b = 2 ^ a * 2 ^ (b - a) := by rw [← Nat.pow_add]; congr 1; omega
theorem wb_lt2 {a b : Nat} (h : a < b) : 2 ^ a < 2 ^ b := Nat.pow_lt_pow_right (by decide) h
theorem wb_mod (n : Nat) : lN n = lN (n % 2 ^ 64) := wb_inj (by rw [wb_tb, wb_tb]; apply BitVec.eq_of_toNat_eq; rw [BitVec.toNat_ofNat, BitVec.toNat_ofNat, Nat.mod_mod])
theorem wb_shr {n k : Nat} (hn : n < 2 ^ 64) (hk : k < 64) : ((lN n).toUInt64 >>> ((nI k).toInt64.toUInt64 &&& Int64.toUInt64 63)).toInt64 = lN (n / 2 ^ k) := by
  rw [wb_cu k hk]
  apply wb_inj
  apply BitVec.eq_of_toNat_eq
  show ((lN n).toUInt64 >>> UInt64.ofNat k).toNat = (BitVec.ofNat 64 _).toNat
  have h1 : (UInt64.ofNat k).toNat = k := by
    show (BitVec.ofNat 64 k).toNat = k
    rw [BitVec.toNat_ofNat, Nat.mod_eq_of_lt (by omega)]
  have h2 : (lN n).toUInt64.toNat = n := wb_tn hn
  rw [UInt64.toNat_shiftRight, h1, h2, Nat.mod_eq_of_lt hk, Nat.shiftRight_eq_div_pow, BitVec.toNat_ofNat, Nat.mod_eq_of_lt (Nat.lt_of_le_of_lt (Nat.div_le_self _ _) hn)]
theorem wb_shl (n : Nat) {k : Nat} (hk : k < 64) : lN n <<< ((nI k).toInt64 &&& 63) = lN (n * 2 ^ k) := by
  rw [wb_c k hk]
  apply wb_inj
  rw [Int64.toBitVec_shiftLeft, wb_tb, wb_tb, wb_tb, wb_sm k hk]
  apply BitVec.eq_of_toNat_eq
  rw [BitVec.shiftLeft_eq', BitVec.toNat_shiftLeft, BitVec.toNat_ofNat, BitVec.toNat_ofNat, BitVec.toNat_ofNat, Nat.mod_eq_of_lt (show k < 2 ^ 64 by omega), Nat.shiftLeft_eq, Nat.mul_mod, Nat.mod_mod, ← Nat.mul_mod]
theorem wb_and {a b : Nat} (ha : a < 2 ^ 64) (hb : b < 2 ^ 64) : lN a &&& lN b = lN (a &&& b) := by
  apply wb_inj
  rw [Int64.toBitVec_and, wb_tb, wb_tb, wb_tb]
  apply BitVec.eq_of_toNat_eq
  rw [BitVec.toNat_and, BitVec.toNat_ofNat, BitVec.toNat_ofNat, BitVec.toNat_ofNat, Nat.mod_eq_of_lt ha, Nat.mod_eq_of_lt hb, Nat.mod_eq_of_lt (Nat.and_lt_two_pow _ hb)]
theorem wb_or {a b : Nat} (ha : a < 2 ^ 64) (hb : b < 2 ^ 64) : lN a ||| lN b = lN (a ||| b) := by
  apply wb_inj
  rw [Int64.toBitVec_or, wb_tb, wb_tb, wb_tb]
  apply BitVec.eq_of_toNat_eq
  rw [BitVec.toNat_or, BitVec.toNat_ofNat, BitVec.toNat_ofNat, BitVec.toNat_ofNat, Nat.mod_eq_of_lt ha, Nat.mod_eq_of_lt hb, Nat.mod_eq_of_lt (Nat.or_lt_two_pow ha hb)]
theorem wb_mask {n k : Nat} (hn : n < 2 ^ 64) (hk : k < 64) : lN n &&& lN (2 ^ k - 1) = lN (n % 2 ^ k) := by
  rw [wb_and hn (by have := wb_lt2 hk; omega), Nat.and_two_pow_sub_one_eq_mod]
theorem wb_a1 {n : Nat} (hn : n < 2 ^ 64) : lN n &&& 1 = lN (n % 2) := wb_mask (k := 1) hn (by decide)
theorem wb_bit {n k : Nat} (hn : n < 2 ^ 64) (hk : k < 64) : ((lN n).toUInt64 >>> ((nI k).toInt64.toUInt64 &&& Int64.toUInt64 63)).toInt64 &&& 1 = lN (n / 2 ^ k % 2) := by
  rw [wb_shr hn hk, wb_a1 (Nat.lt_of_le_of_lt (Nat.div_le_self _ _) hn)]
theorem wb_xor {q k : Nat} (hk : k < 63) (h : 2 ^ k ≤ q) (h2 : q < 2 ^ (k + 1)) : lN q ^^^ lN (2 ^ k) = lN (q - 2 ^ k) := by
  obtain ⟨r, rfl⟩ : ∃ r, q = 2 ^ k + r := ⟨q - 2 ^ k, by omega⟩
  have hr : r < 2 ^ k := by rw [Nat.pow_succ] at h2; omega
  have hx : (2 ^ k + r) ^^^ 2 ^ k = r := by
    apply Nat.eq_of_testBit_eq
    intro i
    rw [Nat.testBit_xor, Nat.testBit_two_pow]
    rcases Nat.lt_trichotomy i k with h | h | h
    · rw [Nat.testBit_two_pow_add_gt h]
      simp [show ¬ k = i by omega]
    · subst h
      rw [Nat.testBit_two_pow_add_eq]
      simp
    · have a1 : 2 ^ (k + 1) ≤ 2 ^ i := Nat.pow_le_pow_right (by decide) h
      rw [Nat.testBit_lt_two_pow (show 2 ^ k + r < 2 ^ i by omega), Nat.testBit_lt_two_pow (show r < 2 ^ i by omega)]
      simp [show ¬ k = i by omega]
  have b1 := wb_lt2 (show k + 1 < 64 by omega)
  have b2 := wb_lt2 (show k < 64 by omega)
  apply wb_inj
  rw [Int64.toBitVec_xor, wb_tb, wb_tb, wb_tb]
  apply BitVec.eq_of_toNat_eq
  rw [BitVec.toNat_xor, BitVec.toNat_ofNat, BitVec.toNat_ofNat, BitVec.toNat_ofNat, Nat.mod_eq_of_lt (by omega : 2 ^ k + r < 2 ^ 64), Nat.mod_eq_of_lt b2, hx, Nat.add_sub_cancel_left, Nat.mod_eq_of_lt (by omega)]
/-! ===== lN: masks, 'or' of parts that don't overlap is a sum ===== -/
end
section
/-! BASE: a contract over a fixed world of cells, its calls, its start and its end; array rows with counted places -/
/-- a truth value as the machine has it -/
def bI (b : Bool) : Int32 := if b then 1 else 0
theorem bI_narrow (b : Bool) : narrow .boolean (.int (bI b)) = .int (bI b) := by cases b <;> rfl
theorem bI_fits (b : Bool) : fits .boolean (.int (bI b)) = true := by cases b <;> rfl
theorem bI_nar (b : Bool) : vp_nar .boolean (bI b) = bI b := by cases b <;> rfl
theorem bI_eq0 (b : Bool) : bI b = 0 ↔ b = false := by cases b <;> decide
theorem bI_ne0 (b : Bool) : ¬ bI b = 0 ↔ b = true := by cases b <;> decide
/-- the rooms: a level above a call is one frame and forty words more -/
abbrev rmN (n : Nat) : Room := { frames := n, cells := 0, slots := 0, locals := 40 * n }
/-- what a method promises at its end: the answer r, the cells w', nothing else changed -/
abbrev CtQ (D : va_G) (cl : List vw_C) (A : Nat → Prop) (w' : va_W) (r : Option Value) : Array Value → State → Outcome → State → Prop :=
  fun _ st oc t => (oc = .returned r ∧ va_P D cl w' t.heap ∧ va_D A w') ∧ va_F A st t
/-- the contract: from any heap that holds the cells w, called with av, y answers r and the heap holds the cells w' -/
def Ct (l : Launch) (y : MethodName) (ws : List Cond) (rm : Room) (D : va_G) (cl : List vw_C) (tys : List (ClassId × FieldType)) (av : List Value) (w w' : va_W) (r : Option Value) : Prop :=
  ∀ sz : Nat, Met l y ws rm (va_Pc av (fun U => U.heap.size = sz ∧ va_P D cl w U.heap ∧ va_K D cl tys U ∧ va_D (fun _ => True) w)) (CtQ D cl (va_A w sz) w' r) 0 0 (va_A w sz)
theorem ct_blind {D : va_G} {cl : List vw_C} {tys : List (ClassId × FieldType)} {av : List Value} {w : va_W} {sz : Nat} : FrameBlind (va_Pc av (fun U => U.heap.size = sz ∧ va_P D cl w U.heap ∧ va_K D cl tys U ∧ va_D (fun _ => True) w)) :=
  fun a U g mk q => by
    obtain ⟨q0, q1, qP, qK, qD⟩ := q
    exact ⟨q0, q1, qP, va_K.moved (u := U) (U := U.calling g mk a) (Vm.Alike.refl U.vm) qK, qD⟩
/-- a method's start -/
theorem Ct.of {l : Launch} {y : MethodName} {ws ws' : List Cond} {rm : Room} {D : va_G} {cl : List vw_C} {tys : List (ClassId × FieldType)} {av : List Value} {w w' : va_W} {r : Option Value} {cc : ByteArray} {maxL : Nat} {ret : Option FieldType} {lv : List (Nat × Value)}
    (hy : plainName y.cls = true) (hw : ws = Cond.code y cc maxL ret :: ws') (hlen : (lg_sl av).length ≤ maxL) (hlv : lv_args 0 av = lv)
    (body : ∀ (p : Program) (e : Env) (s : State) (m : MethodId) (below : List Frame) (meth : Method) (c : Code) (A : Nat → Prop) (ls : Array Slot), p.tables.exec = Jvm.exec → c.code = cc → meth.sig.returnType = ret → c.maxLocals = maxL → (∀ x ∈ ws, x.before av.toArray s = true) → s.vm.findClass y.cls = some m.cls → meth.locks = false →
      va_K D cl tys s → va_P D cl w s.heap → va_D A w → va_S A s.heap s.heap [] → (∀ q : Nat, s.heap.size ≤ q → A q) → lv_has ls maxL lv → W p l e rm s m av.toArray below meth c s.heap [] 0 0 (MQ below (CtQ D cl A w' r) av.toArray s 0 0 A) (F0 m 0 ls [])) : Ct l y ws rm D cl tys av w w' r := by
  intro sz
  refine Met.ofW (cc := cc) (maxL := maxL) (ret := ret) hy hw ?_
  intro p e s m args below meth c s₁ B hml hv
  obtain ⟨rfl, hsz, hP, hK, hD0⟩ := hv
  have hts := atoms_spec (ws := ws) B.pre
  subst hsz
  have hl := lv_entry av (n := maxL) hlen
  rw [hlv] at hl
  rw [lg_entry_eq]
  exact body p e s m below meth c (va_A w s.heap.size) _ B.exec B.bytes B.returns hml hts (findClass_of_methodNamed B.named) B.notSynchronized hK hP (hD0.self) va_S.rf (fun q h => Or.inr h) hl
section CTW
variable {p : Program} {l : Launch} {e : Env} {R : Room} {s : State} {m : MethodId} {args : Array Value} {below : List Frame} {meth : Method} {c : Code} {H : Heap} {locs : List Loc} {cells slots : Nat} {Q : State → Prop}
variable {cc : ByteArray} {pc : Nat} {ls : Array Slot} {rest : List Value} {D : va_G} {cl : List vw_C} {A : Nat → Prop} {tys : List (ClassId × FieldType)} {H0 : Heap}
/-- the number on top under another name -/
theorem lv_eqi {x y : Int32} (h : x = y) (k : W p l e R s m args below meth c H locs cells slots Q (F0 m pc ls (.int y :: rest))) : W p l e R s m args below meth c H locs cells slots Q (F0 m pc ls (.int x :: rest)) := h ▸ k
theorem lv_eql {x y : Int64} (h : x = y) (k : W p l e R s m args below meth c H locs cells slots Q (F0 m pc ls (.long y :: rest))) : W p l e R s m args below meth c H locs cells slots Q (F0 m pc ls (.long x :: rest)) := h ▸ k
/-- the world under another name -/
theorem wd_eq {w w' : va_W} (h : w = w') (hP : va_P D cl w H) (hD : va_D A w) : va_P D cl w' H ∧ va_D A w' := by subst h; exact ⟨hP, hD⟩
/-- behind a call -/
theorem ct_back {st0 : List Value} {a : Array Value} {A1 : Nat → Prop} {free : Addr → Prop} {w' : va_W} {r : Option Value} (hr : va_Run p l e R s m args below meth c H locs cells slots 0 0 (F0 m pc ls st0) rest (CtQ D cl A1 w' r a) free) (hS : va_S A H0 H locs) (hA : ∀ q, A1 q → A q) (hf : ∀ q, free q → A q)
    (kk : ∀ (H1 : Heap) (locs1 : List Loc), va_P D cl w' H1 → va_D A1 w' → (∀ q : Nat, q < H.size → ¬ A1 q → H1[q]? = H[q]?) → va_S A H0 H1 locs1 → W p l e R s m args below meth c H1 locs1 cells slots Q (F0 m (pc + 3) ls (r.toList ++ rest))) : W p l e R s m args below meth c H locs cells slots Q (F0 m pc ls st0) := by
  intro T hT X
  obtain ⟨v, st₀, t, T', L, h0, X', hL, e1, e2, ⟨⟨hv, hP, hD⟩, hz, hk⟩, st⟩ := hr T hT X
  cases hv
  rw [h0] at hz hk
  obtain ⟨t2, a1, b1⟩ := kk T'.heap (locs ++ L) (by rw [e1]; exact hP) hD (fun q h1 h2 => by rw [e1]; exact hk q h1 h2)
    ⟨Nat.le_trans hS.1 (by rw [e1]; exact hz), fun q h1 h2 => by rw [e1, hk q (Nat.lt_of_lt_of_le h1 hS.1) (fun z => h2 (hA q z))]; exact hS.2.1 q h1 h2, fun q hq => by
      rcases List.mem_append.mp hq with h | h
      · exact hS.2.2 q h
      · exact hf _ (hL q h)⟩ T' rfl X'
  exact ⟨t2, st t2 a1, b1⟩
theorem ct_free {w : va_W} (hD : va_D A w) (hS : va_S A H0 H locs) (hA : ∀ q : Nat, H0.size ≤ q → A q) : ∀ q, va_A w H.size q → A q := by
  intro q hq
  rcases hq with ⟨k, ee, hk⟩ | hq
  · exact hD.2 k _ hk
  · exact hA q (Nat.le_trans hS.1 hq)
/-- a call of an object's method over the caller's own world -/
theorem ct_callV {y : MethodName} {bytes : ByteArray} {maxL nL n index : Nat} {ret : Option FieldType} {ws Ts : List Cond} {rm : Room} {own C : String} {b : Addr} {As st0 : List Value} {w w' : va_W} {r : Option Value}
    (S : CallFix p m c cc nL s args Ts own) (hM : Ct l y ws rm D cl tys (.ref b :: As) w w' r) (cw : CallW R s args own C index y bytes maxL ret ws rm 0 0 n) (q0 : Nat) {ci : Nat} {fs : List Value} {T : u_T} {N : Nat} (he : w[q0]? = some (b, .inr (ci, fs))) (hc : cl[ci]? = some (C, T, N))
    (hK : va_K D cl tys s) (hP : va_P D cl w H) (hD : va_D A w) (hS : va_S A H0 H locs) (hA : ∀ q : Nat, H0.size ≤ q → A q) (hn : As.length = n) (hsize : ls.size = nL) (hst : st0 = As.reverse ++ .ref b :: rest) (hW : (rest.map fun v => v.category).sum ≤ 8) (hdg : decode cc pc = .ok (.invokevirtual index, 3)) (hf : cells ≤ R.cells ∧ slots ≤ R.slots)
    (kk : ∀ (H1 : Heap) (locs1 : List Loc), va_P D cl w' H1 → va_D A w' → va_S A H0 H1 locs1 → W p l e R s m args below meth c H1 locs1 cells slots Q (F0 m (pc + 3) ls (r.toList ++ rest))) : W p l e R s m args below meth c H locs cells slots Q (F0 m pc ls st0) := by
  have hF := ct_free hD hS hA
  refine ct_back (A1 := va_A w H.size) (va_runV (As := As) (rest := rest) S (hM H.size) cw ⟨ct_blind, va_recv hK hP hc he, fun U hU hW => ⟨rfl, by rw [hU], by rw [hU]; exact hP, va_K.moved hW.alike hK, hD.weaken (fun _ _ _ _ => trivial)⟩⟩ rfl hn hsize hst (by simpa using hW) hdg hf) hS hF hF ?_
  intro H1 locs1 hP1 hD1 hk1 hS1
  exact kk H1 locs1 hP1 (hD1.weaken (fun _ q _ h => hF q.1 h)) hS1
/-- a call of a static method that looks at no cell -/
theorem ct_callS {y : MethodName} {bytes : ByteArray} {maxL nL n index : Nat} {ret : Option FieldType} {ws Ts : List Cond} {rm : Room} {own : String} {As st0 : List Value} {w w' : va_W} {r : Option Value}
    (S : CallFix p m c cc nL s args Ts own) (hM : Ct l y ws rm D cl tys As w w' r) (cw : CallB R s args own index y bytes maxL ret ws rm 0 0 n ∧ (Cond.static y).before args s = true)
    (hK : va_K D cl tys s) (hP : va_P D cl w H) (hD : va_D A w) (hS : va_S A H0 H locs) (hA : ∀ q : Nat, H0.size ≤ q → A q) (hn : As.length = n) (hsize : ls.size = nL) (hst : st0 = As.reverse ++ rest) (hW : (rest.map fun v => v.category).sum ≤ 8) (hdg : decode cc pc = .ok (.invokestatic index, 3)) (hf : cells ≤ R.cells ∧ slots ≤ R.slots)
    (kk : ∀ (H1 : Heap) (locs1 : List Loc), va_P D cl w' H1 → va_D A w' → va_S A H0 H1 locs1 → W p l e R s m args below meth c H1 locs1 cells slots Q (F0 m (pc + 3) ls (r.toList ++ rest))) : W p l e R s m args below meth c H locs cells slots Q (F0 m pc ls st0) := by
  have hF := ct_free hD hS hA
  refine ct_back (A1 := va_A w H.size) (va_runS (As := As) (rest := rest) S (hM H.size) cw ⟨ct_blind, fun U hU hW => ⟨rfl, by rw [hU], by rw [hU]; exact hP, va_K.moved hW.alike hK, hD.weaken (fun _ _ _ _ => trivial)⟩⟩ rfl hn hsize hst (by simpa using hW) hdg hf) hS hF hF ?_
  intro H1 locs1 hP1 hD1 hk1 hS1
  exact kk H1 locs1 hP1 (hD1.weaken (fun _ q _ h => hF q.1 h)) hS1
/-- a method's ends -/
theorem ct_endi {w1 w' : va_W} {r : Option Value} {v : Int32} {ty : FieldType} (hexec : p.tables.exec = Jvm.exec) (hb : c.code = cc) (hr : meth.sig.returnType = some ty) (hlocks : meth.locks = false) (hn : narrow ty (.int v) = .int v) (hP : va_P D cl w1 H) (hD : va_D A w1) (hS : va_S A s.heap H locs) (hw : w1 = w') (hv : some (.int v) = r) (hdg : decode cc pc = .ok (.ireturn, 1)) :
    W p l e R s m args below meth c H locs 0 0 (MQ below (CtQ D cl A w' r) args s 0 0 A) (F0 m pc ls [.int v]) := by
  subst hw; subst hv
  exact W.zret hexec hb hr hn (fun t ht hW => ⟨⟨rfl, by rw [ht]; exact hP, hD⟩, hS.F ht⟩) hS.2.2 hdg hlocks
theorem ct_endl {w1 w' : va_W} {r : Option Value} {v : Int64} (hexec : p.tables.exec = Jvm.exec) (hb : c.code = cc) (hr : meth.sig.returnType = some .long) (hlocks : meth.locks = false) (hP : va_P D cl w1 H) (hD : va_D A w1) (hS : va_S A s.heap H locs) (hw : w1 = w') (hv : some (.long v) = r) (hdg : decode cc pc = .ok (.lreturn, 1)) :
    W p l e R s m args below meth c H locs 0 0 (MQ below (CtQ D cl A w' r) args s 0 0 A) (F0 m pc ls [.long v]) := by
  subst hw; subst hv
  exact W.lret hexec hb hr (fun t ht hW => ⟨⟨rfl, by rw [ht]; exact hP, hD⟩, hS.F ht⟩) hS.2.2 hdg hlocks
theorem ct_endv {w1 w' : va_W} {r : Option Value} (hexec : p.tables.exec = Jvm.exec) (hb : c.code = cc) (hr : meth.sig.returnType = none) (hlocks : meth.locks = false) (hP : va_P D cl w1 H) (hD : va_D A w1) (hS : va_S A s.heap H locs) (hw : w1 = w') (hv : none = r) (hdg : decode cc pc = .ok (.return_, 1)) :
    W p l e R s m args below meth c H locs 0 0 (MQ below (CtQ D cl A w' r) args s 0 0 A) (F0 m pc ls []) := by
  subst hw; subst hv
  exact W.vret hexec hb hr (fun t ht hW => ⟨⟨rfl, by rw [ht]; exact hP, hD⟩, hS.F ht⟩) hS.2.2 hdg hlocks
/-- array rows at a counted place -/
theorem wx_iald {ws : va_W} {a : Nat} (hexec : p.tables.exec = Jvm.exec) (hb : c.code = cc) (hK : va_K D cl tys s) (hP : va_P D cl ws H) (q0 t0 : Nat) {cA : ClassId} {n : Nat} {f : Nat → Int32} (ha : ws[q0]? = some (a, .inl (cA, n, .inl f))) (ht : tys[t0]? = some (cA, .int)) {i : Nat} (hi : i < n) (hn : n < 2 ^ 31) (hdg : decode cc pc = .ok (.iaload, 1))
    (kk : W p l e R s m args below meth c H locs cells slots Q (F0 m (pc + 1) ls (.int (f i) :: rest))) : W p l e R s m args below meth c H locs cells slots Q (F0 m pc ls (.int (nI i) :: .ref a :: rest)) :=
  va_iald hexec hb hK hP q0 t0 ha ht (vp_in_nI hi hn) hdg (by rw [nI_clamp (Nat.lt_trans hi hn)]; exact kk)
theorem wx_bald {ws : va_W} {a : Nat} (hexec : p.tables.exec = Jvm.exec) (hb : c.code = cc) (hK : va_K D cl tys s) (hP : va_P D cl ws H) (q0 t0 : Nat) {cA : ClassId} {n : Nat} {f : Nat → Int32} (ha : ws[q0]? = some (a, .inl (cA, n, .inl f))) (ht : tys[t0]? = some (cA, .byte)) {i : Nat} (hi : i < n) (hn : n < 2 ^ 31) (hdg : decode cc pc = .ok (.baload, 1))
    (kk : W p l e R s m args below meth c H locs cells slots Q (F0 m (pc + 1) ls (.int (f i) :: rest))) : W p l e R s m args below meth c H locs cells slots Q (F0 m pc ls (.int (nI i) :: .ref a :: rest)) :=
  va_bald hexec hb hK hP q0 t0 ha ht (vp_in_nI hi hn) hdg (by rw [nI_clamp (Nat.lt_trans hi hn)]; exact kk)
theorem wx_zald {ws : va_W} {a : Nat} (hexec : p.tables.exec = Jvm.exec) (hb : c.code = cc) (hK : va_K D cl tys s) (hP : va_P D cl ws H) (q0 t0 : Nat) {cA : ClassId} {n : Nat} {f : Nat → Int32} (ha : ws[q0]? = some (a, .inl (cA, n, .inl f))) (ht : tys[t0]? = some (cA, .boolean)) {i : Nat} (hi : i < n) (hn : n < 2 ^ 31) (hdg : decode cc pc = .ok (.baload, 1))
    (kk : W p l e R s m args below meth c H locs cells slots Q (F0 m (pc + 1) ls (.int (f i) :: rest))) : W p l e R s m args below meth c H locs cells slots Q (F0 m pc ls (.int (nI i) :: .ref a :: rest)) :=
  va_zald hexec hb hK hP q0 t0 ha ht (vp_in_nI hi hn) hdg (by rw [nI_clamp (Nat.lt_trans hi hn)]; exact kk)
theorem wx_lald {ws : va_W} {a : Nat} (hexec : p.tables.exec = Jvm.exec) (hb : c.code = cc) (hK : va_K D cl tys s) (hP : va_P D cl ws H) (q0 t0 : Nat) {cA : ClassId} {n : Nat} {f : Nat → Int64} (ha : ws[q0]? = some (a, .inl (cA, n, .inr (.inl f)))) (ht : tys[t0]? = some (cA, .long)) {i : Nat} (hi : i < n) (hn : n < 2 ^ 31) (hdg : decode cc pc = .ok (.laload, 1))
    (kk : W p l e R s m args below meth c H locs cells slots Q (F0 m (pc + 1) ls (.long (f i) :: rest))) : W p l e R s m args below meth c H locs cells slots Q (F0 m pc ls (.int (nI i) :: .ref a :: rest)) :=
  va_lald hexec hb hK hP q0 t0 ha ht (vp_in_nI hi hn) hdg (by rw [nI_clamp (Nat.lt_trans hi hn)]; exact kk)
theorem wx_iast {ws : va_W} {a : Nat} (hexec : p.tables.exec = Jvm.exec) (hb : c.code = cc) (hK : va_K D cl tys s) (hP : va_P D cl ws H) (hD : va_D A ws) (hS : va_S A H0 H locs) (q0 t0 : Nat) {cA : ClassId} {n : Nat} {f : Nat → Int32} (ha : ws[q0]? = some (a, .inl (cA, n, .inl f))) (ht : tys[t0]? = some (cA, .int)) {i : Nat} {x : Int32} (hi : i < n) (hn : n < 2 ^ 31) (hdg : decode cc pc = .ok (.iastore, 1))
    (kk : ∀ (H1 : Heap) (locs1 : List Loc), va_P D cl (ws.set q0 (a, .inl (cA, n, .inl (upd f i x)))) H1 → va_D A (ws.set q0 (a, .inl (cA, n, .inl (upd f i x)))) → va_S A H0 H1 locs1 → W p l e R s m args below meth c H1 locs1 cells slots Q (F0 m (pc + 1) ls rest)) : W p l e R s m args below meth c H locs cells slots Q (F0 m pc ls (.int x :: .int (nI i) :: .ref a :: rest)) :=
  va_iast hexec hb hK hP hD hS q0 t0 ha ht (vp_in_nI hi hn) hdg (by rw [nI_clamp (Nat.lt_trans hi hn)]; exact kk)
theorem wx_bast {ws : va_W} {a : Nat} (hexec : p.tables.exec = Jvm.exec) (hb : c.code = cc) (hK : va_K D cl tys s) (hP : va_P D cl ws H) (hD : va_D A ws) (hS : va_S A H0 H locs) (q0 t0 : Nat) {cA : ClassId} {n : Nat} {f : Nat → Int32} (ha : ws[q0]? = some (a, .inl (cA, n, .inl f))) (ht : tys[t0]? = some (cA, .byte)) {i : Nat} {x : Int32} (hi : i < n) (hn : n < 2 ^ 31) (hdg : decode cc pc = .ok (.bastore, 1))
    (kk : ∀ (H1 : Heap) (locs1 : List Loc), va_P D cl (ws.set q0 (a, .inl (cA, n, .inl (upd f i (x.toInt8.toInt32))))) H1 → va_D A (ws.set q0 (a, .inl (cA, n, .inl (upd f i (x.toInt8.toInt32))))) → va_S A H0 H1 locs1 → W p l e R s m args below meth c H1 locs1 cells slots Q (F0 m (pc + 1) ls rest)) : W p l e R s m args below meth c H locs cells slots Q (F0 m pc ls (.int x :: .int (nI i) :: .ref a :: rest)) :=
  va_bast hexec hb hK hP hD hS q0 t0 ha ht (vp_in_nI hi hn) hdg (by rw [nI_clamp (Nat.lt_trans hi hn), vp_nar_byte]; exact kk)
theorem wx_zast {ws : va_W} {a : Nat} (hexec : p.tables.exec = Jvm.exec) (hb : c.code = cc) (hK : va_K D cl tys s) (hP : va_P D cl ws H) (hD : va_D A ws) (hS : va_S A H0 H locs) (q0 t0 : Nat) {cA : ClassId} {n : Nat} {f : Nat → Int32} (ha : ws[q0]? = some (a, .inl (cA, n, .inl f))) (ht : tys[t0]? = some (cA, .boolean)) {i : Nat} {x : Bool} (hi : i < n) (hn : n < 2 ^ 31) (hdg : decode cc pc = .ok (.bastore, 1))
    (kk : ∀ (H1 : Heap) (locs1 : List Loc), va_P D cl (ws.set q0 (a, .inl (cA, n, .inl (upd f i (bI x))))) H1 → va_D A (ws.set q0 (a, .inl (cA, n, .inl (upd f i (bI x))))) → va_S A H0 H1 locs1 → W p l e R s m args below meth c H1 locs1 cells slots Q (F0 m (pc + 1) ls rest)) : W p l e R s m args below meth c H locs cells slots Q (F0 m pc ls (.int (bI x) :: .int (nI i) :: .ref a :: rest)) :=
  va_zast hexec hb hK hP hD hS q0 t0 ha ht (vp_in_nI hi hn) hdg (by rw [nI_clamp (Nat.lt_trans hi hn), bI_nar]; exact kk)
theorem wx_last {ws : va_W} {a : Nat} (hexec : p.tables.exec = Jvm.exec) (hb : c.code = cc) (hK : va_K D cl tys s) (hP : va_P D cl ws H) (hD : va_D A ws) (hS : va_S A H0 H locs) (q0 t0 : Nat) {cA : ClassId} {n : Nat} {f : Nat → Int64} (ha : ws[q0]? = some (a, .inl (cA, n, .inr (.inl f)))) (ht : tys[t0]? = some (cA, .long)) {i : Nat} {x : Int64} (hi : i < n) (hn : n < 2 ^ 31) (hdg : decode cc pc = .ok (.lastore, 1))
    (kk : ∀ (H1 : Heap) (locs1 : List Loc), va_P D cl (ws.set q0 (a, .inl (cA, n, .inr (.inl (vp_updL f i x))))) H1 → va_D A (ws.set q0 (a, .inl (cA, n, .inr (.inl (vp_updL f i x))))) → va_S A H0 H1 locs1 → W p l e R s m args below meth c H1 locs1 cells slots Q (F0 m (pc + 1) ls rest)) : W p l e R s m args below meth c H locs cells slots Q (F0 m pc ls (.long x :: .int (nI i) :: .ref a :: rest)) :=
  va_last hexec hb hK hP hD hS q0 t0 ha ht (vp_in_nI hi hn) hdg (by rw [nI_clamp (Nat.lt_trans hi hn)]; exact kk)
theorem bI_up (g : Nat → Bool) (i : Nat) (x : Bool) : upd (fun j => bI (g j)) i (bI x) = fun j => bI (va_up g i x j) := by
  funext j
  unfold upd va_up
  by_cases h : j = i <;> simp [h]
theorem wx_zastB {ws : va_W} {a : Nat} (hexec : p.tables.exec = Jvm.exec) (hb : c.code = cc) (hK : va_K D cl tys s) (hP : va_P D cl ws H) (hD : va_D A ws) (hS : va_S A H0 H locs) (q0 t0 : Nat) {cA : ClassId} {n : Nat} {g : Nat → Bool} (ha : ws[q0]? = some (a, .inl (cA, n, .inl (fun j => bI (g j))))) (ht : tys[t0]? = some (cA, .boolean)) {i : Nat} {x : Bool} (hi : i < n) (hn : n < 2 ^ 31) (hdg : decode cc pc = .ok (.bastore, 1))
    (kk : ∀ (H1 : Heap) (locs1 : List Loc), va_P D cl (ws.set q0 (a, .inl (cA, n, .inl (fun j => bI (va_up g i x j))))) H1 → va_D A (ws.set q0 (a, .inl (cA, n, .inl (fun j => bI (va_up g i x j))))) → va_S A H0 H1 locs1 → W p l e R s m args below meth c H1 locs1 cells slots Q (F0 m (pc + 1) ls rest)) : W p l e R s m args below meth c H locs cells slots Q (F0 m pc ls (.int (bI x) :: .int (nI i) :: .ref a :: rest)) :=
  wx_zast hexec hb hK hP hD hS q0 t0 ha ht hi hn hdg (by rw [bI_up]; exact kk)
/-- a call over a part of the caller's world -/
theorem ct_callVs {y : MethodName} {bytes : ByteArray} {maxL nL n index : Nat} {ret : Option FieldType} {ws Ts : List Cond} {rm : Room} {own C : String} {b : Addr} {As st0 : List Value} {w wc wr w' : va_W} {tyc : List (ClassId × FieldType)} {r : Option Value}
    (S : CallFix p m c cc nL s args Ts own) (hM : Ct l y ws rm D cl tyc (.ref b :: As) wc w' r) (cw : CallW R s args own C index y bytes maxL ret ws rm 0 0 n) (q0 : Nat) {ci : Nat} {fs : List Value} {T : u_T} {N : Nat} (he : wc[q0]? = some (b, .inr (ci, fs))) (hc : cl[ci]? = some (C, T, N))
    (hK : va_K D cl tys s) (hP : va_P D cl w H) (hD : va_D A w) (hS : va_S A H0 H locs) (hA : ∀ q : Nat, H0.size ≤ q → A q) (isC isR isT : List Nat) (hC : isC.map (fun i => w[i]?) = wc.map some) (hR : isR.map (fun i => w[i]?) = wr.map some) (hnC : va_nd isC = true) (hnR : va_nd isR = true) (hdis : ∀ i ∈ isR, i ∉ isC) (hT : isT.filterMap (fun i => tys[i]?) = tyc)
    (hn : As.length = n) (hsize : ls.size = nL) (hst : st0 = As.reverse ++ .ref b :: rest) (hW : (rest.map fun v => v.category).sum ≤ 8) (hdg : decode cc pc = .ok (.invokevirtual index, 3)) (hf : cells ≤ R.cells ∧ slots ≤ R.slots)
    (kk : ∀ (H1 : Heap) (locs1 : List Loc), va_P D cl (wr ++ w') H1 → va_D A (wr ++ w') → va_S A H0 H1 locs1 → W p l e R s m args below meth c H1 locs1 cells slots Q (F0 m (pc + 3) ls (r.toList ++ rest))) : W p l e R s m args below meth c H locs cells slots Q (F0 m pc ls st0) := by
  have hPc : va_P D cl wc H := by
    intro k q hk
    have h1 : (wc.map some)[k]? = some (some q) := by simp [hk]
    rw [← hC] at h1
    simp only [List.getElem?_map, Option.map_eq_some_iff] at h1
    obtain ⟨i, hi, hq⟩ := h1
    exact hP i q hq
  have hDc := hD.sub isC hnC hC
  have hKc := hK.sub isT hT
  have hF := va_free hD hS hA isC hC
  refine ct_back (A1 := va_A wc H.size) (va_runV (As := As) (rest := rest) S (hM H.size) cw ⟨ct_blind, va_recv hKc hPc hc he, fun U hU hW => ⟨rfl, by rw [hU], by rw [hU]; exact hPc, va_K.moved hW.alike hKc, hDc.weaken (fun _ _ _ _ => trivial)⟩⟩ rfl hn hsize hst (by simpa using hW) hdg hf) hS hF hF ?_
  intro H1 locs1 hP1 hD1 hk1 hS1
  obtain ⟨hP2, hD2⟩ := va_join hP hD isC isR hC hR hnR hdis hk1 hF hP1 hD1
  exact kk H1 locs1 hP2 hD2 hS1
end CTW
/-- a constructor's contract: it makes mc cells of ms slots; the cells behind it are told by post -/
def CtN (l : Launch) (y : MethodName) (ws : List Cond) (rm : Room) (D : va_G) (cl : List vw_C) (av : List Value) (w : va_W) (mc ms : Nat) (post : va_W → List (ClassId × FieldType) → Prop) : Prop :=
  ∀ sz : Nat, Met l y ws rm (va_Pc av (fun U => U.heap.size = sz ∧ va_P D cl w U.heap ∧ va_K D cl [] U ∧ va_D (fun _ => True) w))
    (fun _ st oc t => (oc = .returned none ∧ ∃ (w' : va_W) (tys' : List (ClassId × FieldType)), post w' tys' ∧ va_P D cl w' t.heap ∧ va_K D cl tys' t ∧ va_D (va_A w sz) w') ∧ va_F (va_A w sz) st t) mc ms (va_A w sz)
theorem CtN.of {l : Launch} {y : MethodName} {ws ws' : List Cond} {rm : Room} {D : va_G} {cl : List vw_C} {av : List Value} {w : va_W} {mc ms : Nat} {post : va_W → List (ClassId × FieldType) → Prop} {cc : ByteArray} {maxL : Nat} {lv : List (Nat × Value)}
    (hy : plainName y.cls = true) (hw : ws = Cond.code y cc maxL none :: ws') (hlen : (lg_sl av).length ≤ maxL) (hlv : lv_args 0 av = lv)
    (body : ∀ (p : Program) (e : Env) (s : State) (m : MethodId) (below : List Frame) (meth : Method) (c : Code) (A : Nat → Prop) (ls : Array Slot), p.tables.exec = Jvm.exec → c.code = cc → meth.sig.returnType = none → c.maxLocals = maxL → (∀ x ∈ ws, x.before av.toArray s = true) → s.vm.findClass y.cls = some m.cls → meth.locks = false → meth.name = y.name →
      va_K D cl [] s → va_P D cl w s.heap → va_D A w → va_S A s.heap s.heap [] → (∀ q : Nat, s.heap.size ≤ q → A q) → lv_has ls maxL lv → W p l e rm s m av.toArray below meth c s.heap [] 0 0 (MQ below (fun _ st oc t => (oc = .returned none ∧ ∃ (w' : va_W) (tys' : List (ClassId × FieldType)), post w' tys' ∧ va_P D cl w' t.heap ∧ va_K D cl tys' t ∧ va_D A w') ∧ va_F A st t) av.toArray s mc ms A) (F0 m 0 ls [])) : CtN l y ws rm D cl av w mc ms post := by
  intro sz
  refine Met.ofW (cc := cc) (maxL := maxL) (ret := none) hy hw ?_
  intro p e s m args below meth c s₁ B hml hv
  obtain ⟨rfl, hsz, hP, hK, hD0⟩ := hv
  have hts := atoms_spec (ws := ws) B.pre
  subst hsz
  have hl := lv_entry av (n := maxL) hlen
  rw [hlv] at hl
  rw [lg_entry_eq]
  exact body p e s m below meth c (va_A w s.heap.size) _ B.exec B.bytes B.returns hml hts (findClass_of_methodNamed B.named) B.notSynchronized (name_of_methodNamed B.named B.method).1 hK hP (hD0.self) va_S.rf (fun q h => Or.inr h) hl
section CTN
variable {p : Program} {l : Launch} {e : Env} {R : Room} {s : State} {m : MethodId} {args : Array Value} {below : List Frame} {meth : Method} {c : Code} {H : Heap} {locs : List Loc} {cells slots : Nat} {Q : State → Prop}
variable {cc : ByteArray} {pc : Nat} {ls : Array Slot} {rest : List Value} {D : va_G} {cl : List vw_C} {A : Nat → Prop} {tys : List (ClassId × FieldType)} {H0 : Heap}
theorem ctn_end {w1 : va_W} {post : va_W → List (ClassId × FieldType) → Prop} (hexec : p.tables.exec = Jvm.exec) (hb : c.code = cc) (hr : meth.sig.returnType = none) (hlocks : meth.locks = false) (hK : va_K D cl tys s) (hP : va_P D cl w1 H) (hD : va_D A w1) (hS : va_S A s.heap H locs) (hw : post w1 tys) (hdg : decode cc pc = .ok (.return_, 1)) :
    W p l e R s m args below meth c H locs cells slots (MQ below (fun _ st oc t => (oc = .returned none ∧ ∃ (w' : va_W) (tys' : List (ClassId × FieldType)), post w' tys' ∧ va_P D cl w' t.heap ∧ va_K D cl tys' t ∧ va_D A w') ∧ va_F A st t) args s cells slots A) (F0 m pc ls []) :=
  W.vret hexec hb hr (fun t ht hW => ⟨⟨rfl, w1, tys, hw, by rw [ht]; exact hP, va_K.moved hW.alike hK, hD⟩, hS.F ht⟩) hS.2.2 hdg hlocks
theorem ctn_call {y : MethodName} {bytes : ByteArray} {maxL nL n index mc ms : Nat} {ws Ts : List Cond} {rm : Room} {own : String} {b : Addr} {As st0 : List Value} {w wc wr : va_W} {post : va_W → List (ClassId × FieldType) → Prop}
    (S : CallFix p m c cc nL s args Ts own) (hM : CtN l y ws rm D cl (.ref b :: As) wc mc ms post) (cw : CallB R s args own index y bytes maxL none ws rm mc ms n ∧ y.name = "<init>" ∧ (Cond.instanceMethod y).before args s = true)
    (hK : va_K D cl tys s) (hP : va_P D cl w H) (hD : va_D A w) (hS : va_S A H0 H locs) (hA : ∀ q : Nat, H0.size ≤ q → A q) (isC isR : List Nat) (hC : isC.map (fun i => w[i]?) = wc.map some) (hR : isR.map (fun i => w[i]?) = wr.map some) (hnC : va_nd isC = true) (hnR : va_nd isR = true) (hdis : ∀ i ∈ isR, i ∉ isC)
    (hn : As.length = n) (hsize : ls.size = nL) (hst : st0 = As.reverse ++ .ref b :: rest) (hW : (rest.map fun v => v.category).sum ≤ 8) (hdg : decode cc pc = .ok (.invokespecial index, 3)) (hf : cells + mc ≤ R.cells ∧ slots + ms ≤ R.slots)
    (kk : ∀ (H1 : Heap) (locs1 : List Loc) (w1 : va_W) (tys1 : List (ClassId × FieldType)), post w1 tys1 → va_K D cl (tys ++ tys1) s → va_P D cl (wr ++ w1) H1 → va_D A (wr ++ w1) → va_S A H0 H1 locs1 → W p l e R s m args below meth c H1 locs1 (cells + mc) (slots + ms) Q (F0 m (pc + 3) ls rest)) : W p l e R s m args below meth c H locs cells slots Q (F0 m pc ls st0) := by
  have hPc : va_P D cl wc H := by
    intro k q hk
    have h1 : (wc.map some)[k]? = some (some q) := by simp [hk]
    rw [← hC] at h1
    simp only [List.getElem?_map, Option.map_eq_some_iff] at h1
    obtain ⟨i, hi, hq⟩ := h1
    exact hP i q hq
  have hDc := hD.sub isC hnC hC
  have hKc : va_K D cl [] s := hK.sub [] rfl
  have hF := va_free hD hS hA isC hC
  have hr := va_runI (As := As) (rest := rest) (g := F0 m pc ls st0) (H := H) (locs := locs) (cells := cells) (slots := slots) (below := below) (meth := meth) (e := e) S (hM H.size) cw ⟨ct_blind, fun U hU hW => ⟨rfl, by rw [hU], by rw [hU]; exact hPc, va_K.moved hW.alike hKc, hDc.weaken (fun _ _ _ _ => trivial)⟩⟩ rfl hn hsize hst (by simpa using hW) hdg hf
  intro T hT X
  obtain ⟨v, st₀, t, T', L, h0, X', hL, e1, e2, ⟨⟨hv, w1, tys1, hpo, hP1, hK1, hD1⟩, hz, hk⟩, st⟩ := hr T hT X
  cases hv
  rw [h0] at hz hk
  have hS1 : va_S A H0 T'.heap (locs ++ L) := ⟨Nat.le_trans hS.1 (by rw [e1]; exact hz), fun q h1 h2 => by rw [e1, hk q (Nat.lt_of_lt_of_le h1 hS.1) (fun z => h2 (hF q z))]; exact hS.2.1 q h1 h2, fun q hq => by
      rcases List.mem_append.mp hq with h | h
      · exact hS.2.2 q h
      · exact hF _ (hL q h)⟩
  have hal : s.vm.Alike t.vm := by rw [← e2]; exact X'.warmed.alike
  obtain ⟨hP2, hD2⟩ := va_join (H1 := T'.heap) hP hD isC isR hC hR hnR hdis (fun q h1 h2 => by rw [e1]; exact hk q h1 h2) hF (by rw [e1]; exact hP1) hD1
  obtain ⟨t2, a1, b1⟩ := kk T'.heap (locs ++ L) w1 tys1 hpo (hK.app (va_K.moved hal.symm hK1)) hP2 hD2 hS1 T' rfl X'
  exact ⟨t2, st t2 a1, b1⟩
end CTN
end
section
/-! STATE of the class: the cells of a desk, and what its methods do to them, as numbers and functions -/
/-- the reader: openFirsts, openLasts, openEmpty, separators, depth, state, partFirsts, partLasts, partEmpty -/
abbrev RS : Type := (Nat → Int64) × (Nat → Int64) × (Nat → Bool) × (Nat → Int32) × Nat × Int32 × Int64 × Int64 × Bool
/-- the model: names, nexts, places, firsts, lasts, empty -/
abbrev MS : Type := (Nat → Int32) × (Nat → Int64) × Nat × Int64 × Int64 × Bool
/-- the cells of a desk: addresses h, array classes k, and what they hold -/
def wD (h : Nat → Nat) (k : Nat → ClassId) (tx : Nat → Int32) (ln : Nat) (rd : Int64) (wh : Bool) (cm : Nat) (R : RS) (M : MS) : va_W :=
  [(h 0, .inr (2, [.ref (h 1), .int (nI ln), .ref (h 2), .ref (h 7), .long rd, .int (bI wh), .int (nI cm)])), (h 1, .inl (k 1, 300, .inl tx)), (h 2, .inr (1, [.ref (h 7), .ref (h 3), .ref (h 4), .ref (h 5), .ref (h 6), .int (nI R.2.2.2.2.1), .int R.2.2.2.2.2.1, .long R.2.2.2.2.2.2.1, .long R.2.2.2.2.2.2.2.1, .int (bI R.2.2.2.2.2.2.2.2)])), (h 3, .inl (k 3, 12, .inr (.inl R.1))), (h 4, .inl (k 4, 12, .inr (.inl R.2.1))), (h 5, .inl (k 5, 12, .inl (fun j => bI (R.2.2.1 j)))), (h 6, .inl (k 6, 12, .inl R.2.2.2.1)), (h 7, .inr (0, [.ref (h 8), .ref (h 9), .int (nI M.2.2.1), .long M.2.2.2.1, .long M.2.2.2.2.1, .int (bI M.2.2.2.2.2)])), (h 8, .inl (k 8, 60, .inl M.1)), (h 9, .inl (k 9, 60, .inr (.inl M.2.1)))]
abbrev tyD (k : Nat → ClassId) : List (ClassId × FieldType) := [(k 1, .byte), (k 3, .long), (k 4, .long), (k 5, .boolean), (k 6, .int), (k 8, .int), (k 9, .long)]
/-- whether a set of places holds one -/
def hB (s : Int64) (p : Nat) : Bool := s.toBitVec.getLsbD p
def cnL (a b : Int64) : Nat → Nat → (Nat → Int64) → (Nat → Int64)
  | 0, _, nx => nx
  | n + 1, i, nx => cnL a b n (i + 1) (if hB a i = true then vp_updL nx i (nx i ||| b) else nx)
def nbL (s : Int64) (nx : Nat → Int64) : Nat → Nat → Int64 → Int64
  | 0, _, r => r
  | n + 1, i, r => nbL s nx n (i + 1) (if hB s i = true then r ||| nx i else r)
def pnL (x : Int32) (s : Int64) (nm : Nat → Int32) : Nat → Nat → Int64 → Int64
  | 0, _, r => r
  | n + 1, i, r => pnL x s nm n (i + 1) (if nm i = x ∧ hB s i = true then r ||| ((1 : Int64) <<< ((nI i).toInt64 &&& 63)) else r)
def noL (s : Int64) (nm : Nat → Int32) : Nat → Nat → Int32 → Int32
  | 0, _, r => r
  | n + 1, i, r => noL s nm n (i + 1) (if hB s i = true then r ||| ((1 : Int32) <<< (nm i &&& 31)) else r)
def ntL (s : Int64) (nm : Nat → Int32) : Nat → Nat → Int32 → Int32 → Int32
  | 0, _, _, t => t
  | n + 1, i, o, t => if hB s i = true then ntL s nm n (i + 1) (o ||| ((1 : Int32) <<< (nm i &&& 31))) (t ||| (o &&& ((1 : Int32) <<< (nm i &&& 31)))) else ntL s nm n (i + 1) o t
def ntF (s : Int64) (nm : Nat → Int32) (np : Nat) : Int32 := ntL s nm np 0 0 0
def cpL (nm : Nat → Int32) (nx : Nat → Int64) (np : Nat) : Nat → Nat → Int32 → Int32
  | 0, _, r => r
  | n + 1, i, r => cpL nm nx np n (i + 1) (r ||| ntF (nx i) nm np)
def cpF (nm : Nat → Int32) (nx : Nat → Int64) (np : Nat) (fi : Int64) : Int32 := cpL nm nx np np 0 (ntF fi nm np)
def m_has (np : Nat) (x : Int32) : Bool := if x < 0 then false else if nI np ≤ x then false else true
def m_add : MS → Int32 → MS
  | (nm, nx, np, fi, la, em), x => if 60 ≤ np then (nm, nx, np, fi, la, em) else (upd nm np x, vp_updL nx np 0, np + 1, fi, la, em)
def r_open : RS → RS × Int32
  | (oF, oL, oE, sp, dp, sta, pF, pL, pE) => if 12 ≤ dp then ((oF, oL, oE, sp, dp, sta, pF, pL, pE), 2) else ((oF, oL, oE, upd sp dp 0, dp + 1, 1, pF, pL, pE), 0)
def r_name : RS → MS → Int32 → RS × MS × Int32
  | (oF, oL, oE, sp, dp, sta, pF, pL, pE), (nm, nx, np, fi, la, em), x => if 60 ≤ np then ((oF, oL, oE, sp, dp, sta, pF, pL, pE), (nm, nx, np, fi, la, em), 2)
    else ((oF, oL, oE, sp, dp, 2, (1 : Int64) <<< ((nI np).toInt64 &&& 63), (1 : Int64) <<< ((nI np).toInt64 &&& 63), false), (upd nm np x, vp_updL nx np 0, np + 1, fi, la, em), 0)
def r_sign : RS → MS → Int32 → RS × MS × Int32
  | (oF, oL, oE, sp, dp, sta, pF, pL, pE), (nm, nx, np, fi, la, em), x => if sta = 2 then ((oF, oL, oE, sp, dp, 3, pF, pL, if x = 43 then pE else true), (nm, (if x = 63 then nx else cnL pL pF np 0 nx), np, fi, la, em), 0)
    else ((oF, oL, oE, sp, dp, sta, pF, pL, pE), (nm, nx, np, fi, la, em), 1)
def r_join : RS → MS → Nat → RS × MS
  | (oF, oL, oE, sp, dp, sta, pF, pL, pE), (nm, nx, np, fi, la, em), v => if sp v = 0 then ((vp_updL oF v pF, vp_updL oL v pL, va_up oE v pE, sp, dp, sta, pF, pL, pE), (nm, nx, np, fi, la, em))
    else if sp v = 124 then ((vp_updL oF v (oF v ||| pF), vp_updL oL v (oL v ||| pL), va_up oE v (oE v || pE), sp, dp, sta, pF, pL, pE), (nm, nx, np, fi, la, em))
    else (((if oE v = true then vp_updL oF v (oF v ||| pF) else oF), vp_updL oL v (if pE = true then oL v ||| pL else pL), va_up oE v (oE v && pE), sp, dp, sta, pF, pL, pE), (nm, cnL (oL v) pF np 0 nx, np, fi, la, em))
/-- behind joinPart, at a separator x of the bracket v -/
def r_sepE : RS × MS → Nat → Int32 → RS × MS × Int32
  | ((oF, oL, oE, sp, dp, _, pF, pL, pE), M), v, x => ((oF, oL, oE, upd sp v x, dp, 1, pF, pL, pE), M, 0)
def r_sep (R : RS) (M : MS) (v : Nat) (x : Int32) : RS × MS × Int32 :=
  if R.2.2.2.1 v = 0 then r_sepE (r_join R M v) v x else if R.2.2.2.1 v = x then r_sepE (r_join R M v) v x else (R, M, 1)
def r_closeE : RS × MS → Nat → RS × MS × Int32
  | ((oF, oL, oE, sp, _, _, _, _, _), M), v => ((oF, oL, oE, sp, v, 2, oF v, oL v, oE v), M, 0)
def r_close (R : RS) (M : MS) (v : Nat) : RS × MS × Int32 := r_closeE (r_join R M v) v
def r_isSign (x : Int32) : Bool := if x = 63 then true else if x = 42 then true else if x = 43 then true else false
def r_before (R : RS) (M : MS) (x : Int32) : RS × MS × Int32 :=
  if x = 32 then (R, M, 0) else if x = 40 then ((r_open R).1, M, (r_open R).2) else if x < 97 then (R, M, 1) else if 122 < x then (R, M, 1) else r_name R M (x - 97)
def r_blank : RS → RS
  | (oF, oL, oE, sp, dp, _, pF, pL, pE) => (oF, oL, oE, sp, dp, 3, pF, pL, pE)
def r_take (R : RS) (M : MS) (x : Int32) : RS × MS × Int32 :=
  if R.2.2.2.2.2.1 = 0 then (if x = 40 then ((r_open R).1, M, (r_open R).2) else (R, M, 1))
  else if R.2.2.2.2.2.1 = 1 then r_before R M x
  else if r_isSign x = true then r_sign R M x
  else if R.2.2.2.2.1 = 0 then (R, M, 1)
  else if x = 32 then (r_blank R, M, 0)
  else if x = 41 then r_close R M (R.2.2.2.2.1 - 1)
  else if x = 124 then r_sep R M (R.2.2.2.2.1 - 1) x
  else if x = 44 then r_sep R M (R.2.2.2.2.1 - 1) x else (R, M, 1)
def r_fin : RS → MS → MS × Bool
  | (_, _, _, _, dp, sta, pF, pL, pE), (nm, nx, np, fi, la, em) => if 0 < dp then ((nm, nx, np, fi, la, em), false) else if sta = 0 then ((nm, nx, np, fi, la, em), false) else ((nm, nx, np, pF, pL, pE), true)
def r_begin : RS → RS
  | (oF, oL, oE, sp, _, _, pF, pL, pE) => (oF, oL, oE, sp, 0, 0, pF, pL, pE)
def m_clear : MS → MS
  | (nm, nx, _, _, _, _) => (nm, nx, 0, 0, 0, false)
/-- the byte that put lays for the place j of v, counted from the lowest -/
def byteOf (v : Int64) (j : Nat) : Int32 := (v.toUInt64 >>> ((8 * nI j).toInt64.toUInt64 &&& Int64.toUInt64 63)).toInt64.toInt32.toInt8.toInt32
def ptL (v : Int64) : Nat → Nat → (Nat → Int32) → (Nat → Int32)
  | 0, _, tx => tx
  | j + 1, ln, tx => ptL v j (ln + 1) (upd tx ln (byteOf v j).toInt8.toInt32)
def d_put (tx : Nat → Int32) (ln : Nat) (v : Int64) (n : Int32) : (Nat → Int32) × Nat × Bool :=
  if n < 1 then (tx, ln, false) else if 8 < n then (tx, ln, false) else if 300 < ln + n.toNatClampNeg then (tx, ln, false) else (ptL v n.toNatClampNeg ln tx, ln + n.toNatClampNeg, true)
def rdL (tx : Nat → Int32) (ln : Nat) : Nat → Nat → RS → MS → RS × MS × Int32
  | 0, _, R, M => if (r_fin R M).2 = true then (R, (r_fin R M).1, nI (r_fin R M).1.2.2.1) else (R, (r_fin R M).1, (-1) - nI ln)
  | n + 1, i, R, M => if (r_take R M (tx i)).2.2 = 1 then ((r_take R M (tx i)).1, (r_take R M (tx i)).2.1, (-1) - nI i)
    else if (r_take R M (tx i)).2.2 = 2 then ((r_take R M (tx i)).1, (r_take R M (tx i)).2.1, (-1000) - nI i)
    else rdL tx ln n (i + 1) (r_take R M (tx i)).1 (r_take R M (tx i)).2.1
def d_text (tx : Nat → Int32) (ln : Nat) (R : RS) (M : MS) : RS × MS × Int32 := rdL tx ln ln 0 (r_begin R) (m_clear M)
def d_read (tx : Nat → Int32) (ln : Nat) (R : RS) (M : MS) : RS × MS × Int32 :=
  if 0 ≤ (d_text tx ln R M).2.2 then d_text tx ln R M else ((d_text tx ln R M).1, m_clear (d_text tx ln R M).2.1, (d_text tx ln R M).2.2)
def d_next (nx : Nat → Int64) (np : Nat) (x : Int32) : Int64 := if m_has np x = true then nx x.toNatClampNeg else 0
def d_name (nm : Nat → Int32) (np : Nat) (x : Int32) : Int32 := if m_has np x = true then nm x.toNatClampNeg else -1
def d_reach (M : MS) (rd : Int64) (x : Int32) : Int64 := pnL x rd M.1 M.2.2.1 0 0
theorem bF {b : Bool} (h : b = false) : ¬ b = true := by rw [h]; decide
theorem m_has_nat {np : Nat} {x : Int32} (hnp : np ≤ 60) (h : m_has np x = true) : ∃ j : Nat, j < np ∧ x = nI j := by
  unfold m_has at h
  split at h
  · cases h
  · split at h
    · cases h
    · rename_i h1 h2
      rcases pk_ix x (n := np) (by omega) with q | q | q
      · exact absurd q h1
      · exact absurd q h2
      · exact q
theorem i_m1 (x : Int32) : x + Int32.ofInt (-1) = x - 1 := by rw [Int32.sub_eq_add_neg]; rfl
theorem hB_sh (a : Int64) {i : Nat} (hi : i < 64) : ((a.toUInt64 >>> ((nI i).toInt64.toUInt64 &&& Int64.toUInt64 63)).toInt64 &&& 1) = 0 ↔ hB a i = false := by
  rw [wb_cu i hi]
  exact ts_bit hi (Nat.mod_eq_of_lt (by omega))
theorem hB_of {a : Int64} {i : Nat} (hi : i < 64) (h : ¬ ((a.toUInt64 >>> ((nI i).toInt64.toUInt64 &&& Int64.toUInt64 63)).toInt64 &&& 1) = 0) : hB a i = true := by
  cases hb : hB a i with
  | true => rfl
  | false => exact absurd ((hB_sh a hi).mpr hb) h
theorem hB_not {a : Int64} {i : Nat} (hi : i < 64) (h : ((a.toUInt64 >>> ((nI i).toInt64.toUInt64 &&& Int64.toUInt64 63)).toInt64 &&& 1) = 0) : hB a i = false := (hB_sh a hi).mp h
theorem r_open_dp (R : RS) (h : R.2.2.2.2.1 ≤ 12) : (r_open R).1.2.2.2.2.1 ≤ 12 := by
  obtain ⟨oF, oL, oE, sp, dp, sta, pF, pL, pE⟩ := R
  simp only [r_open]
  split
  · exact h
  · simp only at h ⊢; omega
theorem r_join_dp (R : RS) (M : MS) (v : Nat) : (r_join R M v).1.2.2.2.2.1 = R.2.2.2.2.1 ∧ (r_join R M v).2.2.2.1 = M.2.2.1 := by
  obtain ⟨oF, oL, oE, sp, dp, sta, pF, pL, pE⟩ := R
  obtain ⟨nm, nx, np, fi, la, em⟩ := M
  simp only [r_join]
  repeat' split
  all_goals exact ⟨rfl, rfl⟩
theorem r_name_dp (R : RS) (M : MS) (x : Int32) (h : R.2.2.2.2.1 ≤ 12) (hn : M.2.2.1 ≤ 60) : (r_name R M x).1.2.2.2.2.1 ≤ 12 ∧ (r_name R M x).2.1.2.2.1 ≤ 60 := by
  obtain ⟨oF, oL, oE, sp, dp, sta, pF, pL, pE⟩ := R
  obtain ⟨nm, nx, np, fi, la, em⟩ := M
  simp only [r_name]
  split
  · exact ⟨h, hn⟩
  · simp only at h hn ⊢; omega
theorem r_sign_dp (R : RS) (M : MS) (x : Int32) : (r_sign R M x).1.2.2.2.2.1 = R.2.2.2.2.1 ∧ (r_sign R M x).2.1.2.2.1 = M.2.2.1 := by
  obtain ⟨oF, oL, oE, sp, dp, sta, pF, pL, pE⟩ := R
  obtain ⟨nm, nx, np, fi, la, em⟩ := M
  simp only [r_sign]
  split
  · exact ⟨rfl, rfl⟩
  · exact ⟨rfl, rfl⟩
theorem r_sepE_dp (J : RS × MS) (v : Nat) (x : Int32) : (r_sepE J v x).1.2.2.2.2.1 = J.1.2.2.2.2.1 ∧ (r_sepE J v x).2.1.2.2.1 = J.2.2.2.1 := by
  obtain ⟨⟨oF, oL, oE, sp, dp, sta, pF, pL, pE⟩, M⟩ := J
  exact ⟨rfl, rfl⟩
theorem r_closeE_dp (J : RS × MS) (v : Nat) : (r_closeE J v).1.2.2.2.2.1 = v ∧ (r_closeE J v).2.1.2.2.1 = J.2.2.2.1 := by
  obtain ⟨⟨oF, oL, oE, sp, dp, sta, pF, pL, pE⟩, M⟩ := J
  exact ⟨rfl, rfl⟩
theorem r_take_ok (R : RS) (M : MS) (x : Int32) (h : R.2.2.2.2.1 ≤ 12) (hn : M.2.2.1 ≤ 60) : (r_take R M x).1.2.2.2.2.1 ≤ 12 ∧ (r_take R M x).2.1.2.2.1 ≤ 60 := by
  have hsep : ∀ v, (r_sep R M v x).1.2.2.2.2.1 ≤ 12 ∧ (r_sep R M v x).2.1.2.2.1 ≤ 60 := by
    intro v
    have h1 := r_sepE_dp (r_join R M v) v x
    have h2 := r_join_dp R M v
    unfold r_sep
    repeat' split
    · omega
    · omega
    · exact ⟨h, hn⟩
  have hcl : (r_close R M (R.2.2.2.2.1 - 1)).1.2.2.2.2.1 ≤ 12 ∧ (r_close R M (R.2.2.2.2.1 - 1)).2.1.2.2.1 ≤ 60 := by
    have h1 := r_closeE_dp (r_join R M (R.2.2.2.2.1 - 1)) (R.2.2.2.2.1 - 1)
    have h2 := r_join_dp R M (R.2.2.2.2.1 - 1)
    unfold r_close
    omega
  have hbl : (r_blank R).2.2.2.2.1 = R.2.2.2.2.1 := by
    obtain ⟨oF, oL, oE, sp, dp, sta, pF, pL, pE⟩ := R
    rfl
  have hop := r_open_dp R h
  have hnm := r_name_dp R M (x - 97) h hn
  have hsg := r_sign_dp R M x
  unfold r_take r_before
  repeat' split
  all_goals first | exact ⟨hop, hn⟩ | exact ⟨h, hn⟩ | exact hnm | exact hcl | exact hsep _ | exact ⟨by rw [hsg.1]; exact h, by rw [hsg.2]; exact hn⟩ | exact ⟨by rw [hbl]; exact h, hn⟩
theorem r_begin_ok (R : RS) : (r_begin R).2.2.2.2.1 ≤ 12 := by
  obtain ⟨oF, oL, oE, sp, dp, sta, pF, pL, pE⟩ := R
  exact Nat.zero_le _
theorem m_clear_ok (M : MS) : (m_clear M).2.2.1 ≤ 60 := by
  obtain ⟨nm, nx, np, fi, la, em⟩ := M
  exact Nat.zero_le _
theorem p_count {x : Int32} (h1 : ¬ x < 1) (h8 : ¬ 8 < x) : ∃ q : Nat, 1 ≤ q ∧ q ≤ 8 ∧ x = nI q := by
  have a1 : ¬ x.toInt < 1 := fun z => h1 (Int32.lt_iff_toInt_lt.mpr z)
  have a8 : ¬ 8 < x.toInt := fun z => h8 (Int32.lt_iff_toInt_lt.mpr z)
  refine ⟨x.toInt.toNat, by omega, by omega, ?_⟩
  apply Int32.toInt_inj.mp
  rw [nI_toInt (by omega)]
  omega
theorem r_isSign_k : r_isSign 124 = false ∧ r_isSign 44 = false ∧ r_isSign 41 = false ∧ r_isSign 32 = false := by decide
end
section
/-! The methods of the class: model (laid by program) -/
set_option maxHeartbeats 4000000 in
set_option maxRecDepth 100000 in
theorem k_M_holds (l : Launch) (D : va_G) (h : Nat → Nat) (k : Nat → ClassId) (tx : Nat → Int32) (ln : Nat) (rd : Int64) (wh : Bool) (cm : Nat) (R : RS) (M : MS) (a : Int64) (i : Nat) (hi : i < 64) :
    Ct l yX0_holds wsX0_holds (rmN 0) D vwCl (tyD k) [.long a, .int (nI i)] (wD h k tx ln rd wh cm R M) (wD h k tx ln rd wh cm R M) (some (.int (bI (hB a i)))) := by
  refine Ct.of (cc := cX0_holds) (maxL := 3) (ret := (some .boolean)) (lv := [(0, .long a), (2, .int (nI i))]) (by decide) rfl (Nat.le_of_ble_eq_true rfl) rfl ?_
  intro p e s m below meth c A ls hx hb hr hml hts hown hlocks hK hP hD hS hA hl
  refine lv_lload_n hx hb dX0_holds_0 rfl (lv_at hl 0 rfl) ?_
  refine lv_iload_n hx hb dX0_holds_1 rfl (lv_at hl 1 rfl) ?_
  refine lv_lushr (v := (a.toUInt64 >>> ((nI i).toInt64.toUInt64 &&& Int64.toUInt64 63)).toInt64) hx hb dX0_holds_2 rfl ?_
  refine lv_lconst (v := 1) hx hb dX0_holds_3 (by decide) ?_
  refine lv_land hx hb dX0_holds_4 ?_
  refine lv_lconst (v := 0) hx hb dX0_holds_5 (by decide) ?_
  refine W.lcmp hx hb dX0_holds_6 ?_
  refine lv_if_eq (tgt := 14) hx hb dX0_holds_7 (by decide) (fun c_7 => ?_) (fun c_7 => ?_)
  · have c_7 : ((a.toUInt64 >>> ((nI i).toInt64.toUInt64 &&& Int64.toUInt64 63)).toInt64 &&& 1) = 0 := (lg_cmp_eq _ _).mp c_7
    refine lv_iconst (v := 0) hx hb dX0_holds_14 (by decide) ?_
    exact ct_endi hx hb hr hlocks rfl hP hD hS rfl (by rw [hB_not hi c_7]; rfl) dX0_holds_15
  · have c_7 : ¬ ((a.toUInt64 >>> ((nI i).toInt64.toUInt64 &&& Int64.toUInt64 63)).toInt64 &&& 1) = 0 := fun z => c_7 ((lg_cmp_eq _ _).mpr z)
    refine lv_iconst (v := 1) hx hb dX0_holds_10 (by decide) ?_
    refine lv_goto (tgt := 15) hx hb dX0_holds_11 (by decide) ?_
    exact ct_endi hx hb hr hlocks rfl hP hD hS rfl (by rw [hB_of hi c_7]; rfl) dX0_holds_15

set_option maxHeartbeats 4000000 in
set_option maxRecDepth 100000 in
theorem k_M_clear (l : Launch) (D : va_G) (h : Nat → Nat) (k : Nat → ClassId) (tx : Nat → Int32) (ln : Nat) (rd : Int64) (wh : Bool) (cm : Nat) (R : RS) (nm : Nat → Int32) (nx : Nat → Int64) (np : Nat) (fi : Int64) (la : Int64) (em : Bool)   :
    Ct l yX0_clear wsX0_clear (rmN 0) D vwCl (tyD k) [.ref (h 7)] (wD h k tx ln rd wh cm R (nm, nx, np, fi, la, em)) (wD h k tx ln rd wh cm R (nm, nx, 0, 0, 0, false)) none := by
  refine Ct.of (cc := cX0_clear) (maxL := 1) (ret := none) (lv := [(0, .ref (h 7))]) (by decide) rfl (Nat.le_of_ble_eq_true rfl) rfl ?_
  intro p e s m below meth c A ls hx hb hr hml hts hown hlocks hK hP hD hS hA hl
  refine lv_aload_n hx hb dX0_clear_0 rfl (lv_at hl 0 rfl) ?_
  refine lv_iconst (v := 0) hx hb dX0_clear_1 (by decide) ?_
  refine lv_eqi (show 0 = nI 0 from rfl) ?_
  refine va_put (D := D) (ci := 0) (v := .int (nI 0)) (ty := .int) (C := RX0) (T := TX0) (N := 6) hx hb hts (fun w h => lw_in w (inX0 w h)) tyX0 tyX0_ok nmX0 hown hK hP hD hS 7 rfl rfl 2 (by decide) (hts _ (lw_in _ t_51)) (fun _ h9 => h9) rfl (by decide +kernel) rfl rfl (Nat.le_of_ble_eq_true rfl) dX0_clear_2 (fun H locs hP hD hS => ?_)
  have hP : va_P D vwCl (wD h k tx ln rd wh cm R (nm, nx, 0, fi, la, em)) H := hP
  have hD : va_D A (wD h k tx ln rd wh cm R (nm, nx, 0, fi, la, em)) := hD
  refine lv_aload_n hx hb dX0_clear_5 rfl (lv_at hl 0 rfl) ?_
  refine lv_lconst (v := 0) hx hb dX0_clear_6 (by decide) ?_
  refine va_put (D := D) (ci := 0) (v := .long 0) (ty := .long) (C := RX0) (T := TX0) (N := 6) hx hb hts (fun w h => lw_in w (inX0 w h)) tyX0 tyX0_ok nmX0 hown hK hP hD hS 7 rfl rfl 3 (by decide) (hts _ (lw_in _ t_54)) (fun _ h9 => h9) rfl (by decide +kernel) rfl rfl (Nat.le_of_ble_eq_true rfl) dX0_clear_7 (fun H locs hP hD hS => ?_)
  have hP : va_P D vwCl (wD h k tx ln rd wh cm R (nm, nx, 0, 0, la, em)) H := hP
  have hD : va_D A (wD h k tx ln rd wh cm R (nm, nx, 0, 0, la, em)) := hD
  refine lv_aload_n hx hb dX0_clear_10 rfl (lv_at hl 0 rfl) ?_
  refine lv_lconst (v := 0) hx hb dX0_clear_11 (by decide) ?_
  refine va_put (D := D) (ci := 0) (v := .long 0) (ty := .long) (C := RX0) (T := TX0) (N := 6) hx hb hts (fun w h => lw_in w (inX0 w h)) tyX0 tyX0_ok nmX0 hown hK hP hD hS 7 rfl rfl 4 (by decide) (hts _ (lw_in _ t_57)) (fun _ h9 => h9) rfl (by decide +kernel) rfl rfl (Nat.le_of_ble_eq_true rfl) dX0_clear_12 (fun H locs hP hD hS => ?_)
  have hP : va_P D vwCl (wD h k tx ln rd wh cm R (nm, nx, 0, 0, 0, em)) H := hP
  have hD : va_D A (wD h k tx ln rd wh cm R (nm, nx, 0, 0, 0, em)) := hD
  refine lv_aload_n hx hb dX0_clear_15 rfl (lv_at hl 0 rfl) ?_
  refine lv_iconst (v := 0) hx hb dX0_clear_16 (by decide) ?_
  refine lv_eqi (show 0 = bI false from rfl) ?_
  refine va_put (D := D) (ci := 0) (v := .int (bI false)) (ty := .boolean) (C := RX0) (T := TX0) (N := 6) hx hb hts (fun w h => lw_in w (inX0 w h)) tyX0 tyX0_ok nmX0 hown hK hP hD hS 7 rfl rfl 5 (by decide) (hts _ (lw_in _ t_60)) (fun _ h9 => h9) rfl (by decide +kernel) (bI_narrow _) (bI_fits _) (Nat.le_of_ble_eq_true rfl) dX0_clear_17 (fun H locs hP hD hS => ?_)
  have hP : va_P D vwCl (wD h k tx ln rd wh cm R (nm, nx, 0, 0, 0, false)) H := hP
  have hD : va_D A (wD h k tx ln rd wh cm R (nm, nx, 0, 0, 0, false)) := hD
  exact ct_endv hx hb hr hlocks hP hD hS rfl rfl dX0_clear_20

set_option maxHeartbeats 4000000 in
set_option maxRecDepth 100000 in
theorem k_M_isFull (l : Launch) (D : va_G) (h : Nat → Nat) (k : Nat → ClassId) (tx : Nat → Int32) (ln : Nat) (rd : Int64) (wh : Bool) (cm : Nat) (R : RS) (nm : Nat → Int32) (nx : Nat → Int64) (np : Nat) (fi : Int64) (la : Int64) (em : Bool)  (hnp : np ≤ 60) :
    Ct l yX0_isFull wsX0_isFull (rmN 0) D vwCl (tyD k) [.ref (h 7)] (wD h k tx ln rd wh cm R (nm, nx, np, fi, la, em)) (wD h k tx ln rd wh cm R (nm, nx, np, fi, la, em)) (some (.int (bI (decide (60 ≤ np))))) := by
  refine Ct.of (cc := cX0_isFull) (maxL := 1) (ret := (some .boolean)) (lv := [(0, .ref (h 7))]) (by decide) rfl (Nat.le_of_ble_eq_true rfl) rfl ?_
  intro p e s m below meth c A ls hx hb hr hml hts hown hlocks hK hP hD hS hA hl
  refine lv_aload_n hx hb dX0_isFull_0 rfl (lv_at hl 0 rfl) ?_
  refine va_get (D := D) (ci := 0) (v := .int (nI np)) (C := RX0) (T := TX0) (N := 6) hx hb hts (fun w h => lw_in w (inX0 w h)) hown hK hP 7 rfl rfl 2 (by decide) (hts _ (lw_in _ t_51)) (fun _ h9 => h9) rfl dX0_isFull_1 ?_
  refine lv_bipush (v := 60) hx hb dX0_isFull_4 (by decide) ?_
  refine lv_icmp_lt (tgt := 13) hx hb dX0_isFull_6 (by decide) (fun c_6 => ?_) (fun c_6 => ?_)
  · have c_6 : np < 60 := (nI_ltI (a := np) (b := 60) (by omega) (by omega)).mp c_6
    refine lv_iconst (v := 0) hx hb dX0_isFull_13 (by decide) ?_
    exact ct_endi hx hb hr hlocks rfl hP hD hS rfl (by rw [decide_eq_false (Nat.not_le.mpr c_6)]; rfl) dX0_isFull_14
  · have c_6 : 60 ≤ np := Nat.le_of_not_lt (fun z => c_6 ((nI_ltI (a := np) (b := 60) (by omega) (by omega)).mpr z))
    refine lv_iconst (v := 1) hx hb dX0_isFull_9 (by decide) ?_
    refine lv_goto (tgt := 14) hx hb dX0_isFull_10 (by decide) ?_
    exact ct_endi hx hb hr hlocks rfl hP hD hS rfl (by rw [decide_eq_true c_6]; rfl) dX0_isFull_14

set_option maxHeartbeats 4000000 in
set_option maxRecDepth 100000 in
theorem k_M_has (l : Launch) (D : va_G) (h : Nat → Nat) (k : Nat → ClassId) (tx : Nat → Int32) (ln : Nat) (rd : Int64) (wh : Bool) (cm : Nat) (R : RS) (nm : Nat → Int32) (nx : Nat → Int64) (np : Nat) (fi : Int64) (la : Int64) (em : Bool) (x : Int32)  :
    Ct l yX0_has wsX0_has (rmN 0) D vwCl (tyD k) [.ref (h 7), .int x] (wD h k tx ln rd wh cm R (nm, nx, np, fi, la, em)) (wD h k tx ln rd wh cm R (nm, nx, np, fi, la, em)) (some (.int (bI (m_has np x)))) := by
  refine Ct.of (cc := cX0_has) (maxL := 2) (ret := (some .boolean)) (lv := [(0, .ref (h 7)), (1, .int x)]) (by decide) rfl (Nat.le_of_ble_eq_true rfl) rfl ?_
  intro p e s m below meth c A ls hx hb hr hml hts hown hlocks hK hP hD hS hA hl
  refine lv_iload_n hx hb dX0_has_0 rfl (lv_at hl 1 rfl) ?_
  refine lv_if_lt (tgt := 16) hx hb dX0_has_1 (by decide) (fun c_1 => ?_) (fun c_1 => ?_)
  · have c_1 : x < 0 := c_1
    refine lv_iconst (v := 0) hx hb dX0_has_16 (by decide) ?_
    exact ct_endi hx hb hr hlocks rfl hP hD hS rfl (by simp [m_has, bI, c_1]) dX0_has_17
  · have c_1 : ¬ x < 0 := c_1
    refine lv_iload_n hx hb dX0_has_4 rfl (lv_at hl 1 rfl) ?_
    refine lv_aload_n hx hb dX0_has_5 rfl (lv_at hl 0 rfl) ?_
    refine va_get (D := D) (ci := 0) (v := .int (nI np)) (C := RX0) (T := TX0) (N := 6) hx hb hts (fun w h => lw_in w (inX0 w h)) hown hK hP 7 rfl rfl 2 (by decide) (hts _ (lw_in _ t_51)) (fun _ h9 => h9) rfl dX0_has_6 ?_
    refine lv_icmp_ge (tgt := 16) hx hb dX0_has_9 (by decide) (fun c_9 => ?_) (fun c_9 => ?_)
    · have c_9 : nI np ≤ x := c_9
      refine lv_iconst (v := 0) hx hb dX0_has_16 (by decide) ?_
      exact ct_endi hx hb hr hlocks rfl hP hD hS rfl (by simp [m_has, bI, c_1, c_9]) dX0_has_17
    · have c_9 : ¬ nI np ≤ x := c_9
      refine lv_iconst (v := 1) hx hb dX0_has_12 (by decide) ?_
      refine lv_goto (tgt := 17) hx hb dX0_has_13 (by decide) ?_
      exact ct_endi hx hb hr hlocks rfl hP hD hS rfl (by simp [m_has, bI, c_1, c_9]) dX0_has_17

set_option maxHeartbeats 4000000 in
set_option maxRecDepth 100000 in
theorem k_M_addPlace (l : Launch) (D : va_G) (h : Nat → Nat) (k : Nat → ClassId) (tx : Nat → Int32) (ln : Nat) (rd : Int64) (wh : Bool) (cm : Nat) (R : RS) (nm : Nat → Int32) (nx : Nat → Int64) (np : Nat) (fi : Int64) (la : Int64) (em : Bool) (x : Int32) (hnp : np ≤ 60) :
    Ct l yX0_addPlace wsX0_addPlace (rmN 1) D vwCl (tyD k) [.ref (h 7), .int x] (wD h k tx ln rd wh cm R (nm, nx, np, fi, la, em)) (wD h k tx ln rd wh cm R (m_add (nm, nx, np, fi, la, em) x)) none := by
  refine Ct.of (cc := cX0_addPlace) (maxL := 2) (ret := none) (lv := [(0, .ref (h 7)), (1, .int x)]) (by decide) rfl (Nat.le_of_ble_eq_true rfl) rfl ?_
  intro p e s m below meth c A ls hx hb hr hml hts hown hlocks hK hP hD hS hA hl
  refine lv_aload_n hx hb dX0_addPlace_0 rfl (lv_at hl 0 rfl) ?_
  refine ct_callV (As := []) (rest := []) ⟨hx, hb, hml, hown, hts⟩ (k_M_isFull l D h k tx ln rd wh cm R nm nx np fi la em  (by omega)) (cwV 0 hts (gV lw_in t_178 t_171 t_172 t_25 t_173) rfl rfl rfl (by decide +kernel) ⟨Nat.le_of_ble_eq_true rfl, Nat.le_of_ble_eq_true rfl⟩) 7 rfl rfl hK hP hD hS hA rfl hl.1 rfl (Nat.le_of_ble_eq_true rfl) dX0_addPlace_1 ⟨Nat.zero_le _, Nat.zero_le _⟩ (fun H locs hP hD hS => ?_)
  refine W.eq (g2 := F0 m 4 ls [.int (bI (decide (60 ≤ np)))]) rfl ?_
  refine lv_if_eq (tgt := 8) hx hb dX0_addPlace_4 (by decide) (fun c_4 => ?_) (fun c_4 => ?_)
  · have c_4 : (decide (60 ≤ np)) = false := (bI_eq0 _).mp c_4
    have c_4 : ¬ 60 ≤ np := of_decide_eq_false c_4
    refine lv_aload_n hx hb dX0_addPlace_8 rfl (lv_at hl 0 rfl) ?_
    refine va_get (D := D) (ci := 0) (v := .ref (h 8)) (C := RX0) (T := TX0) (N := 6) hx hb hts (fun w h => lw_in w (inX0 w h)) hown hK hP 7 rfl rfl 0 (by decide) (hts _ (lw_in _ t_47)) (fun _ h9 => h9) rfl dX0_addPlace_9 ?_
    refine lv_aload_n hx hb dX0_addPlace_12 rfl (lv_at hl 0 rfl) ?_
    refine va_get (D := D) (ci := 0) (v := .int (nI np)) (C := RX0) (T := TX0) (N := 6) hx hb hts (fun w h => lw_in w (inX0 w h)) hown hK hP 7 rfl rfl 2 (by decide) (hts _ (lw_in _ t_51)) (fun _ h9 => h9) rfl dX0_addPlace_13 ?_
    refine lv_iload_n hx hb dX0_addPlace_16 rfl (lv_at hl 1 rfl) ?_
    refine wx_iast hx hb hK hP hD hS 8 5 rfl rfl (i := np) (by omega) (by decide) dX0_addPlace_17 (fun H locs hP hD hS => ?_)
    have hP : va_P D vwCl (wD h k tx ln rd wh cm R ((upd nm np x), nx, np, fi, la, em)) H := hP
    have hD : va_D A (wD h k tx ln rd wh cm R ((upd nm np x), nx, np, fi, la, em)) := hD
    refine lv_aload_n hx hb dX0_addPlace_18 rfl (lv_at hl 0 rfl) ?_
    refine va_get (D := D) (ci := 0) (v := .ref (h 9)) (C := RX0) (T := TX0) (N := 6) hx hb hts (fun w h => lw_in w (inX0 w h)) hown hK hP 7 rfl rfl 1 (by decide) (hts _ (lw_in _ t_49)) (fun _ h9 => h9) rfl dX0_addPlace_19 ?_
    refine lv_aload_n hx hb dX0_addPlace_22 rfl (lv_at hl 0 rfl) ?_
    refine va_get (D := D) (ci := 0) (v := .int (nI np)) (C := RX0) (T := TX0) (N := 6) hx hb hts (fun w h => lw_in w (inX0 w h)) hown hK hP 7 rfl rfl 2 (by decide) (hts _ (lw_in _ t_51)) (fun _ h9 => h9) rfl dX0_addPlace_23 ?_
    refine lv_lconst (v := 0) hx hb dX0_addPlace_26 (by decide) ?_
    refine wx_last hx hb hK hP hD hS 9 6 rfl rfl (i := np) (by omega) (by decide) dX0_addPlace_27 (fun H locs hP hD hS => ?_)
    have hP : va_P D vwCl (wD h k tx ln rd wh cm R ((upd nm np x), (vp_updL nx np 0), np, fi, la, em)) H := hP
    have hD : va_D A (wD h k tx ln rd wh cm R ((upd nm np x), (vp_updL nx np 0), np, fi, la, em)) := hD
    refine lv_aload_n hx hb dX0_addPlace_28 rfl (lv_at hl 0 rfl) ?_
    refine lv_dup hx hb dX0_addPlace_29 rfl ?_
    refine va_get (D := D) (ci := 0) (v := .int (nI np)) (C := RX0) (T := TX0) (N := 6) hx hb hts (fun w h => lw_in w (inX0 w h)) hown hK hP 7 rfl rfl 2 (by decide) (hts _ (lw_in _ t_51)) (fun _ h9 => h9) rfl dX0_addPlace_30 ?_
    refine lv_iconst (v := 1) hx hb dX0_addPlace_33 (by decide) ?_
    refine lv_iadd hx hb dX0_addPlace_34 ?_
    refine lv_eqi (show (nI np + 1) = nI (np + 1) from nI_1 _) ?_
    refine va_put (D := D) (ci := 0) (v := .int (nI (np + 1))) (ty := .int) (C := RX0) (T := TX0) (N := 6) hx hb hts (fun w h => lw_in w (inX0 w h)) tyX0 tyX0_ok nmX0 hown hK hP hD hS 7 rfl rfl 2 (by decide) (hts _ (lw_in _ t_51)) (fun _ h9 => h9) rfl (by decide +kernel) rfl rfl (Nat.le_of_ble_eq_true rfl) dX0_addPlace_35 (fun H locs hP hD hS => ?_)
    have hP : va_P D vwCl (wD h k tx ln rd wh cm R ((upd nm np x), (vp_updL nx np 0), (np + 1), fi, la, em)) H := hP
    have hD : va_D A (wD h k tx ln rd wh cm R ((upd nm np x), (vp_updL nx np 0), (np + 1), fi, la, em)) := hD
    exact ct_endv hx hb hr hlocks hP hD hS (by simp [m_add, c_4]) rfl dX0_addPlace_38
  · have c_4 : (decide (60 ≤ np)) = true := (bI_ne0 _).mp c_4
    have c_4 : 60 ≤ np := of_decide_eq_true c_4
    exact ct_endv hx hb hr hlocks hP hD hS (by simp [m_add, c_4]) rfl dX0_addPlace_7

set_option maxHeartbeats 4000000 in
set_option maxRecDepth 100000 in
theorem k_M_connect (l : Launch) (D : va_G) (h : Nat → Nat) (k : Nat → ClassId) (tx : Nat → Int32) (ln : Nat) (rd : Int64) (wh : Bool) (cm : Nat) (R : RS) (nm : Nat → Int32) (nx : Nat → Int64) (np : Nat) (fi : Int64) (la : Int64) (em : Bool) (a : Int64) (b : Int64) (hnp : np ≤ 60) :
    Ct l yX0_connect wsX0_connect (rmN 1) D vwCl (tyD k) [.ref (h 7), .long a, .long b] (wD h k tx ln rd wh cm R (nm, nx, np, fi, la, em)) (wD h k tx ln rd wh cm R (nm, (cnL a b np 0 nx), np, fi, la, em)) none := by
  refine Ct.of (cc := cX0_connect) (maxL := 6) (ret := none) (lv := [(0, .ref (h 7)), (1, .long a), (3, .long b)]) (by decide) rfl (Nat.le_of_ble_eq_true rfl) rfl ?_
  intro p e s m below meth c A ls hx hb hr hml hts hown hlocks hK hP hD hS hA hl
  have loop : ∀ (n : Nat) (i : Nat) (nx1 : Nat → Int64), i + n = np → cnL a b n i nx1 = cnL a b np 0 nx → ∀ (H : Heap) (locs : List Loc), va_P D vwCl (wD h k tx ln rd wh cm R (nm, nx1, np, fi, la, em)) H → va_D A (wD h k tx ln rd wh cm R (nm, nx1, np, fi, la, em)) → va_S A s.heap H locs → ∀ ls : Array Slot, lv_has ls 6 [(5, .int (nI i)), (0, .ref (h 7)), (1, .long a), (3, .long b)] →
      W p l e (rmN 1) s m ([.ref (h 7), .long a, .long b] : List Value).toArray below meth c H locs 0 0 (MQ below (CtQ D vwCl A (wD h k tx ln rd wh cm R (nm, (cnL a b np 0 nx), np, fi, la, em)) none) ([.ref (h 7), .long a, .long b] : List Value).toArray s 0 0 A) (F0 m 3 ls []) := by
    intro n
    induction n with
    | zero =>
      intro i nx1 hi he H locs hP hD hS ls hl
      refine lv_iload hx hb dX0_connect_3 (lv_at hl 0 rfl) ?_
      refine lv_aload_n hx hb dX0_connect_5 rfl (lv_at hl 1 rfl) ?_
      refine va_get (D := D) (ci := 0) (v := .int (nI np)) (C := RX0) (T := TX0) (N := 6) hx hb hts (fun w h => lw_in w (inX0 w h)) hown hK hP 7 rfl rfl 2 (by decide) (hts _ (lw_in _ t_51)) (fun _ h9 => h9) rfl dX0_connect_6 ?_
      refine lv_icmp_ge (tgt := 38) hx hb dX0_connect_9 (by decide) (fun c_9 => ?_) (fun c_9 => ?_)
      · have c_9 : np ≤ i := (nI_leI (a := np) (b := i) (by omega) (by omega)).mp c_9
        exact ct_endv hx hb hr hlocks hP hD hS (by rw [← he]; rfl) rfl dX0_connect_38
      · have c_9 : i < np := Nat.lt_of_not_le (fun z => c_9 ((nI_leI (a := np) (b := i) (by omega) (by omega)).mpr z))
        exact absurd c_9 (by omega)
    | succ n ih =>
      intro i nx1 hi he H locs hP hD hS ls hl
      refine lv_iload hx hb dX0_connect_3 (lv_at hl 0 rfl) ?_
      refine lv_aload_n hx hb dX0_connect_5 rfl (lv_at hl 1 rfl) ?_
      refine va_get (D := D) (ci := 0) (v := .int (nI np)) (C := RX0) (T := TX0) (N := 6) hx hb hts (fun w h => lw_in w (inX0 w h)) hown hK hP 7 rfl rfl 2 (by decide) (hts _ (lw_in _ t_51)) (fun _ h9 => h9) rfl dX0_connect_6 ?_
      refine lv_icmp_ge (tgt := 38) hx hb dX0_connect_9 (by decide) (fun c_9 => ?_) (fun c_9 => ?_)
      · have c_9 : np ≤ i := (nI_leI (a := np) (b := i) (by omega) (by omega)).mp c_9
        exact absurd c_9 (by omega)
      · have c_9 : i < np := Nat.lt_of_not_le (fun z => c_9 ((nI_leI (a := np) (b := i) (by omega) (by omega)).mpr z))
        refine lv_lload_n hx hb dX0_connect_12 rfl (lv_at hl 2 rfl) ?_
        refine lv_iload hx hb dX0_connect_13 (lv_at hl 0 rfl) ?_
        refine ct_callS (As := [.long a, .int (nI i)]) (rest := []) ⟨hx, hb, hml, hown, hts⟩ (k_M_holds l D h k tx ln rd wh cm R (nm, nx1, np, fi, la, em) a i (by omega)) (cwS 2 hts (gS lw_in t_190 t_191 t_25 t_192) rfl rfl rfl (by decide +kernel) ⟨Nat.le_of_ble_eq_true rfl, Nat.le_of_ble_eq_true rfl⟩) hK hP hD hS hA rfl hl.1 rfl (Nat.le_of_ble_eq_true rfl) dX0_connect_15 ⟨Nat.zero_le _, Nat.zero_le _⟩ (fun H locs hP hD hS => ?_)
        refine W.eq (g2 := F0 m 18 ls [.int (bI (hB a i))]) rfl ?_
        refine lv_if_eq (tgt := 32) hx hb dX0_connect_18 (by decide) (fun c_18 => ?_) (fun c_18 => ?_)
        · have c_18 : (hB a i) = false := (bI_eq0 _).mp c_18
          refine lv_iinc (v := nI (i + 1)) (lv' := [(5, .int (nI (i + 1))), (0, .ref (h 7)), (1, .long a), (3, .long b)]) hx hb dX0_connect_32 hl (k := 0) rfl (nI_1 _) (by decide) rfl (fun ls hl => ?_)
          refine lv_goto (tgt := 3) hx hb dX0_connect_35 (by decide) ?_
          exact ih (i + 1) nx1 (by omega) (by rw [← he, cnL, if_neg (bF c_18)]) _ _ hP hD hS _ (lv_sub hl [0, 1, 2, 3] rfl)
        · have c_18 : (hB a i) = true := (bI_ne0 _).mp c_18
          refine lv_aload_n hx hb dX0_connect_21 rfl (lv_at hl 1 rfl) ?_
          refine va_get (D := D) (ci := 0) (v := .ref (h 9)) (C := RX0) (T := TX0) (N := 6) hx hb hts (fun w h => lw_in w (inX0 w h)) hown hK hP 7 rfl rfl 1 (by decide) (hts _ (lw_in _ t_49)) (fun _ h9 => h9) rfl dX0_connect_22 ?_
          refine lv_iload hx hb dX0_connect_25 (lv_at hl 0 rfl) ?_
          refine lv_dup2_11 hx hb dX0_connect_27 rfl rfl ?_
          refine wx_lald hx hb hK hP 9 6 rfl rfl (i := i) (by omega) (by decide) dX0_connect_28 ?_
          refine lv_lload_n hx hb dX0_connect_29 rfl (lv_at hl 3 rfl) ?_
          refine lv_lor hx hb dX0_connect_30 ?_
          refine wx_last hx hb hK hP hD hS 9 6 rfl rfl (i := i) (by omega) (by decide) dX0_connect_31 (fun H locs hP hD hS => ?_)
          have hP : va_P D vwCl (wD h k tx ln rd wh cm R (nm, (vp_updL nx1 i ((nx1 i) ||| b)), np, fi, la, em)) H := hP
          have hD : va_D A (wD h k tx ln rd wh cm R (nm, (vp_updL nx1 i ((nx1 i) ||| b)), np, fi, la, em)) := hD
          refine lv_iinc (v := nI (i + 1)) (lv' := [(5, .int (nI (i + 1))), (0, .ref (h 7)), (1, .long a), (3, .long b)]) hx hb dX0_connect_32 hl (k := 0) rfl (nI_1 _) (by decide) rfl (fun ls hl => ?_)
          refine lv_goto (tgt := 3) hx hb dX0_connect_35 (by decide) ?_
          exact ih (i + 1) (vp_updL nx1 i ((nx1 i) ||| b)) (by omega) (by rw [← he, cnL, if_pos c_18]) _ _ hP hD hS _ (lv_sub hl [0, 1, 2, 3] rfl)
  refine lv_iconst (v := 0) hx hb dX0_connect_0 (by decide) ?_
  refine lv_istore (lv' := [(5, .int 0), (0, .ref (h 7)), (1, .long a), (3, .long b)]) hx hb dX0_connect_1 hl (by decide) rfl (fun ls hl => ?_)
  exact loop np 0 nx (by omega) rfl _ _ hP hD hS _ (lv_sub hl [0, 1, 2, 3] rfl)

set_option maxHeartbeats 4000000 in
set_option maxRecDepth 100000 in
theorem k_M_nextBehindAny (l : Launch) (D : va_G) (h : Nat → Nat) (k : Nat → ClassId) (tx : Nat → Int32) (ln : Nat) (rd : Int64) (wh : Bool) (cm : Nat) (R : RS) (nm : Nat → Int32) (nx : Nat → Int64) (np : Nat) (fi : Int64) (la : Int64) (em : Bool) (a : Int64) (hnp : np ≤ 60) :
    Ct l yX0_nextBehindAny wsX0_nextBehindAny (rmN 1) D vwCl (tyD k) [.ref (h 7), .long a] (wD h k tx ln rd wh cm R (nm, nx, np, fi, la, em)) (wD h k tx ln rd wh cm R (nm, nx, np, fi, la, em)) (some (.long (nbL a nx np 0 0))) := by
  refine Ct.of (cc := cX0_nextBehindAny) (maxL := 6) (ret := (some .long)) (lv := [(0, .ref (h 7)), (1, .long a)]) (by decide) rfl (Nat.le_of_ble_eq_true rfl) rfl ?_
  intro p e s m below meth c A ls hx hb hr hml hts hown hlocks hK hP hD hS hA hl
  have loop : ∀ (n : Nat) (i : Nat) (r : Int64), i + n = np → nbL a nx n i r = nbL a nx np 0 0 → ∀ (H : Heap) (locs : List Loc), va_P D vwCl (wD h k tx ln rd wh cm R (nm, nx, np, fi, la, em)) H → va_D A (wD h k tx ln rd wh cm R (nm, nx, np, fi, la, em)) → va_S A s.heap H locs → ∀ ls : Array Slot, lv_has ls 6 [(5, .int (nI i)), (3, .long r), (0, .ref (h 7)), (1, .long a)] →
      W p l e (rmN 1) s m ([.ref (h 7), .long a] : List Value).toArray below meth c H locs 0 0 (MQ below (CtQ D vwCl A (wD h k tx ln rd wh cm R (nm, nx, np, fi, la, em)) (some (.long (nbL a nx np 0 0)))) ([.ref (h 7), .long a] : List Value).toArray s 0 0 A) (F0 m 5 ls []) := by
    intro n
    induction n with
    | zero =>
      intro i r hi he H locs hP hD hS ls hl
      refine lv_iload hx hb dX0_nextBehindAny_5 (lv_at hl 0 rfl) ?_
      refine lv_aload_n hx hb dX0_nextBehindAny_7 rfl (lv_at hl 2 rfl) ?_
      refine va_get (D := D) (ci := 0) (v := .int (nI np)) (C := RX0) (T := TX0) (N := 6) hx hb hts (fun w h => lw_in w (inX0 w h)) hown hK hP 7 rfl rfl 2 (by decide) (hts _ (lw_in _ t_51)) (fun _ h9 => h9) rfl dX0_nextBehindAny_8 ?_
      refine lv_icmp_ge (tgt := 39) hx hb dX0_nextBehindAny_11 (by decide) (fun c_11 => ?_) (fun c_11 => ?_)
      · have c_11 : np ≤ i := (nI_leI (a := np) (b := i) (by omega) (by omega)).mp c_11
        refine lv_lload_n hx hb dX0_nextBehindAny_39 rfl (lv_at hl 1 rfl) ?_
        exact ct_endl hx hb hr hlocks hP hD hS rfl (by rw [← he]; rfl) dX0_nextBehindAny_40
      · have c_11 : i < np := Nat.lt_of_not_le (fun z => c_11 ((nI_leI (a := np) (b := i) (by omega) (by omega)).mpr z))
        exact absurd c_11 (by omega)
    | succ n ih =>
      intro i r hi he H locs hP hD hS ls hl
      refine lv_iload hx hb dX0_nextBehindAny_5 (lv_at hl 0 rfl) ?_
      refine lv_aload_n hx hb dX0_nextBehindAny_7 rfl (lv_at hl 2 rfl) ?_
      refine va_get (D := D) (ci := 0) (v := .int (nI np)) (C := RX0) (T := TX0) (N := 6) hx hb hts (fun w h => lw_in w (inX0 w h)) hown hK hP 7 rfl rfl 2 (by decide) (hts _ (lw_in _ t_51)) (fun _ h9 => h9) rfl dX0_nextBehindAny_8 ?_
      refine lv_icmp_ge (tgt := 39) hx hb dX0_nextBehindAny_11 (by decide) (fun c_11 => ?_) (fun c_11 => ?_)
      · have c_11 : np ≤ i := (nI_leI (a := np) (b := i) (by omega) (by omega)).mp c_11
        exact absurd c_11 (by omega)
      · have c_11 : i < np := Nat.lt_of_not_le (fun z => c_11 ((nI_leI (a := np) (b := i) (by omega) (by omega)).mpr z))
        refine lv_lload_n hx hb dX0_nextBehindAny_14 rfl (lv_at hl 3 rfl) ?_
        refine lv_iload hx hb dX0_nextBehindAny_15 (lv_at hl 0 rfl) ?_
        refine ct_callS (As := [.long a, .int (nI i)]) (rest := []) ⟨hx, hb, hml, hown, hts⟩ (k_M_holds l D h k tx ln rd wh cm R (nm, nx, np, fi, la, em) a i (by omega)) (cwS 2 hts (gS lw_in t_190 t_191 t_25 t_192) rfl rfl rfl (by decide +kernel) ⟨Nat.le_of_ble_eq_true rfl, Nat.le_of_ble_eq_true rfl⟩) hK hP hD hS hA rfl hl.1 rfl (Nat.le_of_ble_eq_true rfl) dX0_nextBehindAny_17 ⟨Nat.zero_le _, Nat.zero_le _⟩ (fun H locs hP hD hS => ?_)
        refine W.eq (g2 := F0 m 20 ls [.int (bI (hB a i))]) rfl ?_
        refine lv_if_eq (tgt := 33) hx hb dX0_nextBehindAny_20 (by decide) (fun c_20 => ?_) (fun c_20 => ?_)
        · have c_20 : (hB a i) = false := (bI_eq0 _).mp c_20
          refine lv_iinc (v := nI (i + 1)) (lv' := [(5, .int (nI (i + 1))), (3, .long r), (0, .ref (h 7)), (1, .long a)]) hx hb dX0_nextBehindAny_33 hl (k := 0) rfl (nI_1 _) (by decide) rfl (fun ls hl => ?_)
          refine lv_goto (tgt := 5) hx hb dX0_nextBehindAny_36 (by decide) ?_
          exact ih (i + 1) r (by omega) (by rw [← he, nbL, if_neg (bF c_20)]) _ _ hP hD hS _ (lv_sub hl [0, 1, 2, 3] rfl)
        · have c_20 : (hB a i) = true := (bI_ne0 _).mp c_20
          refine lv_lload_n hx hb dX0_nextBehindAny_23 rfl (lv_at hl 1 rfl) ?_
          refine lv_aload_n hx hb dX0_nextBehindAny_24 rfl (lv_at hl 2 rfl) ?_
          refine va_get (D := D) (ci := 0) (v := .ref (h 9)) (C := RX0) (T := TX0) (N := 6) hx hb hts (fun w h => lw_in w (inX0 w h)) hown hK hP 7 rfl rfl 1 (by decide) (hts _ (lw_in _ t_49)) (fun _ h9 => h9) rfl dX0_nextBehindAny_25 ?_
          refine lv_iload hx hb dX0_nextBehindAny_28 (lv_at hl 0 rfl) ?_
          refine wx_lald hx hb hK hP 9 6 rfl rfl (i := i) (by omega) (by decide) dX0_nextBehindAny_30 ?_
          refine lv_lor hx hb dX0_nextBehindAny_31 ?_
          refine lv_lstore_n (lv' := [(3, .long (r ||| (nx i))), (5, .int (nI i)), (0, .ref (h 7)), (1, .long a)]) hx hb dX0_nextBehindAny_32 rfl hl (by decide) rfl (fun ls hl => ?_)
          refine lv_iinc (v := nI (i + 1)) (lv' := [(5, .int (nI (i + 1))), (3, .long (r ||| (nx i))), (0, .ref (h 7)), (1, .long a)]) hx hb dX0_nextBehindAny_33 hl (k := 1) rfl (nI_1 _) (by decide) rfl (fun ls hl => ?_)
          refine lv_goto (tgt := 5) hx hb dX0_nextBehindAny_36 (by decide) ?_
          exact ih (i + 1) (r ||| (nx i)) (by omega) (by rw [← he, nbL, if_pos c_20]) _ _ hP hD hS _ (lv_sub hl [0, 1, 2, 3] rfl)
  refine lv_lconst (v := 0) hx hb dX0_nextBehindAny_0 (by decide) ?_
  refine lv_lstore_n (lv' := [(3, .long 0), (0, .ref (h 7)), (1, .long a)]) hx hb dX0_nextBehindAny_1 rfl hl (by decide) rfl (fun ls hl => ?_)
  refine lv_iconst (v := 0) hx hb dX0_nextBehindAny_2 (by decide) ?_
  refine lv_istore (lv' := [(5, .int 0), (3, .long 0), (0, .ref (h 7)), (1, .long a)]) hx hb dX0_nextBehindAny_3 hl (by decide) rfl (fun ls hl => ?_)
  exact loop np 0 0 (by omega) rfl _ _ hP hD hS _ (lv_sub hl [0, 1, 2, 3] rfl)

set_option maxHeartbeats 4000000 in
set_option maxRecDepth 100000 in
theorem k_M_placesNamed (l : Launch) (D : va_G) (h : Nat → Nat) (k : Nat → ClassId) (tx : Nat → Int32) (ln : Nat) (rd : Int64) (wh : Bool) (cm : Nat) (R : RS) (nm : Nat → Int32) (nx : Nat → Int64) (np : Nat) (fi : Int64) (la : Int64) (em : Bool) (x : Int32) (a : Int64) (hnp : np ≤ 60) :
    Ct l yX0_placesNamed wsX0_placesNamed (rmN 1) D vwCl (tyD k) [.ref (h 7), .int x, .long a] (wD h k tx ln rd wh cm R (nm, nx, np, fi, la, em)) (wD h k tx ln rd wh cm R (nm, nx, np, fi, la, em)) (some (.long (pnL x a nm np 0 0))) := by
  refine Ct.of (cc := cX0_placesNamed) (maxL := 7) (ret := (some .long)) (lv := [(0, .ref (h 7)), (1, .int x), (2, .long a)]) (by decide) rfl (Nat.le_of_ble_eq_true rfl) rfl ?_
  intro p e s m below meth c A ls hx hb hr hml hts hown hlocks hK hP hD hS hA hl
  have loop : ∀ (n : Nat) (i : Nat) (r : Int64), i + n = np → pnL x a nm n i r = pnL x a nm np 0 0 → ∀ (H : Heap) (locs : List Loc), va_P D vwCl (wD h k tx ln rd wh cm R (nm, nx, np, fi, la, em)) H → va_D A (wD h k tx ln rd wh cm R (nm, nx, np, fi, la, em)) → va_S A s.heap H locs → ∀ ls : Array Slot, lv_has ls 7 [(6, .int (nI i)), (4, .long r), (0, .ref (h 7)), (1, .int x), (2, .long a)] →
      W p l e (rmN 1) s m ([.ref (h 7), .int x, .long a] : List Value).toArray below meth c H locs 0 0 (MQ below (CtQ D vwCl A (wD h k tx ln rd wh cm R (nm, nx, np, fi, la, em)) (some (.long (pnL x a nm np 0 0)))) ([.ref (h 7), .int x, .long a] : List Value).toArray s 0 0 A) (F0 m 6 ls []) := by
    intro n
    induction n with
    | zero =>
      intro i r hi he H locs hP hD hS ls hl
      refine lv_iload hx hb dX0_placesNamed_6 (lv_at hl 0 rfl) ?_
      refine lv_aload_n hx hb dX0_placesNamed_8 rfl (lv_at hl 2 rfl) ?_
      refine va_get (D := D) (ci := 0) (v := .int (nI np)) (C := RX0) (T := TX0) (N := 6) hx hb hts (fun w h => lw_in w (inX0 w h)) hown hK hP 7 rfl rfl 2 (by decide) (hts _ (lw_in _ t_51)) (fun _ h9 => h9) rfl dX0_placesNamed_9 ?_
      refine lv_icmp_ge (tgt := 50) hx hb dX0_placesNamed_12 (by decide) (fun c_12 => ?_) (fun c_12 => ?_)
      · have c_12 : np ≤ i := (nI_leI (a := np) (b := i) (by omega) (by omega)).mp c_12
        refine lv_lload hx hb dX0_placesNamed_50 (lv_at hl 1 rfl) ?_
        exact ct_endl hx hb hr hlocks hP hD hS rfl (by rw [← he]; rfl) dX0_placesNamed_52
      · have c_12 : i < np := Nat.lt_of_not_le (fun z => c_12 ((nI_leI (a := np) (b := i) (by omega) (by omega)).mpr z))
        exact absurd c_12 (by omega)
    | succ n ih =>
      intro i r hi he H locs hP hD hS ls hl
      refine lv_iload hx hb dX0_placesNamed_6 (lv_at hl 0 rfl) ?_
      refine lv_aload_n hx hb dX0_placesNamed_8 rfl (lv_at hl 2 rfl) ?_
      refine va_get (D := D) (ci := 0) (v := .int (nI np)) (C := RX0) (T := TX0) (N := 6) hx hb hts (fun w h => lw_in w (inX0 w h)) hown hK hP 7 rfl rfl 2 (by decide) (hts _ (lw_in _ t_51)) (fun _ h9 => h9) rfl dX0_placesNamed_9 ?_
      refine lv_icmp_ge (tgt := 50) hx hb dX0_placesNamed_12 (by decide) (fun c_12 => ?_) (fun c_12 => ?_)
      · have c_12 : np ≤ i := (nI_leI (a := np) (b := i) (by omega) (by omega)).mp c_12
        exact absurd c_12 (by omega)
      · have c_12 : i < np := Nat.lt_of_not_le (fun z => c_12 ((nI_leI (a := np) (b := i) (by omega) (by omega)).mpr z))
        refine lv_aload_n hx hb dX0_placesNamed_15 rfl (lv_at hl 2 rfl) ?_
        refine va_get (D := D) (ci := 0) (v := .ref (h 8)) (C := RX0) (T := TX0) (N := 6) hx hb hts (fun w h => lw_in w (inX0 w h)) hown hK hP 7 rfl rfl 0 (by decide) (hts _ (lw_in _ t_47)) (fun _ h9 => h9) rfl dX0_placesNamed_16 ?_
        refine lv_iload hx hb dX0_placesNamed_19 (lv_at hl 0 rfl) ?_
        refine wx_iald hx hb hK hP 8 5 rfl rfl (i := i) (by omega) (by decide) dX0_placesNamed_21 ?_
        refine lv_iload_n hx hb dX0_placesNamed_22 rfl (lv_at hl 3 rfl) ?_
        refine lv_icmp_ne (tgt := 44) hx hb dX0_placesNamed_23 (by decide) (fun c_23 => ?_) (fun c_23 => ?_)
        · have c_23 : ¬ (nm i) = x := c_23
          refine lv_iinc (v := nI (i + 1)) (lv' := [(6, .int (nI (i + 1))), (4, .long r), (0, .ref (h 7)), (1, .int x), (2, .long a)]) hx hb dX0_placesNamed_44 hl (k := 0) rfl (nI_1 _) (by decide) rfl (fun ls hl => ?_)
          refine lv_goto (tgt := 6) hx hb dX0_placesNamed_47 (by decide) ?_
          exact ih (i + 1) r (by omega) (by rw [← he, pnL]; simp [c_23]) _ _ hP hD hS _ (lv_sub hl [0, 1, 2, 3, 4] rfl)
        · have c_23 : (nm i) = x := c_23
          refine lv_lload_n hx hb dX0_placesNamed_26 rfl (lv_at hl 4 rfl) ?_
          refine lv_iload hx hb dX0_placesNamed_27 (lv_at hl 0 rfl) ?_
          refine ct_callS (As := [.long a, .int (nI i)]) (rest := []) ⟨hx, hb, hml, hown, hts⟩ (k_M_holds l D h k tx ln rd wh cm R (nm, nx, np, fi, la, em) a i (by omega)) (cwS 2 hts (gS lw_in t_190 t_191 t_25 t_192) rfl rfl rfl (by decide +kernel) ⟨Nat.le_of_ble_eq_true rfl, Nat.le_of_ble_eq_true rfl⟩) hK hP hD hS hA rfl hl.1 rfl (Nat.le_of_ble_eq_true rfl) dX0_placesNamed_29 ⟨Nat.zero_le _, Nat.zero_le _⟩ (fun H locs hP hD hS => ?_)
          refine W.eq (g2 := F0 m 32 ls [.int (bI (hB a i))]) rfl ?_
          refine lv_if_eq (tgt := 44) hx hb dX0_placesNamed_32 (by decide) (fun c_32 => ?_) (fun c_32 => ?_)
          · have c_32 : (hB a i) = false := (bI_eq0 _).mp c_32
            refine lv_iinc (v := nI (i + 1)) (lv' := [(6, .int (nI (i + 1))), (4, .long r), (0, .ref (h 7)), (1, .int x), (2, .long a)]) hx hb dX0_placesNamed_44 hl (k := 0) rfl (nI_1 _) (by decide) rfl (fun ls hl => ?_)
            refine lv_goto (tgt := 6) hx hb dX0_placesNamed_47 (by decide) ?_
            exact ih (i + 1) r (by omega) (by rw [← he, pnL]; simp [c_23, c_32]) _ _ hP hD hS _ (lv_sub hl [0, 1, 2, 3, 4] rfl)
          · have c_32 : (hB a i) = true := (bI_ne0 _).mp c_32
            refine lv_lload hx hb dX0_placesNamed_35 (lv_at hl 1 rfl) ?_
            refine lv_lconst (v := 1) hx hb dX0_placesNamed_37 (by decide) ?_
            refine lv_iload hx hb dX0_placesNamed_38 (lv_at hl 0 rfl) ?_
            refine lv_lshl (v := ((1 : Int64) <<< ((nI i).toInt64 &&& 63))) hx hb dX0_placesNamed_40 rfl ?_
            refine lv_lor hx hb dX0_placesNamed_41 ?_
            refine lv_lstore (lv' := [(4, .long (r ||| ((1 : Int64) <<< ((nI i).toInt64 &&& 63)))), (6, .int (nI i)), (0, .ref (h 7)), (1, .int x), (2, .long a)]) hx hb dX0_placesNamed_42 hl (by decide) rfl (fun ls hl => ?_)
            refine lv_iinc (v := nI (i + 1)) (lv' := [(6, .int (nI (i + 1))), (4, .long (r ||| ((1 : Int64) <<< ((nI i).toInt64 &&& 63)))), (0, .ref (h 7)), (1, .int x), (2, .long a)]) hx hb dX0_placesNamed_44 hl (k := 1) rfl (nI_1 _) (by decide) rfl (fun ls hl => ?_)
            refine lv_goto (tgt := 6) hx hb dX0_placesNamed_47 (by decide) ?_
            exact ih (i + 1) (r ||| ((1 : Int64) <<< ((nI i).toInt64 &&& 63))) (by omega) (by rw [← he, pnL]; simp [c_23, c_32]) _ _ hP hD hS _ (lv_sub hl [0, 1, 2, 3, 4] rfl)
  refine lv_lconst (v := 0) hx hb dX0_placesNamed_0 (by decide) ?_
  refine lv_lstore (lv' := [(4, .long 0), (0, .ref (h 7)), (1, .int x), (2, .long a)]) hx hb dX0_placesNamed_1 hl (by decide) rfl (fun ls hl => ?_)
  refine lv_iconst (v := 0) hx hb dX0_placesNamed_3 (by decide) ?_
  refine lv_istore (lv' := [(6, .int 0), (4, .long 0), (0, .ref (h 7)), (1, .int x), (2, .long a)]) hx hb dX0_placesNamed_4 hl (by decide) rfl (fun ls hl => ?_)
  exact loop np 0 0 (by omega) rfl _ _ hP hD hS _ (lv_sub hl [0, 1, 2, 3, 4] rfl)

set_option maxHeartbeats 4000000 in
set_option maxRecDepth 100000 in
theorem k_M_namesOf (l : Launch) (D : va_G) (h : Nat → Nat) (k : Nat → ClassId) (tx : Nat → Int32) (ln : Nat) (rd : Int64) (wh : Bool) (cm : Nat) (R : RS) (nm : Nat → Int32) (nx : Nat → Int64) (np : Nat) (fi : Int64) (la : Int64) (em : Bool) (a : Int64) (hnp : np ≤ 60) :
    Ct l yX0_namesOf wsX0_namesOf (rmN 1) D vwCl (tyD k) [.ref (h 7), .long a] (wD h k tx ln rd wh cm R (nm, nx, np, fi, la, em)) (wD h k tx ln rd wh cm R (nm, nx, np, fi, la, em)) (some (.int (noL a nm np 0 0))) := by
  refine Ct.of (cc := cX0_namesOf) (maxL := 5) (ret := (some .int)) (lv := [(0, .ref (h 7)), (1, .long a)]) (by decide) rfl (Nat.le_of_ble_eq_true rfl) rfl ?_
  intro p e s m below meth c A ls hx hb hr hml hts hown hlocks hK hP hD hS hA hl
  have loop : ∀ (n : Nat) (i : Nat) (r : Int32), i + n = np → noL a nm n i r = noL a nm np 0 0 → ∀ (H : Heap) (locs : List Loc), va_P D vwCl (wD h k tx ln rd wh cm R (nm, nx, np, fi, la, em)) H → va_D A (wD h k tx ln rd wh cm R (nm, nx, np, fi, la, em)) → va_S A s.heap H locs → ∀ ls : Array Slot, lv_has ls 5 [(4, .int (nI i)), (3, .int r), (0, .ref (h 7)), (1, .long a)] →
      W p l e (rmN 1) s m ([.ref (h 7), .long a] : List Value).toArray below meth c H locs 0 0 (MQ below (CtQ D vwCl A (wD h k tx ln rd wh cm R (nm, nx, np, fi, la, em)) (some (.int (noL a nm np 0 0)))) ([.ref (h 7), .long a] : List Value).toArray s 0 0 A) (F0 m 5 ls []) := by
    intro n
    induction n with
    | zero =>
      intro i r hi he H locs hP hD hS ls hl
      refine lv_iload hx hb dX0_namesOf_5 (lv_at hl 0 rfl) ?_
      refine lv_aload_n hx hb dX0_namesOf_7 rfl (lv_at hl 2 rfl) ?_
      refine va_get (D := D) (ci := 0) (v := .int (nI np)) (C := RX0) (T := TX0) (N := 6) hx hb hts (fun w h => lw_in w (inX0 w h)) hown hK hP 7 rfl rfl 2 (by decide) (hts _ (lw_in _ t_51)) (fun _ h9 => h9) rfl dX0_namesOf_8 ?_
      refine lv_icmp_ge (tgt := 41) hx hb dX0_namesOf_11 (by decide) (fun c_11 => ?_) (fun c_11 => ?_)
      · have c_11 : np ≤ i := (nI_leI (a := np) (b := i) (by omega) (by omega)).mp c_11
        refine lv_iload_n hx hb dX0_namesOf_41 rfl (lv_at hl 1 rfl) ?_
        exact ct_endi hx hb hr hlocks rfl hP hD hS rfl (by rw [← he]; rfl) dX0_namesOf_42
      · have c_11 : i < np := Nat.lt_of_not_le (fun z => c_11 ((nI_leI (a := np) (b := i) (by omega) (by omega)).mpr z))
        exact absurd c_11 (by omega)
    | succ n ih =>
      intro i r hi he H locs hP hD hS ls hl
      refine lv_iload hx hb dX0_namesOf_5 (lv_at hl 0 rfl) ?_
      refine lv_aload_n hx hb dX0_namesOf_7 rfl (lv_at hl 2 rfl) ?_
      refine va_get (D := D) (ci := 0) (v := .int (nI np)) (C := RX0) (T := TX0) (N := 6) hx hb hts (fun w h => lw_in w (inX0 w h)) hown hK hP 7 rfl rfl 2 (by decide) (hts _ (lw_in _ t_51)) (fun _ h9 => h9) rfl dX0_namesOf_8 ?_
      refine lv_icmp_ge (tgt := 41) hx hb dX0_namesOf_11 (by decide) (fun c_11 => ?_) (fun c_11 => ?_)
      · have c_11 : np ≤ i := (nI_leI (a := np) (b := i) (by omega) (by omega)).mp c_11
        exact absurd c_11 (by omega)
      · have c_11 : i < np := Nat.lt_of_not_le (fun z => c_11 ((nI_leI (a := np) (b := i) (by omega) (by omega)).mpr z))
        refine lv_lload_n hx hb dX0_namesOf_14 rfl (lv_at hl 3 rfl) ?_
        refine lv_iload hx hb dX0_namesOf_15 (lv_at hl 0 rfl) ?_
        refine ct_callS (As := [.long a, .int (nI i)]) (rest := []) ⟨hx, hb, hml, hown, hts⟩ (k_M_holds l D h k tx ln rd wh cm R (nm, nx, np, fi, la, em) a i (by omega)) (cwS 2 hts (gS lw_in t_190 t_191 t_25 t_192) rfl rfl rfl (by decide +kernel) ⟨Nat.le_of_ble_eq_true rfl, Nat.le_of_ble_eq_true rfl⟩) hK hP hD hS hA rfl hl.1 rfl (Nat.le_of_ble_eq_true rfl) dX0_namesOf_17 ⟨Nat.zero_le _, Nat.zero_le _⟩ (fun H locs hP hD hS => ?_)
        refine W.eq (g2 := F0 m 20 ls [.int (bI (hB a i))]) rfl ?_
        refine lv_if_eq (tgt := 35) hx hb dX0_namesOf_20 (by decide) (fun c_20 => ?_) (fun c_20 => ?_)
        · have c_20 : (hB a i) = false := (bI_eq0 _).mp c_20
          refine lv_iinc (v := nI (i + 1)) (lv' := [(4, .int (nI (i + 1))), (3, .int r), (0, .ref (h 7)), (1, .long a)]) hx hb dX0_namesOf_35 hl (k := 0) rfl (nI_1 _) (by decide) rfl (fun ls hl => ?_)
          refine lv_goto (tgt := 5) hx hb dX0_namesOf_38 (by decide) ?_
          exact ih (i + 1) r (by omega) (by rw [← he, noL, if_neg (bF c_20)]) _ _ hP hD hS _ (lv_sub hl [0, 1, 2, 3] rfl)
        · have c_20 : (hB a i) = true := (bI_ne0 _).mp c_20
          refine lv_iload_n hx hb dX0_namesOf_23 rfl (lv_at hl 1 rfl) ?_
          refine lv_iconst (v := 1) hx hb dX0_namesOf_24 (by decide) ?_
          refine lv_aload_n hx hb dX0_namesOf_25 rfl (lv_at hl 2 rfl) ?_
          refine va_get (D := D) (ci := 0) (v := .ref (h 8)) (C := RX0) (T := TX0) (N := 6) hx hb hts (fun w h => lw_in w (inX0 w h)) hown hK hP 7 rfl rfl 0 (by decide) (hts _ (lw_in _ t_47)) (fun _ h9 => h9) rfl dX0_namesOf_26 ?_
          refine lv_iload hx hb dX0_namesOf_29 (lv_at hl 0 rfl) ?_
          refine wx_iald hx hb hK hP 8 5 rfl rfl (i := i) (by omega) (by decide) dX0_namesOf_31 ?_
          refine lv_ishl hx hb dX0_namesOf_32 ?_
          refine lv_ior hx hb dX0_namesOf_33 ?_
          refine lv_istore_n (lv' := [(3, .int (r ||| (1 <<< ((nm i) &&& 31)))), (4, .int (nI i)), (0, .ref (h 7)), (1, .long a)]) hx hb dX0_namesOf_34 rfl hl (by decide) rfl (fun ls hl => ?_)
          refine lv_iinc (v := nI (i + 1)) (lv' := [(4, .int (nI (i + 1))), (3, .int (r ||| (1 <<< ((nm i) &&& 31)))), (0, .ref (h 7)), (1, .long a)]) hx hb dX0_namesOf_35 hl (k := 1) rfl (nI_1 _) (by decide) rfl (fun ls hl => ?_)
          refine lv_goto (tgt := 5) hx hb dX0_namesOf_38 (by decide) ?_
          exact ih (i + 1) (r ||| (1 <<< ((nm i) &&& 31))) (by omega) (by rw [← he, noL, if_pos c_20]) _ _ hP hD hS _ (lv_sub hl [0, 1, 2, 3] rfl)
  refine lv_iconst (v := 0) hx hb dX0_namesOf_0 (by decide) ?_
  refine lv_istore_n (lv' := [(3, .int 0), (0, .ref (h 7)), (1, .long a)]) hx hb dX0_namesOf_1 rfl hl (by decide) rfl (fun ls hl => ?_)
  refine lv_iconst (v := 0) hx hb dX0_namesOf_2 (by decide) ?_
  refine lv_istore (lv' := [(4, .int 0), (3, .int 0), (0, .ref (h 7)), (1, .long a)]) hx hb dX0_namesOf_3 hl (by decide) rfl (fun ls hl => ?_)
  exact loop np 0 0 (by omega) rfl _ _ hP hD hS _ (lv_sub hl [0, 1, 2, 3] rfl)

set_option maxHeartbeats 4000000 in
set_option maxRecDepth 100000 in
theorem k_M_namesTwiceIn (l : Launch) (D : va_G) (h : Nat → Nat) (k : Nat → ClassId) (tx : Nat → Int32) (ln : Nat) (rd : Int64) (wh : Bool) (cm : Nat) (R : RS) (nm : Nat → Int32) (nx : Nat → Int64) (np : Nat) (fi : Int64) (la : Int64) (em : Bool) (a : Int64) (hnp : np ≤ 60) :
    Ct l yX0_namesTwiceIn wsX0_namesTwiceIn (rmN 1) D vwCl (tyD k) [.ref (h 7), .long a] (wD h k tx ln rd wh cm R (nm, nx, np, fi, la, em)) (wD h k tx ln rd wh cm R (nm, nx, np, fi, la, em)) (some (.int (ntF a nm np))) := by
  refine Ct.of (cc := cX0_namesTwiceIn) (maxL := 7) (ret := (some .int)) (lv := [(0, .ref (h 7)), (1, .long a)]) (by decide) rfl (Nat.le_of_ble_eq_true rfl) rfl ?_
  intro p e s m below meth c A ls hx hb hr hml hts hown hlocks hK hP hD hS hA hl
  have loop : ∀ (n : Nat) (i : Nat) (o : Int32) (t : Int32), i + n = np → ntL a nm n i o t = ntL a nm np 0 0 0 → ∀ (H : Heap) (locs : List Loc), va_P D vwCl (wD h k tx ln rd wh cm R (nm, nx, np, fi, la, em)) H → va_D A (wD h k tx ln rd wh cm R (nm, nx, np, fi, la, em)) → va_S A s.heap H locs → ∀ ls : Array Slot, lv_has ls 7 [(5, .int (nI i)), (4, .int t), (3, .int o), (0, .ref (h 7)), (1, .long a)] →
      W p l e (rmN 1) s m ([.ref (h 7), .long a] : List Value).toArray below meth c H locs 0 0 (MQ below (CtQ D vwCl A (wD h k tx ln rd wh cm R (nm, nx, np, fi, la, em)) (some (.int (ntF a nm np)))) ([.ref (h 7), .long a] : List Value).toArray s 0 0 A) (F0 m 8 ls []) := by
    intro n
    induction n with
    | zero =>
      intro i o t hi he H locs hP hD hS ls hl
      refine lv_iload hx hb dX0_namesTwiceIn_8 (lv_at hl 0 rfl) ?_
      refine lv_aload_n hx hb dX0_namesTwiceIn_10 rfl (lv_at hl 3 rfl) ?_
      refine va_get (D := D) (ci := 0) (v := .int (nI np)) (C := RX0) (T := TX0) (N := 6) hx hb hts (fun w h => lw_in w (inX0 w h)) hown hK hP 7 rfl rfl 2 (by decide) (hts _ (lw_in _ t_51)) (fun _ h9 => h9) rfl dX0_namesTwiceIn_11 ?_
      refine lv_icmp_ge (tgt := 57) hx hb dX0_namesTwiceIn_14 (by decide) (fun c_14 => ?_) (fun c_14 => ?_)
      · have c_14 : np ≤ i := (nI_leI (a := np) (b := i) (by omega) (by omega)).mp c_14
        refine lv_iload hx hb dX0_namesTwiceIn_57 (lv_at hl 1 rfl) ?_
        exact ct_endi hx hb hr hlocks rfl hP hD hS rfl (by rw [ntF, ← he]; rfl) dX0_namesTwiceIn_59
      · have c_14 : i < np := Nat.lt_of_not_le (fun z => c_14 ((nI_leI (a := np) (b := i) (by omega) (by omega)).mpr z))
        exact absurd c_14 (by omega)
    | succ n ih =>
      intro i o t hi he H locs hP hD hS ls hl
      refine lv_iload hx hb dX0_namesTwiceIn_8 (lv_at hl 0 rfl) ?_
      refine lv_aload_n hx hb dX0_namesTwiceIn_10 rfl (lv_at hl 3 rfl) ?_
      refine va_get (D := D) (ci := 0) (v := .int (nI np)) (C := RX0) (T := TX0) (N := 6) hx hb hts (fun w h => lw_in w (inX0 w h)) hown hK hP 7 rfl rfl 2 (by decide) (hts _ (lw_in _ t_51)) (fun _ h9 => h9) rfl dX0_namesTwiceIn_11 ?_
      refine lv_icmp_ge (tgt := 57) hx hb dX0_namesTwiceIn_14 (by decide) (fun c_14 => ?_) (fun c_14 => ?_)
      · have c_14 : np ≤ i := (nI_leI (a := np) (b := i) (by omega) (by omega)).mp c_14
        exact absurd c_14 (by omega)
      · have c_14 : i < np := Nat.lt_of_not_le (fun z => c_14 ((nI_leI (a := np) (b := i) (by omega) (by omega)).mpr z))
        refine lv_lload_n hx hb dX0_namesTwiceIn_17 rfl (lv_at hl 4 rfl) ?_
        refine lv_iload hx hb dX0_namesTwiceIn_18 (lv_at hl 0 rfl) ?_
        refine ct_callS (As := [.long a, .int (nI i)]) (rest := []) ⟨hx, hb, hml, hown, hts⟩ (k_M_holds l D h k tx ln rd wh cm R (nm, nx, np, fi, la, em) a i (by omega)) (cwS 2 hts (gS lw_in t_190 t_191 t_25 t_192) rfl rfl rfl (by decide +kernel) ⟨Nat.le_of_ble_eq_true rfl, Nat.le_of_ble_eq_true rfl⟩) hK hP hD hS hA rfl hl.1 rfl (Nat.le_of_ble_eq_true rfl) dX0_namesTwiceIn_20 ⟨Nat.zero_le _, Nat.zero_le _⟩ (fun H locs hP hD hS => ?_)
        refine W.eq (g2 := F0 m 23 ls [.int (bI (hB a i))]) rfl ?_
        refine lv_if_eq (tgt := 51) hx hb dX0_namesTwiceIn_23 (by decide) (fun c_23 => ?_) (fun c_23 => ?_)
        · have c_23 : (hB a i) = false := (bI_eq0 _).mp c_23
          refine lv_iinc (v := nI (i + 1)) (lv' := [(5, .int (nI (i + 1))), (4, .int t), (3, .int o), (0, .ref (h 7)), (1, .long a)]) hx hb dX0_namesTwiceIn_51 hl (k := 0) rfl (nI_1 _) (by decide) rfl (fun ls hl => ?_)
          refine lv_goto (tgt := 8) hx hb dX0_namesTwiceIn_54 (by decide) ?_
          exact ih (i + 1) o t (by omega) (by rw [← he, ntL, if_neg (bF c_23)]) _ _ hP hD hS _ (lv_sub hl [0, 1, 2, 3, 4] rfl)
        · have c_23 : (hB a i) = true := (bI_ne0 _).mp c_23
          refine lv_iconst (v := 1) hx hb dX0_namesTwiceIn_26 (by decide) ?_
          refine lv_aload_n hx hb dX0_namesTwiceIn_27 rfl (lv_at hl 3 rfl) ?_
          refine va_get (D := D) (ci := 0) (v := .ref (h 8)) (C := RX0) (T := TX0) (N := 6) hx hb hts (fun w h => lw_in w (inX0 w h)) hown hK hP 7 rfl rfl 0 (by decide) (hts _ (lw_in _ t_47)) (fun _ h9 => h9) rfl dX0_namesTwiceIn_28 ?_
          refine lv_iload hx hb dX0_namesTwiceIn_31 (lv_at hl 0 rfl) ?_
          refine wx_iald hx hb hK hP 8 5 rfl rfl (i := i) (by omega) (by decide) dX0_namesTwiceIn_33 ?_
          refine lv_ishl hx hb dX0_namesTwiceIn_34 ?_
          refine lv_istore (lv' := [(6, .int (1 <<< ((nm i) &&& 31))), (5, .int (nI i)), (4, .int t), (3, .int o), (0, .ref (h 7)), (1, .long a)]) hx hb dX0_namesTwiceIn_35 hl (by decide) rfl (fun ls hl => ?_)
          refine lv_iload hx hb dX0_namesTwiceIn_37 (lv_at hl 2 rfl) ?_
          refine lv_iload_n hx hb dX0_namesTwiceIn_39 rfl (lv_at hl 3 rfl) ?_
          refine lv_iload hx hb dX0_namesTwiceIn_40 (lv_at hl 0 rfl) ?_
          refine lv_iand hx hb dX0_namesTwiceIn_42 ?_
          refine lv_ior hx hb dX0_namesTwiceIn_43 ?_
          refine lv_istore (lv' := [(4, .int (t ||| (o &&& (1 <<< ((nm i) &&& 31))))), (6, .int (1 <<< ((nm i) &&& 31))), (5, .int (nI i)), (3, .int o), (0, .ref (h 7)), (1, .long a)]) hx hb dX0_namesTwiceIn_44 hl (by decide) rfl (fun ls hl => ?_)
          refine lv_iload_n hx hb dX0_namesTwiceIn_46 rfl (lv_at hl 3 rfl) ?_
          refine lv_iload hx hb dX0_namesTwiceIn_47 (lv_at hl 1 rfl) ?_
          refine lv_ior hx hb dX0_namesTwiceIn_49 ?_
          refine lv_istore_n (lv' := [(3, .int (o ||| (1 <<< ((nm i) &&& 31)))), (4, .int (t ||| (o &&& (1 <<< ((nm i) &&& 31))))), (6, .int (1 <<< ((nm i) &&& 31))), (5, .int (nI i)), (0, .ref (h 7)), (1, .long a)]) hx hb dX0_namesTwiceIn_50 rfl hl (by decide) rfl (fun ls hl => ?_)
          refine lv_iinc (v := nI (i + 1)) (lv' := [(5, .int (nI (i + 1))), (3, .int (o ||| (1 <<< ((nm i) &&& 31)))), (4, .int (t ||| (o &&& (1 <<< ((nm i) &&& 31))))), (6, .int (1 <<< ((nm i) &&& 31))), (0, .ref (h 7)), (1, .long a)]) hx hb dX0_namesTwiceIn_51 hl (k := 3) rfl (nI_1 _) (by decide) rfl (fun ls hl => ?_)
          refine lv_goto (tgt := 8) hx hb dX0_namesTwiceIn_54 (by decide) ?_
          exact ih (i + 1) (o ||| (1 <<< ((nm i) &&& 31))) (t ||| (o &&& (1 <<< ((nm i) &&& 31)))) (by omega) (by rw [← he, ntL, if_pos c_23]) _ _ hP hD hS _ (lv_sub hl [0, 2, 1, 4, 5] rfl)
  refine lv_iconst (v := 0) hx hb dX0_namesTwiceIn_0 (by decide) ?_
  refine lv_istore_n (lv' := [(3, .int 0), (0, .ref (h 7)), (1, .long a)]) hx hb dX0_namesTwiceIn_1 rfl hl (by decide) rfl (fun ls hl => ?_)
  refine lv_iconst (v := 0) hx hb dX0_namesTwiceIn_2 (by decide) ?_
  refine lv_istore (lv' := [(4, .int 0), (3, .int 0), (0, .ref (h 7)), (1, .long a)]) hx hb dX0_namesTwiceIn_3 hl (by decide) rfl (fun ls hl => ?_)
  refine lv_iconst (v := 0) hx hb dX0_namesTwiceIn_5 (by decide) ?_
  refine lv_istore (lv' := [(5, .int 0), (4, .int 0), (3, .int 0), (0, .ref (h 7)), (1, .long a)]) hx hb dX0_namesTwiceIn_6 hl (by decide) rfl (fun ls hl => ?_)
  exact loop np 0 0 0 (by omega) rfl _ _ hP hD hS _ (lv_sub hl [0, 1, 2, 3, 4] rfl)

set_option maxHeartbeats 4000000 in
set_option maxRecDepth 100000 in
theorem k_M_competingNames (l : Launch) (D : va_G) (h : Nat → Nat) (k : Nat → ClassId) (tx : Nat → Int32) (ln : Nat) (rd : Int64) (wh : Bool) (cm : Nat) (R : RS) (nm : Nat → Int32) (nx : Nat → Int64) (np : Nat) (fi : Int64) (la : Int64) (em : Bool)  (hnp : np ≤ 60) :
    Ct l yX0_competingNames wsX0_competingNames (rmN 2) D vwCl (tyD k) [.ref (h 7)] (wD h k tx ln rd wh cm R (nm, nx, np, fi, la, em)) (wD h k tx ln rd wh cm R (nm, nx, np, fi, la, em)) (some (.int (cpF nm nx np fi))) := by
  refine Ct.of (cc := cX0_competingNames) (maxL := 3) (ret := (some .int)) (lv := [(0, .ref (h 7))]) (by decide) rfl (Nat.le_of_ble_eq_true rfl) rfl ?_
  intro p e s m below meth c A ls hx hb hr hml hts hown hlocks hK hP hD hS hA hl
  have loop : ∀ (n : Nat) (i : Nat) (r : Int32), i + n = np → cpL nm nx np n i r = cpF nm nx np fi → ∀ (H : Heap) (locs : List Loc), va_P D vwCl (wD h k tx ln rd wh cm R (nm, nx, np, fi, la, em)) H → va_D A (wD h k tx ln rd wh cm R (nm, nx, np, fi, la, em)) → va_S A s.heap H locs → ∀ ls : Array Slot, lv_has ls 3 [(2, .int (nI i)), (1, .int r), (0, .ref (h 7))] →
      W p l e (rmN 2) s m ([.ref (h 7)] : List Value).toArray below meth c H locs 0 0 (MQ below (CtQ D vwCl A (wD h k tx ln rd wh cm R (nm, nx, np, fi, la, em)) (some (.int (cpF nm nx np fi)))) ([.ref (h 7)] : List Value).toArray s 0 0 A) (F0 m 11 ls []) := by
    intro n
    induction n with
    | zero =>
      intro i r hi he H locs hP hD hS ls hl
      refine lv_iload_n hx hb dX0_competingNames_11 rfl (lv_at hl 0 rfl) ?_
      refine lv_aload_n hx hb dX0_competingNames_12 rfl (lv_at hl 2 rfl) ?_
      refine va_get (D := D) (ci := 0) (v := .int (nI np)) (C := RX0) (T := TX0) (N := 6) hx hb hts (fun w h => lw_in w (inX0 w h)) hown hK hP 7 rfl rfl 2 (by decide) (hts _ (lw_in _ t_51)) (fun _ h9 => h9) rfl dX0_competingNames_13 ?_
      refine lv_icmp_ge (tgt := 38) hx hb dX0_competingNames_16 (by decide) (fun c_16 => ?_) (fun c_16 => ?_)
      · have c_16 : np ≤ i := (nI_leI (a := np) (b := i) (by omega) (by omega)).mp c_16
        refine lv_iload_n hx hb dX0_competingNames_38 rfl (lv_at hl 1 rfl) ?_
        exact ct_endi hx hb hr hlocks rfl hP hD hS rfl (by rw [← he]; rfl) dX0_competingNames_39
      · have c_16 : i < np := Nat.lt_of_not_le (fun z => c_16 ((nI_leI (a := np) (b := i) (by omega) (by omega)).mpr z))
        exact absurd c_16 (by omega)
    | succ n ih =>
      intro i r hi he H locs hP hD hS ls hl
      refine lv_iload_n hx hb dX0_competingNames_11 rfl (lv_at hl 0 rfl) ?_
      refine lv_aload_n hx hb dX0_competingNames_12 rfl (lv_at hl 2 rfl) ?_
      refine va_get (D := D) (ci := 0) (v := .int (nI np)) (C := RX0) (T := TX0) (N := 6) hx hb hts (fun w h => lw_in w (inX0 w h)) hown hK hP 7 rfl rfl 2 (by decide) (hts _ (lw_in _ t_51)) (fun _ h9 => h9) rfl dX0_competingNames_13 ?_
      refine lv_icmp_ge (tgt := 38) hx hb dX0_competingNames_16 (by decide) (fun c_16 => ?_) (fun c_16 => ?_)
      · have c_16 : np ≤ i := (nI_leI (a := np) (b := i) (by omega) (by omega)).mp c_16
        exact absurd c_16 (by omega)
      · have c_16 : i < np := Nat.lt_of_not_le (fun z => c_16 ((nI_leI (a := np) (b := i) (by omega) (by omega)).mpr z))
        refine lv_iload_n hx hb dX0_competingNames_19 rfl (lv_at hl 1 rfl) ?_
        refine lv_aload_n hx hb dX0_competingNames_20 rfl (lv_at hl 2 rfl) ?_
        refine lv_aload_n hx hb dX0_competingNames_21 rfl (lv_at hl 2 rfl) ?_
        refine va_get (D := D) (ci := 0) (v := .ref (h 9)) (C := RX0) (T := TX0) (N := 6) hx hb hts (fun w h => lw_in w (inX0 w h)) hown hK hP 7 rfl rfl 1 (by decide) (hts _ (lw_in _ t_49)) (fun _ h9 => h9) rfl dX0_competingNames_22 ?_
        refine lv_iload_n hx hb dX0_competingNames_25 rfl (lv_at hl 0 rfl) ?_
        refine wx_lald hx hb hK hP 9 6 rfl rfl (i := i) (by omega) (by decide) dX0_competingNames_26 ?_
        refine ct_callV (As := [.long (nx i)]) (rest := [.int r]) ⟨hx, hb, hml, hown, hts⟩ (k_M_namesTwiceIn l D h k tx ln rd wh cm R nm nx np fi la em (nx i) (by omega)) (cwV 1 hts (gV lw_in t_222 t_224 t_9 t_25 t_225) rfl rfl rfl (by decide +kernel) ⟨Nat.le_of_ble_eq_true rfl, Nat.le_of_ble_eq_true rfl⟩) 7 rfl rfl hK hP hD hS hA rfl hl.1 rfl (Nat.le_of_ble_eq_true rfl) dX0_competingNames_27 ⟨Nat.zero_le _, Nat.zero_le _⟩ (fun H locs hP hD hS => ?_)
        refine W.eq (g2 := F0 m 30 ls [.int (ntF (nx i) nm np), .int r]) rfl ?_
        refine lv_ior hx hb dX0_competingNames_30 ?_
        refine lv_istore_n (lv' := [(1, .int (r ||| (ntF (nx i) nm np))), (2, .int (nI i)), (0, .ref (h 7))]) hx hb dX0_competingNames_31 rfl hl (by decide) rfl (fun ls hl => ?_)
        refine lv_iinc (v := nI (i + 1)) (lv' := [(2, .int (nI (i + 1))), (1, .int (r ||| (ntF (nx i) nm np))), (0, .ref (h 7))]) hx hb dX0_competingNames_32 hl (k := 1) rfl (nI_1 _) (by decide) rfl (fun ls hl => ?_)
        refine lv_goto (tgt := 11) hx hb dX0_competingNames_35 (by decide) ?_
        exact ih (i + 1) (r ||| (ntF (nx i) nm np)) (by omega) (by rw [← he, cpL]) _ _ hP hD hS _ (lv_sub hl [0, 1, 2] rfl)
  refine lv_aload_n hx hb dX0_competingNames_0 rfl (lv_at hl 0 rfl) ?_
  refine lv_aload_n hx hb dX0_competingNames_1 rfl (lv_at hl 0 rfl) ?_
  refine va_get (D := D) (ci := 0) (v := .long fi) (C := RX0) (T := TX0) (N := 6) hx hb hts (fun w h => lw_in w (inX0 w h)) hown hK hP 7 rfl rfl 3 (by decide) (hts _ (lw_in _ t_54)) (fun _ h9 => h9) rfl dX0_competingNames_2 ?_
  refine ct_callV (As := [.long fi]) (rest := []) ⟨hx, hb, hml, hown, hts⟩ (k_M_namesTwiceIn l D h k tx ln rd wh cm R nm nx np fi la em fi (by omega)) (cwV 1 hts (gV lw_in t_222 t_224 t_9 t_25 t_225) rfl rfl rfl (by decide +kernel) ⟨Nat.le_of_ble_eq_true rfl, Nat.le_of_ble_eq_true rfl⟩) 7 rfl rfl hK hP hD hS hA rfl hl.1 rfl (Nat.le_of_ble_eq_true rfl) dX0_competingNames_5 ⟨Nat.zero_le _, Nat.zero_le _⟩ (fun H locs hP hD hS => ?_)
  refine W.eq (g2 := F0 m 8 ls [.int (ntF fi nm np)]) rfl ?_
  refine lv_istore_n (lv' := [(1, .int (ntF fi nm np)), (0, .ref (h 7))]) hx hb dX0_competingNames_8 rfl hl (by decide) rfl (fun ls hl => ?_)
  refine lv_iconst (v := 0) hx hb dX0_competingNames_9 (by decide) ?_
  refine lv_istore_n (lv' := [(2, .int 0), (1, .int (ntF fi nm np)), (0, .ref (h 7))]) hx hb dX0_competingNames_10 rfl hl (by decide) rfl (fun ls hl => ?_)
  exact loop np 0 (ntF fi nm np) (by omega) rfl _ _ hP hD hS _ (lv_sub hl [0, 1, 2] rfl)
end
section
/-! The methods of the class: reader (laid by program) -/
set_option maxHeartbeats 4000000 in
set_option maxRecDepth 100000 in
theorem k_R_begin (l : Launch) (D : va_G) (h : Nat → Nat) (k : Nat → ClassId) (tx : Nat → Int32) (ln : Nat) (rd : Int64) (wh : Bool) (cm : Nat) (oF : Nat → Int64) (oL : Nat → Int64) (oE : Nat → Bool) (sp : Nat → Int32) (dp : Nat) (sta : Int32) (pF : Int64) (pL : Int64) (pE : Bool) (nm : Nat → Int32) (nx : Nat → Int64) (np : Nat) (fi : Int64) (la : Int64) (em : Bool)  (hnp : np ≤ 60) :
    Ct l yX1_begin wsX1_begin (rmN 1) D vwCl (tyD k) [.ref (h 2)] (wD h k tx ln rd wh cm (oF, oL, oE, sp, dp, sta, pF, pL, pE) (nm, nx, np, fi, la, em)) (wD h k tx ln rd wh cm (r_begin (oF, oL, oE, sp, dp, sta, pF, pL, pE)) (m_clear (nm, nx, np, fi, la, em))) none := by
  refine Ct.of (cc := cX1_begin) (maxL := 1) (ret := none) (lv := [(0, .ref (h 2))]) (by decide) rfl (Nat.le_of_ble_eq_true rfl) rfl ?_
  intro p e s m below meth c A ls hx hb hr hml hts hown hlocks hK hP hD hS hA hl
  refine lv_aload_n hx hb dX1_begin_0 rfl (lv_at hl 0 rfl) ?_
  refine va_get (D := D) (ci := 1) (v := .ref (h 7)) (C := RX1) (T := TX1) (N := 10) hx hb hts (fun w h => lw_in w (inX1 w h)) hown hK hP 2 rfl rfl 0 (by decide) (hts _ (lw_in _ t_79)) (fun _ h9 => h9) rfl dX1_begin_1 ?_
  refine ct_callV (As := []) (rest := []) ⟨hx, hb, hml, hown, hts⟩ (k_M_clear l D h k tx ln rd wh cm (oF, oL, oE, sp, dp, sta, pF, pL, pE) nm nx np fi la em) (cwV 0 hts (gV lw_in t_150 t_151 t_152 t_25 t_153) rfl rfl rfl (by decide +kernel) ⟨Nat.le_of_ble_eq_true rfl, Nat.le_of_ble_eq_true rfl⟩) 7 rfl rfl hK hP hD hS hA rfl hl.1 rfl (Nat.le_of_ble_eq_true rfl) dX1_begin_4 ⟨Nat.zero_le _, Nat.zero_le _⟩ (fun H locs hP hD hS => ?_)
  refine W.eq (g2 := F0 m 7 ls []) rfl ?_
  have hP : va_P D vwCl (wD h k tx ln rd wh cm (oF, oL, oE, sp, dp, sta, pF, pL, pE) (nm, nx, 0, 0, 0, false)) H := hP
  have hD : va_D A (wD h k tx ln rd wh cm (oF, oL, oE, sp, dp, sta, pF, pL, pE) (nm, nx, 0, 0, 0, false)) := hD
  refine lv_aload_n hx hb dX1_begin_7 rfl (lv_at hl 0 rfl) ?_
  refine lv_iconst (v := 0) hx hb dX1_begin_8 (by decide) ?_
  refine lv_eqi (show 0 = nI 0 from rfl) ?_
  refine va_put (D := D) (ci := 1) (v := .int (nI 0)) (ty := .int) (C := RX1) (T := TX1) (N := 10) hx hb hts (fun w h => lw_in w (inX1 w h)) tyX1 tyX1_ok nmX1 hown hK hP hD hS 2 rfl rfl 5 (by decide) (hts _ (lw_in _ t_85)) (fun _ h9 => h9) rfl (by decide +kernel) rfl rfl (Nat.le_of_ble_eq_true rfl) dX1_begin_9 (fun H locs hP hD hS => ?_)
  have hP : va_P D vwCl (wD h k tx ln rd wh cm (oF, oL, oE, sp, 0, sta, pF, pL, pE) (nm, nx, 0, 0, 0, false)) H := hP
  have hD : va_D A (wD h k tx ln rd wh cm (oF, oL, oE, sp, 0, sta, pF, pL, pE) (nm, nx, 0, 0, 0, false)) := hD
  refine lv_aload_n hx hb dX1_begin_12 rfl (lv_at hl 0 rfl) ?_
  refine lv_iconst (v := 0) hx hb dX1_begin_13 (by decide) ?_
  refine va_put (D := D) (ci := 1) (v := .int 0) (ty := .int) (C := RX1) (T := TX1) (N := 10) hx hb hts (fun w h => lw_in w (inX1 w h)) tyX1 tyX1_ok nmX1 hown hK hP hD hS 2 rfl rfl 6 (by decide) (hts _ (lw_in _ t_86)) (fun _ h9 => h9) rfl (by decide +kernel) rfl rfl (Nat.le_of_ble_eq_true rfl) dX1_begin_14 (fun H locs hP hD hS => ?_)
  have hP : va_P D vwCl (wD h k tx ln rd wh cm (oF, oL, oE, sp, 0, 0, pF, pL, pE) (nm, nx, 0, 0, 0, false)) H := hP
  have hD : va_D A (wD h k tx ln rd wh cm (oF, oL, oE, sp, 0, 0, pF, pL, pE) (nm, nx, 0, 0, 0, false)) := hD
  exact ct_endv hx hb hr hlocks hP hD hS rfl rfl dX1_begin_17

set_option maxHeartbeats 4000000 in
set_option maxRecDepth 100000 in
theorem k_R_open (l : Launch) (D : va_G) (h : Nat → Nat) (k : Nat → ClassId) (tx : Nat → Int32) (ln : Nat) (rd : Int64) (wh : Bool) (cm : Nat) (oF : Nat → Int64) (oL : Nat → Int64) (oE : Nat → Bool) (sp : Nat → Int32) (dp : Nat) (sta : Int32) (pF : Int64) (pL : Int64) (pE : Bool) (M : MS)  (hdp : dp ≤ 12) :
    Ct l yX1_open wsX1_open (rmN 0) D vwCl (tyD k) [.ref (h 2)] (wD h k tx ln rd wh cm (oF, oL, oE, sp, dp, sta, pF, pL, pE) M) (wD h k tx ln rd wh cm (r_open (oF, oL, oE, sp, dp, sta, pF, pL, pE)).1 M) (some (.int ((r_open (oF, oL, oE, sp, dp, sta, pF, pL, pE)).2))) := by
  refine Ct.of (cc := cX1_open) (maxL := 1) (ret := (some .int)) (lv := [(0, .ref (h 2))]) (by decide) rfl (Nat.le_of_ble_eq_true rfl) rfl ?_
  intro p e s m below meth c A ls hx hb hr hml hts hown hlocks hK hP hD hS hA hl
  refine lv_aload_n hx hb dX1_open_0 rfl (lv_at hl 0 rfl) ?_
  refine va_get (D := D) (ci := 1) (v := .int (nI dp)) (C := RX1) (T := TX1) (N := 10) hx hb hts (fun w h => lw_in w (inX1 w h)) hown hK hP 2 rfl rfl 5 (by decide) (hts _ (lw_in _ t_85)) (fun _ h9 => h9) rfl dX1_open_1 ?_
  refine lv_bipush (v := 12) hx hb dX1_open_4 (by decide) ?_
  refine lv_icmp_lt (tgt := 11) hx hb dX1_open_6 (by decide) (fun c_6 => ?_) (fun c_6 => ?_)
  · have c_6 : dp < 12 := (nI_ltI (a := dp) (b := 12) (by omega) (by omega)).mp c_6
    refine lv_aload_n hx hb dX1_open_11 rfl (lv_at hl 0 rfl) ?_
    refine va_get (D := D) (ci := 1) (v := .ref (h 6)) (C := RX1) (T := TX1) (N := 10) hx hb hts (fun w h => lw_in w (inX1 w h)) hown hK hP 2 rfl rfl 4 (by decide) (hts _ (lw_in _ t_84)) (fun _ h9 => h9) rfl dX1_open_12 ?_
    refine lv_aload_n hx hb dX1_open_15 rfl (lv_at hl 0 rfl) ?_
    refine va_get (D := D) (ci := 1) (v := .int (nI dp)) (C := RX1) (T := TX1) (N := 10) hx hb hts (fun w h => lw_in w (inX1 w h)) hown hK hP 2 rfl rfl 5 (by decide) (hts _ (lw_in _ t_85)) (fun _ h9 => h9) rfl dX1_open_16 ?_
    refine lv_iconst (v := 0) hx hb dX1_open_19 (by decide) ?_
    refine wx_iast hx hb hK hP hD hS 6 4 rfl rfl (i := dp) (by omega) (by decide) dX1_open_20 (fun H locs hP hD hS => ?_)
    have hP : va_P D vwCl (wD h k tx ln rd wh cm (oF, oL, oE, (upd sp dp 0), dp, sta, pF, pL, pE) M) H := hP
    have hD : va_D A (wD h k tx ln rd wh cm (oF, oL, oE, (upd sp dp 0), dp, sta, pF, pL, pE) M) := hD
    refine lv_aload_n hx hb dX1_open_21 rfl (lv_at hl 0 rfl) ?_
    refine lv_dup hx hb dX1_open_22 rfl ?_
    refine va_get (D := D) (ci := 1) (v := .int (nI dp)) (C := RX1) (T := TX1) (N := 10) hx hb hts (fun w h => lw_in w (inX1 w h)) hown hK hP 2 rfl rfl 5 (by decide) (hts _ (lw_in _ t_85)) (fun _ h9 => h9) rfl dX1_open_23 ?_
    refine lv_iconst (v := 1) hx hb dX1_open_26 (by decide) ?_
    refine lv_iadd hx hb dX1_open_27 ?_
    refine lv_eqi (show (nI dp + 1) = nI (dp + 1) from nI_1 _) ?_
    refine va_put (D := D) (ci := 1) (v := .int (nI (dp + 1))) (ty := .int) (C := RX1) (T := TX1) (N := 10) hx hb hts (fun w h => lw_in w (inX1 w h)) tyX1 tyX1_ok nmX1 hown hK hP hD hS 2 rfl rfl 5 (by decide) (hts _ (lw_in _ t_85)) (fun _ h9 => h9) rfl (by decide +kernel) rfl rfl (Nat.le_of_ble_eq_true rfl) dX1_open_28 (fun H locs hP hD hS => ?_)
    have hP : va_P D vwCl (wD h k tx ln rd wh cm (oF, oL, oE, (upd sp dp 0), (dp + 1), sta, pF, pL, pE) M) H := hP
    have hD : va_D A (wD h k tx ln rd wh cm (oF, oL, oE, (upd sp dp 0), (dp + 1), sta, pF, pL, pE) M) := hD
    refine lv_aload_n hx hb dX1_open_31 rfl (lv_at hl 0 rfl) ?_
    refine lv_iconst (v := 1) hx hb dX1_open_32 (by decide) ?_
    refine va_put (D := D) (ci := 1) (v := .int 1) (ty := .int) (C := RX1) (T := TX1) (N := 10) hx hb hts (fun w h => lw_in w (inX1 w h)) tyX1 tyX1_ok nmX1 hown hK hP hD hS 2 rfl rfl 6 (by decide) (hts _ (lw_in _ t_86)) (fun _ h9 => h9) rfl (by decide +kernel) rfl rfl (Nat.le_of_ble_eq_true rfl) dX1_open_33 (fun H locs hP hD hS => ?_)
    have hP : va_P D vwCl (wD h k tx ln rd wh cm (oF, oL, oE, (upd sp dp 0), (dp + 1), 1, pF, pL, pE) M) H := hP
    have hD : va_D A (wD h k tx ln rd wh cm (oF, oL, oE, (upd sp dp 0), (dp + 1), 1, pF, pL, pE) M) := hD
    refine lv_iconst (v := 0) hx hb dX1_open_36 (by decide) ?_
    have e_37 : r_open (oF, oL, oE, sp, dp, sta, pF, pL, pE) = ((oF, oL, oE, (upd sp dp 0), (dp + 1), 1, pF, pL, pE), 0) := by simp [r_open, c_6, Nat.not_le.mpr c_6]
    exact ct_endi hx hb hr hlocks rfl hP hD hS (by rw [e_37]) (by rw [e_37]) dX1_open_37
  · have c_6 : 12 ≤ dp := Nat.le_of_not_lt (fun z => c_6 ((nI_ltI (a := dp) (b := 12) (by omega) (by omega)).mpr z))
    refine lv_iconst (v := 2) hx hb dX1_open_9 (by decide) ?_
    have e_10 : r_open (oF, oL, oE, sp, dp, sta, pF, pL, pE) = ((oF, oL, oE, sp, dp, sta, pF, pL, pE), 2) := by simp [r_open, c_6, Nat.not_lt.mpr c_6]
    exact ct_endi hx hb hr hlocks rfl hP hD hS (by rw [e_10]) (by rw [e_10]) dX1_open_10

set_option maxHeartbeats 4000000 in
set_option maxRecDepth 100000 in
theorem k_R_takeName (l : Launch) (D : va_G) (h : Nat → Nat) (k : Nat → ClassId) (tx : Nat → Int32) (ln : Nat) (rd : Int64) (wh : Bool) (cm : Nat) (oF : Nat → Int64) (oL : Nat → Int64) (oE : Nat → Bool) (sp : Nat → Int32) (dp : Nat) (sta : Int32) (pF : Int64) (pL : Int64) (pE : Bool) (nm : Nat → Int32) (nx : Nat → Int64) (np : Nat) (fi : Int64) (la : Int64) (em : Bool) (x : Int32) (hnp : np ≤ 60) :
    Ct l yX1_takeName wsX1_takeName (rmN 2) D vwCl (tyD k) [.ref (h 2), .int x] (wD h k tx ln rd wh cm (oF, oL, oE, sp, dp, sta, pF, pL, pE) (nm, nx, np, fi, la, em)) (wD h k tx ln rd wh cm ((r_name (oF, oL, oE, sp, dp, sta, pF, pL, pE) (nm, nx, np, fi, la, em) x).1) ((r_name (oF, oL, oE, sp, dp, sta, pF, pL, pE) (nm, nx, np, fi, la, em) x).2.1)) (some (.int ((r_name (oF, oL, oE, sp, dp, sta, pF, pL, pE) (nm, nx, np, fi, la, em) x).2.2))) := by
  refine Ct.of (cc := cX1_takeName) (maxL := 2) (ret := (some .int)) (lv := [(0, .ref (h 2)), (1, .int x)]) (by decide) rfl (Nat.le_of_ble_eq_true rfl) rfl ?_
  intro p e s m below meth c A ls hx hb hr hml hts hown hlocks hK hP hD hS hA hl
  refine lv_aload_n hx hb dX1_takeName_0 rfl (lv_at hl 0 rfl) ?_
  refine va_get (D := D) (ci := 1) (v := .ref (h 7)) (C := RX1) (T := TX1) (N := 10) hx hb hts (fun w h => lw_in w (inX1 w h)) hown hK hP 2 rfl rfl 0 (by decide) (hts _ (lw_in _ t_79)) (fun _ h9 => h9) rfl dX1_takeName_1 ?_
  refine ct_callV (As := []) (rest := []) ⟨hx, hb, hml, hown, hts⟩ (k_M_isFull l D h k tx ln rd wh cm (oF, oL, oE, sp, dp, sta, pF, pL, pE) nm nx np fi la em  (by omega)) (cwV 0 hts (gV lw_in t_170 t_171 t_172 t_25 t_173) rfl rfl rfl (by decide +kernel) ⟨Nat.le_of_ble_eq_true rfl, Nat.le_of_ble_eq_true rfl⟩) 7 rfl rfl hK hP hD hS hA rfl hl.1 rfl (Nat.le_of_ble_eq_true rfl) dX1_takeName_4 ⟨Nat.zero_le _, Nat.zero_le _⟩ (fun H locs hP hD hS => ?_)
  refine W.eq (g2 := F0 m 7 ls [.int (bI (decide (60 ≤ np)))]) rfl ?_
  refine lv_if_eq (tgt := 12) hx hb dX1_takeName_7 (by decide) (fun c_7 => ?_) (fun c_7 => ?_)
  · have c_7 : (decide (60 ≤ np)) = false := (bI_eq0 _).mp c_7
    have c_7 : ¬ 60 ≤ np := of_decide_eq_false c_7
    refine lv_aload_n hx hb dX1_takeName_12 rfl (lv_at hl 0 rfl) ?_
    refine lv_lconst (v := 1) hx hb dX1_takeName_13 (by decide) ?_
    refine lv_aload_n hx hb dX1_takeName_14 rfl (lv_at hl 0 rfl) ?_
    refine va_get (D := D) (ci := 1) (v := .ref (h 7)) (C := RX1) (T := TX1) (N := 10) hx hb hts (fun w h => lw_in w (inX1 w h)) hown hK hP 2 rfl rfl 0 (by decide) (hts _ (lw_in _ t_79)) (fun _ h9 => h9) rfl dX1_takeName_15 ?_
    refine va_get (D := D) (ci := 0) (v := .int (nI np)) (C := RX0) (T := TX0) (N := 6) hx hb hts (fun w h => lw_in w (inX0 w h)) hown hK hP 7 rfl rfl 2 (by decide) (hts _ (lw_in _ t_53)) (fun _ h9 => h9) rfl dX1_takeName_18 ?_
    refine lv_lshl (v := ((1 : Int64) <<< ((nI np).toInt64 &&& 63))) hx hb dX1_takeName_21 rfl ?_
    refine va_put (D := D) (ci := 1) (v := .long ((1 : Int64) <<< ((nI np).toInt64 &&& 63))) (ty := .long) (C := RX1) (T := TX1) (N := 10) hx hb hts (fun w h => lw_in w (inX1 w h)) tyX1 tyX1_ok nmX1 hown hK hP hD hS 2 rfl rfl 7 (by decide) (hts _ (lw_in _ t_87)) (fun _ h9 => h9) rfl (by decide +kernel) rfl rfl (Nat.le_of_ble_eq_true rfl) dX1_takeName_22 (fun H locs hP hD hS => ?_)
    have hP : va_P D vwCl (wD h k tx ln rd wh cm (oF, oL, oE, sp, dp, sta, ((1 : Int64) <<< ((nI np).toInt64 &&& 63)), pL, pE) (nm, nx, np, fi, la, em)) H := hP
    have hD : va_D A (wD h k tx ln rd wh cm (oF, oL, oE, sp, dp, sta, ((1 : Int64) <<< ((nI np).toInt64 &&& 63)), pL, pE) (nm, nx, np, fi, la, em)) := hD
    refine lv_aload_n hx hb dX1_takeName_25 rfl (lv_at hl 0 rfl) ?_
    refine lv_aload_n hx hb dX1_takeName_26 rfl (lv_at hl 0 rfl) ?_
    refine va_get (D := D) (ci := 1) (v := .long ((1 : Int64) <<< ((nI np).toInt64 &&& 63))) (C := RX1) (T := TX1) (N := 10) hx hb hts (fun w h => lw_in w (inX1 w h)) hown hK hP 2 rfl rfl 7 (by decide) (hts _ (lw_in _ t_87)) (fun _ h9 => h9) rfl dX1_takeName_27 ?_
    refine va_put (D := D) (ci := 1) (v := .long ((1 : Int64) <<< ((nI np).toInt64 &&& 63))) (ty := .long) (C := RX1) (T := TX1) (N := 10) hx hb hts (fun w h => lw_in w (inX1 w h)) tyX1 tyX1_ok nmX1 hown hK hP hD hS 2 rfl rfl 8 (by decide) (hts _ (lw_in _ t_88)) (fun _ h9 => h9) rfl (by decide +kernel) rfl rfl (Nat.le_of_ble_eq_true rfl) dX1_takeName_30 (fun H locs hP hD hS => ?_)
    have hP : va_P D vwCl (wD h k tx ln rd wh cm (oF, oL, oE, sp, dp, sta, ((1 : Int64) <<< ((nI np).toInt64 &&& 63)), ((1 : Int64) <<< ((nI np).toInt64 &&& 63)), pE) (nm, nx, np, fi, la, em)) H := hP
    have hD : va_D A (wD h k tx ln rd wh cm (oF, oL, oE, sp, dp, sta, ((1 : Int64) <<< ((nI np).toInt64 &&& 63)), ((1 : Int64) <<< ((nI np).toInt64 &&& 63)), pE) (nm, nx, np, fi, la, em)) := hD
    refine lv_aload_n hx hb dX1_takeName_33 rfl (lv_at hl 0 rfl) ?_
    refine lv_iconst (v := 0) hx hb dX1_takeName_34 (by decide) ?_
    refine lv_eqi (show 0 = bI false from rfl) ?_
    refine va_put (D := D) (ci := 1) (v := .int (bI false)) (ty := .boolean) (C := RX1) (T := TX1) (N := 10) hx hb hts (fun w h => lw_in w (inX1 w h)) tyX1 tyX1_ok nmX1 hown hK hP hD hS 2 rfl rfl 9 (by decide) (hts _ (lw_in _ t_89)) (fun _ h9 => h9) rfl (by decide +kernel) (bI_narrow _) (bI_fits _) (Nat.le_of_ble_eq_true rfl) dX1_takeName_35 (fun H locs hP hD hS => ?_)
    have hP : va_P D vwCl (wD h k tx ln rd wh cm (oF, oL, oE, sp, dp, sta, ((1 : Int64) <<< ((nI np).toInt64 &&& 63)), ((1 : Int64) <<< ((nI np).toInt64 &&& 63)), false) (nm, nx, np, fi, la, em)) H := hP
    have hD : va_D A (wD h k tx ln rd wh cm (oF, oL, oE, sp, dp, sta, ((1 : Int64) <<< ((nI np).toInt64 &&& 63)), ((1 : Int64) <<< ((nI np).toInt64 &&& 63)), false) (nm, nx, np, fi, la, em)) := hD
    refine lv_aload_n hx hb dX1_takeName_38 rfl (lv_at hl 0 rfl) ?_
    refine va_get (D := D) (ci := 1) (v := .ref (h 7)) (C := RX1) (T := TX1) (N := 10) hx hb hts (fun w h => lw_in w (inX1 w h)) hown hK hP 2 rfl rfl 0 (by decide) (hts _ (lw_in _ t_79)) (fun _ h9 => h9) rfl dX1_takeName_39 ?_
    refine lv_iload_n hx hb dX1_takeName_42 rfl (lv_at hl 1 rfl) ?_
    refine ct_callV (As := [.int x]) (rest := []) ⟨hx, hb, hml, hown, hts⟩ (k_M_addPlace l D h k tx ln rd wh cm (oF, oL, oE, sp, dp, sta, ((1 : Int64) <<< ((nI np).toInt64 &&& 63)), ((1 : Int64) <<< ((nI np).toInt64 &&& 63)), false) nm nx np fi la em x (by omega)) (cwV 1 hts (gV lw_in t_174 t_175 t_176 t_25 t_177) rfl rfl rfl (by decide +kernel) ⟨Nat.le_of_ble_eq_true rfl, Nat.le_of_ble_eq_true rfl⟩) 7 rfl rfl hK hP hD hS hA rfl hl.1 rfl (Nat.le_of_ble_eq_true rfl) dX1_takeName_43 ⟨Nat.zero_le _, Nat.zero_le _⟩ (fun H locs hP hD hS => ?_)
    refine W.eq (g2 := F0 m 46 ls []) rfl ?_
    have hP : va_P D vwCl (wD h k tx ln rd wh cm (oF, oL, oE, sp, dp, sta, ((1 : Int64) <<< ((nI np).toInt64 &&& 63)), ((1 : Int64) <<< ((nI np).toInt64 &&& 63)), false) (m_add (nm, nx, np, fi, la, em) x)) H := hP
    have hD : va_D A (wD h k tx ln rd wh cm (oF, oL, oE, sp, dp, sta, ((1 : Int64) <<< ((nI np).toInt64 &&& 63)), ((1 : Int64) <<< ((nI np).toInt64 &&& 63)), false) (m_add (nm, nx, np, fi, la, em) x)) := hD
    have e_a : m_add (nm, nx, np, fi, la, em) x = (upd nm np x, vp_updL nx np 0, np + 1, fi, la, em) := by simp [m_add, c_7]
    rw [e_a] at hP hD
    refine lv_aload_n hx hb dX1_takeName_46 rfl (lv_at hl 0 rfl) ?_
    refine lv_iconst (v := 2) hx hb dX1_takeName_47 (by decide) ?_
    refine va_put (D := D) (ci := 1) (v := .int 2) (ty := .int) (C := RX1) (T := TX1) (N := 10) hx hb hts (fun w h => lw_in w (inX1 w h)) tyX1 tyX1_ok nmX1 hown hK hP hD hS 2 rfl rfl 6 (by decide) (hts _ (lw_in _ t_86)) (fun _ h9 => h9) rfl (by decide +kernel) rfl rfl (Nat.le_of_ble_eq_true rfl) dX1_takeName_48 (fun H locs hP hD hS => ?_)
    have hP : va_P D vwCl (wD h k tx ln rd wh cm (oF, oL, oE, sp, dp, 2, ((1 : Int64) <<< ((nI np).toInt64 &&& 63)), ((1 : Int64) <<< ((nI np).toInt64 &&& 63)), false) ((upd nm np x), (vp_updL nx np 0), (np + 1), fi, la, em)) H := hP
    have hD : va_D A (wD h k tx ln rd wh cm (oF, oL, oE, sp, dp, 2, ((1 : Int64) <<< ((nI np).toInt64 &&& 63)), ((1 : Int64) <<< ((nI np).toInt64 &&& 63)), false) ((upd nm np x), (vp_updL nx np 0), (np + 1), fi, la, em)) := hD
    refine lv_iconst (v := 0) hx hb dX1_takeName_51 (by decide) ?_
    have e_52 : r_name (oF, oL, oE, sp, dp, sta, pF, pL, pE) (nm, nx, np, fi, la, em) x = ((oF, oL, oE, sp, dp, 2, ((1 : Int64) <<< ((nI np).toInt64 &&& 63)), ((1 : Int64) <<< ((nI np).toInt64 &&& 63)), false), ((upd nm np x), (vp_updL nx np 0), (np + 1), fi, la, em), 0) := by simp [r_name, c_7]
    exact ct_endi hx hb hr hlocks rfl hP hD hS (by rw [e_52]) (by rw [e_52]) dX1_takeName_52
  · have c_7 : (decide (60 ≤ np)) = true := (bI_ne0 _).mp c_7
    have c_7 : 60 ≤ np := of_decide_eq_true c_7
    refine lv_iconst (v := 2) hx hb dX1_takeName_10 (by decide) ?_
    have e_11 : r_name (oF, oL, oE, sp, dp, sta, pF, pL, pE) (nm, nx, np, fi, la, em) x = ((oF, oL, oE, sp, dp, sta, pF, pL, pE), (nm, nx, np, fi, la, em), 2) := by simp [r_name, c_7]
    exact ct_endi hx hb hr hlocks rfl hP hD hS (by rw [e_11]) (by rw [e_11]) dX1_takeName_11

set_option maxHeartbeats 4000000 in
set_option maxRecDepth 100000 in
theorem k_R_takeSign (l : Launch) (D : va_G) (h : Nat → Nat) (k : Nat → ClassId) (tx : Nat → Int32) (ln : Nat) (rd : Int64) (wh : Bool) (cm : Nat) (oF : Nat → Int64) (oL : Nat → Int64) (oE : Nat → Bool) (sp : Nat → Int32) (dp : Nat) (sta : Int32) (pF : Int64) (pL : Int64) (pE : Bool) (nm : Nat → Int32) (nx : Nat → Int64) (np : Nat) (fi : Int64) (la : Int64) (em : Bool) (x : Int32) (hnp : np ≤ 60) :
    Ct l yX1_takeSign wsX1_takeSign (rmN 2) D vwCl (tyD k) [.ref (h 2), .int x] (wD h k tx ln rd wh cm (oF, oL, oE, sp, dp, sta, pF, pL, pE) (nm, nx, np, fi, la, em)) (wD h k tx ln rd wh cm ((r_sign (oF, oL, oE, sp, dp, sta, pF, pL, pE) (nm, nx, np, fi, la, em) x).1) ((r_sign (oF, oL, oE, sp, dp, sta, pF, pL, pE) (nm, nx, np, fi, la, em) x).2.1)) (some (.int ((r_sign (oF, oL, oE, sp, dp, sta, pF, pL, pE) (nm, nx, np, fi, la, em) x).2.2))) := by
  refine Ct.of (cc := cX1_takeSign) (maxL := 2) (ret := (some .int)) (lv := [(0, .ref (h 2)), (1, .int x)]) (by decide) rfl (Nat.le_of_ble_eq_true rfl) rfl ?_
  intro p e s m below meth c A ls hx hb hr hml hts hown hlocks hK hP hD hS hA hl
  refine lv_aload_n hx hb dX1_takeSign_0 rfl (lv_at hl 0 rfl) ?_
  refine va_get (D := D) (ci := 1) (v := .int sta) (C := RX1) (T := TX1) (N := 10) hx hb hts (fun w h => lw_in w (inX1 w h)) hown hK hP 2 rfl rfl 6 (by decide) (hts _ (lw_in _ t_86)) (fun _ h9 => h9) rfl dX1_takeSign_1 ?_
  refine lv_iconst (v := 2) hx hb dX1_takeSign_4 (by decide) ?_
  refine lv_icmp_eq (tgt := 10) hx hb dX1_takeSign_5 (by decide) (fun c_5 => ?_) (fun c_5 => ?_)
  · have c_5 : sta = 2 := c_5
    refine lv_iload_n hx hb dX1_takeSign_10 rfl (lv_at hl 1 rfl) ?_
    refine lv_bipush (v := 63) hx hb dX1_takeSign_11 (by decide) ?_
    refine lv_icmp_eq (tgt := 31) hx hb dX1_takeSign_13 (by decide) (fun c_13 => ?_) (fun c_13 => ?_)
    · have c_13 : x = 63 := c_13
      refine lv_iload_n hx hb dX1_takeSign_31 rfl (lv_at hl 1 rfl) ?_
      refine lv_bipush (v := 43) hx hb dX1_takeSign_32 (by decide) ?_
      refine lv_icmp_eq (tgt := 42) hx hb dX1_takeSign_34 (by decide) (fun c_34 => ?_) (fun c_34 => ?_)
      · have c_34 : x = 43 := c_34
        exact absurd (c_13.symm.trans c_34) (by decide)
      · have c_34 : ¬ x = 43 := c_34
        refine lv_aload_n hx hb dX1_takeSign_37 rfl (lv_at hl 0 rfl) ?_
        refine lv_iconst (v := 1) hx hb dX1_takeSign_38 (by decide) ?_
        refine lv_eqi (show 1 = bI true from rfl) ?_
        refine va_put (D := D) (ci := 1) (v := .int (bI true)) (ty := .boolean) (C := RX1) (T := TX1) (N := 10) hx hb hts (fun w h => lw_in w (inX1 w h)) tyX1 tyX1_ok nmX1 hown hK hP hD hS 2 rfl rfl 9 (by decide) (hts _ (lw_in _ t_89)) (fun _ h9 => h9) rfl (by decide +kernel) (bI_narrow _) (bI_fits _) (Nat.le_of_ble_eq_true rfl) dX1_takeSign_39 (fun H locs hP hD hS => ?_)
        have hP : va_P D vwCl (wD h k tx ln rd wh cm (oF, oL, oE, sp, dp, sta, pF, pL, true) (nm, nx, np, fi, la, em)) H := hP
        have hD : va_D A (wD h k tx ln rd wh cm (oF, oL, oE, sp, dp, sta, pF, pL, true) (nm, nx, np, fi, la, em)) := hD
        refine lv_aload_n hx hb dX1_takeSign_42 rfl (lv_at hl 0 rfl) ?_
        refine lv_iconst (v := 3) hx hb dX1_takeSign_43 (by decide) ?_
        refine va_put (D := D) (ci := 1) (v := .int 3) (ty := .int) (C := RX1) (T := TX1) (N := 10) hx hb hts (fun w h => lw_in w (inX1 w h)) tyX1 tyX1_ok nmX1 hown hK hP hD hS 2 rfl rfl 6 (by decide) (hts _ (lw_in _ t_86)) (fun _ h9 => h9) rfl (by decide +kernel) rfl rfl (Nat.le_of_ble_eq_true rfl) dX1_takeSign_44 (fun H locs hP hD hS => ?_)
        have hP : va_P D vwCl (wD h k tx ln rd wh cm (oF, oL, oE, sp, dp, 3, pF, pL, true) (nm, nx, np, fi, la, em)) H := hP
        have hD : va_D A (wD h k tx ln rd wh cm (oF, oL, oE, sp, dp, 3, pF, pL, true) (nm, nx, np, fi, la, em)) := hD
        refine lv_iconst (v := 0) hx hb dX1_takeSign_47 (by decide) ?_
        have e_48 : r_sign (oF, oL, oE, sp, dp, sta, pF, pL, pE) (nm, nx, np, fi, la, em) x = ((oF, oL, oE, sp, dp, 3, pF, pL, true), (nm, nx, np, fi, la, em), 0) := by simp [r_sign, c_5, c_13, c_34]
        exact ct_endi hx hb hr hlocks rfl hP hD hS (by rw [e_48]) (by rw [e_48]) dX1_takeSign_48
    · have c_13 : ¬ x = 63 := c_13
      refine lv_aload_n hx hb dX1_takeSign_16 rfl (lv_at hl 0 rfl) ?_
      refine va_get (D := D) (ci := 1) (v := .ref (h 7)) (C := RX1) (T := TX1) (N := 10) hx hb hts (fun w h => lw_in w (inX1 w h)) hown hK hP 2 rfl rfl 0 (by decide) (hts _ (lw_in _ t_79)) (fun _ h9 => h9) rfl dX1_takeSign_17 ?_
      refine lv_aload_n hx hb dX1_takeSign_20 rfl (lv_at hl 0 rfl) ?_
      refine va_get (D := D) (ci := 1) (v := .long pL) (C := RX1) (T := TX1) (N := 10) hx hb hts (fun w h => lw_in w (inX1 w h)) hown hK hP 2 rfl rfl 8 (by decide) (hts _ (lw_in _ t_88)) (fun _ h9 => h9) rfl dX1_takeSign_21 ?_
      refine lv_aload_n hx hb dX1_takeSign_24 rfl (lv_at hl 0 rfl) ?_
      refine va_get (D := D) (ci := 1) (v := .long pF) (C := RX1) (T := TX1) (N := 10) hx hb hts (fun w h => lw_in w (inX1 w h)) hown hK hP 2 rfl rfl 7 (by decide) (hts _ (lw_in _ t_87)) (fun _ h9 => h9) rfl dX1_takeSign_25 ?_
      refine ct_callV (As := [.long pL, .long pF]) (rest := []) ⟨hx, hb, hml, hown, hts⟩ (k_M_connect l D h k tx ln rd wh cm (oF, oL, oE, sp, dp, sta, pF, pL, pE) nm nx np fi la em pL pF (by omega)) (cwV 2 hts (gV lw_in t_186 t_187 t_188 t_25 t_189) rfl rfl rfl (by decide +kernel) ⟨Nat.le_of_ble_eq_true rfl, Nat.le_of_ble_eq_true rfl⟩) 7 rfl rfl hK hP hD hS hA rfl hl.1 rfl (Nat.le_of_ble_eq_true rfl) dX1_takeSign_28 ⟨Nat.zero_le _, Nat.zero_le _⟩ (fun H locs hP hD hS => ?_)
      refine W.eq (g2 := F0 m 31 ls []) rfl ?_
      have hP : va_P D vwCl (wD h k tx ln rd wh cm (oF, oL, oE, sp, dp, sta, pF, pL, pE) (nm, (cnL pL pF np 0 nx), np, fi, la, em)) H := hP
      have hD : va_D A (wD h k tx ln rd wh cm (oF, oL, oE, sp, dp, sta, pF, pL, pE) (nm, (cnL pL pF np 0 nx), np, fi, la, em)) := hD
      refine lv_iload_n hx hb dX1_takeSign_31 rfl (lv_at hl 1 rfl) ?_
      refine lv_bipush (v := 43) hx hb dX1_takeSign_32 (by decide) ?_
      refine lv_icmp_eq (tgt := 42) hx hb dX1_takeSign_34 (by decide) (fun c_34 => ?_) (fun c_34 => ?_)
      · have c_34 : x = 43 := c_34
        refine lv_aload_n hx hb dX1_takeSign_42 rfl (lv_at hl 0 rfl) ?_
        refine lv_iconst (v := 3) hx hb dX1_takeSign_43 (by decide) ?_
        refine va_put (D := D) (ci := 1) (v := .int 3) (ty := .int) (C := RX1) (T := TX1) (N := 10) hx hb hts (fun w h => lw_in w (inX1 w h)) tyX1 tyX1_ok nmX1 hown hK hP hD hS 2 rfl rfl 6 (by decide) (hts _ (lw_in _ t_86)) (fun _ h9 => h9) rfl (by decide +kernel) rfl rfl (Nat.le_of_ble_eq_true rfl) dX1_takeSign_44 (fun H locs hP hD hS => ?_)
        have hP : va_P D vwCl (wD h k tx ln rd wh cm (oF, oL, oE, sp, dp, 3, pF, pL, pE) (nm, (cnL pL pF np 0 nx), np, fi, la, em)) H := hP
        have hD : va_D A (wD h k tx ln rd wh cm (oF, oL, oE, sp, dp, 3, pF, pL, pE) (nm, (cnL pL pF np 0 nx), np, fi, la, em)) := hD
        refine lv_iconst (v := 0) hx hb dX1_takeSign_47 (by decide) ?_
        have e_48 : r_sign (oF, oL, oE, sp, dp, sta, pF, pL, pE) (nm, nx, np, fi, la, em) x = ((oF, oL, oE, sp, dp, 3, pF, pL, pE), (nm, (cnL pL pF np 0 nx), np, fi, la, em), 0) := by simp [r_sign, c_5, c_13, c_34]
        exact ct_endi hx hb hr hlocks rfl hP hD hS (by rw [e_48]) (by rw [e_48]) dX1_takeSign_48
      · have c_34 : ¬ x = 43 := c_34
        refine lv_aload_n hx hb dX1_takeSign_37 rfl (lv_at hl 0 rfl) ?_
        refine lv_iconst (v := 1) hx hb dX1_takeSign_38 (by decide) ?_
        refine lv_eqi (show 1 = bI true from rfl) ?_
        refine va_put (D := D) (ci := 1) (v := .int (bI true)) (ty := .boolean) (C := RX1) (T := TX1) (N := 10) hx hb hts (fun w h => lw_in w (inX1 w h)) tyX1 tyX1_ok nmX1 hown hK hP hD hS 2 rfl rfl 9 (by decide) (hts _ (lw_in _ t_89)) (fun _ h9 => h9) rfl (by decide +kernel) (bI_narrow _) (bI_fits _) (Nat.le_of_ble_eq_true rfl) dX1_takeSign_39 (fun H locs hP hD hS => ?_)
        have hP : va_P D vwCl (wD h k tx ln rd wh cm (oF, oL, oE, sp, dp, sta, pF, pL, true) (nm, (cnL pL pF np 0 nx), np, fi, la, em)) H := hP
        have hD : va_D A (wD h k tx ln rd wh cm (oF, oL, oE, sp, dp, sta, pF, pL, true) (nm, (cnL pL pF np 0 nx), np, fi, la, em)) := hD
        refine lv_aload_n hx hb dX1_takeSign_42 rfl (lv_at hl 0 rfl) ?_
        refine lv_iconst (v := 3) hx hb dX1_takeSign_43 (by decide) ?_
        refine va_put (D := D) (ci := 1) (v := .int 3) (ty := .int) (C := RX1) (T := TX1) (N := 10) hx hb hts (fun w h => lw_in w (inX1 w h)) tyX1 tyX1_ok nmX1 hown hK hP hD hS 2 rfl rfl 6 (by decide) (hts _ (lw_in _ t_86)) (fun _ h9 => h9) rfl (by decide +kernel) rfl rfl (Nat.le_of_ble_eq_true rfl) dX1_takeSign_44 (fun H locs hP hD hS => ?_)
        have hP : va_P D vwCl (wD h k tx ln rd wh cm (oF, oL, oE, sp, dp, 3, pF, pL, true) (nm, (cnL pL pF np 0 nx), np, fi, la, em)) H := hP
        have hD : va_D A (wD h k tx ln rd wh cm (oF, oL, oE, sp, dp, 3, pF, pL, true) (nm, (cnL pL pF np 0 nx), np, fi, la, em)) := hD
        refine lv_iconst (v := 0) hx hb dX1_takeSign_47 (by decide) ?_
        have e_48 : r_sign (oF, oL, oE, sp, dp, sta, pF, pL, pE) (nm, nx, np, fi, la, em) x = ((oF, oL, oE, sp, dp, 3, pF, pL, true), (nm, (cnL pL pF np 0 nx), np, fi, la, em), 0) := by simp [r_sign, c_5, c_13, c_34]
        exact ct_endi hx hb hr hlocks rfl hP hD hS (by rw [e_48]) (by rw [e_48]) dX1_takeSign_48
  · have c_5 : ¬ sta = 2 := c_5
    refine lv_iconst (v := 1) hx hb dX1_takeSign_8 (by decide) ?_
    have e_9 : r_sign (oF, oL, oE, sp, dp, sta, pF, pL, pE) (nm, nx, np, fi, la, em) x = ((oF, oL, oE, sp, dp, sta, pF, pL, pE), (nm, nx, np, fi, la, em), 1) := by simp [r_sign, c_5]
    exact ct_endi hx hb hr hlocks rfl hP hD hS (by rw [e_9]) (by rw [e_9]) dX1_takeSign_9

set_option maxHeartbeats 4000000 in
set_option maxRecDepth 100000 in
theorem k_R_joinPart (l : Launch) (D : va_G) (h : Nat → Nat) (k : Nat → ClassId) (tx : Nat → Int32) (ln : Nat) (rd : Int64) (wh : Bool) (cm : Nat) (oF : Nat → Int64) (oL : Nat → Int64) (oE : Nat → Bool) (sp : Nat → Int32) (dp : Nat) (sta : Int32) (pF : Int64) (pL : Int64) (pE : Bool) (nm : Nat → Int32) (nx : Nat → Int64) (np : Nat) (fi : Int64) (la : Int64) (em : Bool) (v : Nat) (hnp : np ≤ 60) (hv : v < 12) :
    Ct l yX1_joinPart wsX1_joinPart (rmN 2) D vwCl (tyD k) [.ref (h 2), .int (nI v)] (wD h k tx ln rd wh cm (oF, oL, oE, sp, dp, sta, pF, pL, pE) (nm, nx, np, fi, la, em)) (wD h k tx ln rd wh cm ((r_join (oF, oL, oE, sp, dp, sta, pF, pL, pE) (nm, nx, np, fi, la, em) v).1) ((r_join (oF, oL, oE, sp, dp, sta, pF, pL, pE) (nm, nx, np, fi, la, em) v).2)) none := by
  refine Ct.of (cc := cX1_joinPart) (maxL := 2) (ret := none) (lv := [(0, .ref (h 2)), (1, .int (nI v))]) (by decide) rfl (Nat.le_of_ble_eq_true rfl) rfl ?_
  intro p e s m below meth c A ls hx hb hr hml hts hown hlocks hK hP hD hS hA hl
  refine lv_aload_n hx hb dX1_joinPart_0 rfl (lv_at hl 0 rfl) ?_
  refine va_get (D := D) (ci := 1) (v := .ref (h 6)) (C := RX1) (T := TX1) (N := 10) hx hb hts (fun w h => lw_in w (inX1 w h)) hown hK hP 2 rfl rfl 4 (by decide) (hts _ (lw_in _ t_84)) (fun _ h9 => h9) rfl dX1_joinPart_1 ?_
  refine lv_iload_n hx hb dX1_joinPart_4 rfl (lv_at hl 1 rfl) ?_
  refine wx_iald hx hb hK hP 6 4 rfl rfl (i := v) hv (by decide) dX1_joinPart_5 ?_
  refine lv_if_ne (tgt := 42) hx hb dX1_joinPart_6 (by decide) (fun c_6 => ?_) (fun c_6 => ?_)
  · have c_6 : ¬ (sp v) = 0 := c_6
    refine lv_aload_n hx hb dX1_joinPart_42 rfl (lv_at hl 0 rfl) ?_
    refine va_get (D := D) (ci := 1) (v := .ref (h 6)) (C := RX1) (T := TX1) (N := 10) hx hb hts (fun w h => lw_in w (inX1 w h)) hown hK hP 2 rfl rfl 4 (by decide) (hts _ (lw_in _ t_84)) (fun _ h9 => h9) rfl dX1_joinPart_43 ?_
    refine lv_iload_n hx hb dX1_joinPart_46 rfl (lv_at hl 1 rfl) ?_
    refine wx_iald hx hb hK hP 6 4 rfl rfl (i := v) hv (by decide) dX1_joinPart_47 ?_
    refine lv_bipush (v := 124) hx hb dX1_joinPart_48 (by decide) ?_
    refine lv_icmp_ne (tgt := 109) hx hb dX1_joinPart_50 (by decide) (fun c_50 => ?_) (fun c_50 => ?_)
    · have c_50 : ¬ (sp v) = 124 := c_50
      refine lv_aload_n hx hb dX1_joinPart_109 rfl (lv_at hl 0 rfl) ?_
      refine va_get (D := D) (ci := 1) (v := .ref (h 7)) (C := RX1) (T := TX1) (N := 10) hx hb hts (fun w h => lw_in w (inX1 w h)) hown hK hP 2 rfl rfl 0 (by decide) (hts _ (lw_in _ t_79)) (fun _ h9 => h9) rfl dX1_joinPart_110 ?_
      refine lv_aload_n hx hb dX1_joinPart_113 rfl (lv_at hl 0 rfl) ?_
      refine va_get (D := D) (ci := 1) (v := .ref (h 4)) (C := RX1) (T := TX1) (N := 10) hx hb hts (fun w h => lw_in w (inX1 w h)) hown hK hP 2 rfl rfl 2 (by decide) (hts _ (lw_in _ t_82)) (fun _ h9 => h9) rfl dX1_joinPart_114 ?_
      refine lv_iload_n hx hb dX1_joinPart_117 rfl (lv_at hl 1 rfl) ?_
      refine wx_lald hx hb hK hP 4 2 rfl rfl (i := v) hv (by decide) dX1_joinPart_118 ?_
      refine lv_aload_n hx hb dX1_joinPart_119 rfl (lv_at hl 0 rfl) ?_
      refine va_get (D := D) (ci := 1) (v := .long pF) (C := RX1) (T := TX1) (N := 10) hx hb hts (fun w h => lw_in w (inX1 w h)) hown hK hP 2 rfl rfl 7 (by decide) (hts _ (lw_in _ t_87)) (fun _ h9 => h9) rfl dX1_joinPart_120 ?_
      refine ct_callV (As := [.long (oL v), .long pF]) (rest := []) ⟨hx, hb, hml, hown, hts⟩ (k_M_connect l D h k tx ln rd wh cm (oF, oL, oE, sp, dp, sta, pF, pL, pE) nm nx np fi la em (oL v) pF (by omega)) (cwV 2 hts (gV lw_in t_186 t_187 t_188 t_25 t_189) rfl rfl rfl (by decide +kernel) ⟨Nat.le_of_ble_eq_true rfl, Nat.le_of_ble_eq_true rfl⟩) 7 rfl rfl hK hP hD hS hA rfl hl.1 rfl (Nat.le_of_ble_eq_true rfl) dX1_joinPart_123 ⟨Nat.zero_le _, Nat.zero_le _⟩ (fun H locs hP hD hS => ?_)
      refine W.eq (g2 := F0 m 126 ls []) rfl ?_
      have hP : va_P D vwCl (wD h k tx ln rd wh cm (oF, oL, oE, sp, dp, sta, pF, pL, pE) (nm, (cnL (oL v) pF np 0 nx), np, fi, la, em)) H := hP
      have hD : va_D A (wD h k tx ln rd wh cm (oF, oL, oE, sp, dp, sta, pF, pL, pE) (nm, (cnL (oL v) pF np 0 nx), np, fi, la, em)) := hD
      refine lv_aload_n hx hb dX1_joinPart_126 rfl (lv_at hl 0 rfl) ?_
      refine va_get (D := D) (ci := 1) (v := .ref (h 5)) (C := RX1) (T := TX1) (N := 10) hx hb hts (fun w h => lw_in w (inX1 w h)) hown hK hP 2 rfl rfl 3 (by decide) (hts _ (lw_in _ t_83)) (fun _ h9 => h9) rfl dX1_joinPart_127 ?_
      refine lv_iload_n hx hb dX1_joinPart_130 rfl (lv_at hl 1 rfl) ?_
      refine wx_zald hx hb hK hP 5 3 rfl rfl (i := v) hv (by decide) dX1_joinPart_131 ?_
      refine lv_if_eq (tgt := 148) hx hb dX1_joinPart_132 (by decide) (fun c_132 => ?_) (fun c_132 => ?_)
      · have c_132 : (oE v) = false := (bI_eq0 _).mp c_132
        refine lv_aload_n hx hb dX1_joinPart_148 rfl (lv_at hl 0 rfl) ?_
        refine va_get (D := D) (ci := 1) (v := .ref (h 4)) (C := RX1) (T := TX1) (N := 10) hx hb hts (fun w h => lw_in w (inX1 w h)) hown hK hP 2 rfl rfl 2 (by decide) (hts _ (lw_in _ t_82)) (fun _ h9 => h9) rfl dX1_joinPart_149 ?_
        refine lv_iload_n hx hb dX1_joinPart_152 rfl (lv_at hl 1 rfl) ?_
        refine lv_aload_n hx hb dX1_joinPart_153 rfl (lv_at hl 0 rfl) ?_
        refine va_get (D := D) (ci := 1) (v := .int (bI pE)) (C := RX1) (T := TX1) (N := 10) hx hb hts (fun w h => lw_in w (inX1 w h)) hown hK hP 2 rfl rfl 9 (by decide) (hts _ (lw_in _ t_89)) (fun _ h9 => h9) rfl dX1_joinPart_154 ?_
        refine lv_if_eq (tgt := 174) hx hb dX1_joinPart_157 (by decide) (fun c_157 => ?_) (fun c_157 => ?_)
        · have c_157 : pE = false := (bI_eq0 _).mp c_157
          refine lv_aload_n hx hb dX1_joinPart_174 rfl (lv_at hl 0 rfl) ?_
          refine va_get (D := D) (ci := 1) (v := .long pL) (C := RX1) (T := TX1) (N := 10) hx hb hts (fun w h => lw_in w (inX1 w h)) hown hK hP 2 rfl rfl 8 (by decide) (hts _ (lw_in _ t_88)) (fun _ h9 => h9) rfl dX1_joinPart_175 ?_
          refine wx_last hx hb hK hP hD hS 4 2 rfl rfl (i := v) hv (by decide) dX1_joinPart_178 (fun H locs hP hD hS => ?_)
          have hP : va_P D vwCl (wD h k tx ln rd wh cm (oF, (vp_updL oL v pL), oE, sp, dp, sta, pF, pL, pE) (nm, (cnL (oL v) pF np 0 nx), np, fi, la, em)) H := hP
          have hD : va_D A (wD h k tx ln rd wh cm (oF, (vp_updL oL v pL), oE, sp, dp, sta, pF, pL, pE) (nm, (cnL (oL v) pF np 0 nx), np, fi, la, em)) := hD
          refine lv_aload_n hx hb dX1_joinPart_179 rfl (lv_at hl 0 rfl) ?_
          refine va_get (D := D) (ci := 1) (v := .ref (h 5)) (C := RX1) (T := TX1) (N := 10) hx hb hts (fun w h => lw_in w (inX1 w h)) hown hK hP 2 rfl rfl 3 (by decide) (hts _ (lw_in _ t_83)) (fun _ h9 => h9) rfl dX1_joinPart_180 ?_
          refine lv_iload_n hx hb dX1_joinPart_183 rfl (lv_at hl 1 rfl) ?_
          refine lv_aload_n hx hb dX1_joinPart_184 rfl (lv_at hl 0 rfl) ?_
          refine va_get (D := D) (ci := 1) (v := .ref (h 5)) (C := RX1) (T := TX1) (N := 10) hx hb hts (fun w h => lw_in w (inX1 w h)) hown hK hP 2 rfl rfl 3 (by decide) (hts _ (lw_in _ t_83)) (fun _ h9 => h9) rfl dX1_joinPart_185 ?_
          refine lv_iload_n hx hb dX1_joinPart_188 rfl (lv_at hl 1 rfl) ?_
          refine wx_zald hx hb hK hP 5 3 rfl rfl (i := v) hv (by decide) dX1_joinPart_189 ?_
          refine lv_if_eq (tgt := 204) hx hb dX1_joinPart_190 (by decide) (fun c_190 => ?_) (fun c_190 => ?_)
          · have c_190 : (oE v) = false := (bI_eq0 _).mp c_190
            refine lv_iconst (v := 0) hx hb dX1_joinPart_204 (by decide) ?_
            refine wx_zastB (x := false) (g := oE) hx hb hK hP hD hS 5 3 rfl rfl (i := v) hv (by decide) dX1_joinPart_205 (fun H locs hP hD hS => ?_)
            have hP : va_P D vwCl (wD h k tx ln rd wh cm (oF, (vp_updL oL v pL), (va_up oE v false), sp, dp, sta, pF, pL, pE) (nm, (cnL (oL v) pF np 0 nx), np, fi, la, em)) H := hP
            have hD : va_D A (wD h k tx ln rd wh cm (oF, (vp_updL oL v pL), (va_up oE v false), sp, dp, sta, pF, pL, pE) (nm, (cnL (oL v) pF np 0 nx), np, fi, la, em)) := hD
            have e_206 : r_join (oF, oL, oE, sp, dp, sta, pF, pL, pE) (nm, nx, np, fi, la, em) v = ((oF, (vp_updL oL v pL), (va_up oE v false), sp, dp, sta, pF, pL, pE), (nm, (cnL (oL v) pF np 0 nx), np, fi, la, em)) := by simp [r_join, c_6, c_50, c_132, c_157, c_190]
            exact ct_endv hx hb hr hlocks hP hD hS (by rw [e_206]) rfl dX1_joinPart_206
          · have c_190 : (oE v) = true := (bI_ne0 _).mp c_190
            exact absurd (c_132.symm.trans c_190) (by decide)
        · have c_157 : pE = true := (bI_ne0 _).mp c_157
          refine lv_aload_n hx hb dX1_joinPart_160 rfl (lv_at hl 0 rfl) ?_
          refine va_get (D := D) (ci := 1) (v := .ref (h 4)) (C := RX1) (T := TX1) (N := 10) hx hb hts (fun w h => lw_in w (inX1 w h)) hown hK hP 2 rfl rfl 2 (by decide) (hts _ (lw_in _ t_82)) (fun _ h9 => h9) rfl dX1_joinPart_161 ?_
          refine lv_iload_n hx hb dX1_joinPart_164 rfl (lv_at hl 1 rfl) ?_
          refine wx_lald hx hb hK hP 4 2 rfl rfl (i := v) hv (by decide) dX1_joinPart_165 ?_
          refine lv_aload_n hx hb dX1_joinPart_166 rfl (lv_at hl 0 rfl) ?_
          refine va_get (D := D) (ci := 1) (v := .long pL) (C := RX1) (T := TX1) (N := 10) hx hb hts (fun w h => lw_in w (inX1 w h)) hown hK hP 2 rfl rfl 8 (by decide) (hts _ (lw_in _ t_88)) (fun _ h9 => h9) rfl dX1_joinPart_167 ?_
          refine lv_lor hx hb dX1_joinPart_170 ?_
          refine lv_goto (tgt := 178) hx hb dX1_joinPart_171 (by decide) ?_
          refine wx_last hx hb hK hP hD hS 4 2 rfl rfl (i := v) hv (by decide) dX1_joinPart_178 (fun H locs hP hD hS => ?_)
          have hP : va_P D vwCl (wD h k tx ln rd wh cm (oF, (vp_updL oL v ((oL v) ||| pL)), oE, sp, dp, sta, pF, pL, pE) (nm, (cnL (oL v) pF np 0 nx), np, fi, la, em)) H := hP
          have hD : va_D A (wD h k tx ln rd wh cm (oF, (vp_updL oL v ((oL v) ||| pL)), oE, sp, dp, sta, pF, pL, pE) (nm, (cnL (oL v) pF np 0 nx), np, fi, la, em)) := hD
          refine lv_aload_n hx hb dX1_joinPart_179 rfl (lv_at hl 0 rfl) ?_
          refine va_get (D := D) (ci := 1) (v := .ref (h 5)) (C := RX1) (T := TX1) (N := 10) hx hb hts (fun w h => lw_in w (inX1 w h)) hown hK hP 2 rfl rfl 3 (by decide) (hts _ (lw_in _ t_83)) (fun _ h9 => h9) rfl dX1_joinPart_180 ?_
          refine lv_iload_n hx hb dX1_joinPart_183 rfl (lv_at hl 1 rfl) ?_
          refine lv_aload_n hx hb dX1_joinPart_184 rfl (lv_at hl 0 rfl) ?_
          refine va_get (D := D) (ci := 1) (v := .ref (h 5)) (C := RX1) (T := TX1) (N := 10) hx hb hts (fun w h => lw_in w (inX1 w h)) hown hK hP 2 rfl rfl 3 (by decide) (hts _ (lw_in _ t_83)) (fun _ h9 => h9) rfl dX1_joinPart_185 ?_
          refine lv_iload_n hx hb dX1_joinPart_188 rfl (lv_at hl 1 rfl) ?_
          refine wx_zald hx hb hK hP 5 3 rfl rfl (i := v) hv (by decide) dX1_joinPart_189 ?_
          refine lv_if_eq (tgt := 204) hx hb dX1_joinPart_190 (by decide) (fun c_190 => ?_) (fun c_190 => ?_)
          · have c_190 : (oE v) = false := (bI_eq0 _).mp c_190
            refine lv_iconst (v := 0) hx hb dX1_joinPart_204 (by decide) ?_
            refine wx_zastB (x := false) (g := oE) hx hb hK hP hD hS 5 3 rfl rfl (i := v) hv (by decide) dX1_joinPart_205 (fun H locs hP hD hS => ?_)
            have hP : va_P D vwCl (wD h k tx ln rd wh cm (oF, (vp_updL oL v ((oL v) ||| pL)), (va_up oE v false), sp, dp, sta, pF, pL, pE) (nm, (cnL (oL v) pF np 0 nx), np, fi, la, em)) H := hP
            have hD : va_D A (wD h k tx ln rd wh cm (oF, (vp_updL oL v ((oL v) ||| pL)), (va_up oE v false), sp, dp, sta, pF, pL, pE) (nm, (cnL (oL v) pF np 0 nx), np, fi, la, em)) := hD
            have e_206 : r_join (oF, oL, oE, sp, dp, sta, pF, pL, pE) (nm, nx, np, fi, la, em) v = ((oF, (vp_updL oL v ((oL v) ||| pL)), (va_up oE v false), sp, dp, sta, pF, pL, pE), (nm, (cnL (oL v) pF np 0 nx), np, fi, la, em)) := by simp [r_join, c_6, c_50, c_132, c_157, c_190]
            exact ct_endv hx hb hr hlocks hP hD hS (by rw [e_206]) rfl dX1_joinPart_206
          · have c_190 : (oE v) = true := (bI_ne0 _).mp c_190
            exact absurd (c_132.symm.trans c_190) (by decide)
      · have c_132 : (oE v) = true := (bI_ne0 _).mp c_132
        refine lv_aload_n hx hb dX1_joinPart_135 rfl (lv_at hl 0 rfl) ?_
        refine va_get (D := D) (ci := 1) (v := .ref (h 3)) (C := RX1) (T := TX1) (N := 10) hx hb hts (fun w h => lw_in w (inX1 w h)) hown hK hP 2 rfl rfl 1 (by decide) (hts _ (lw_in _ t_81)) (fun _ h9 => h9) rfl dX1_joinPart_136 ?_
        refine lv_iload_n hx hb dX1_joinPart_139 rfl (lv_at hl 1 rfl) ?_
        refine lv_dup2_11 hx hb dX1_joinPart_140 rfl rfl ?_
        refine wx_lald hx hb hK hP 3 1 rfl rfl (i := v) hv (by decide) dX1_joinPart_141 ?_
        refine lv_aload_n hx hb dX1_joinPart_142 rfl (lv_at hl 0 rfl) ?_
        refine va_get (D := D) (ci := 1) (v := .long pF) (C := RX1) (T := TX1) (N := 10) hx hb hts (fun w h => lw_in w (inX1 w h)) hown hK hP 2 rfl rfl 7 (by decide) (hts _ (lw_in _ t_87)) (fun _ h9 => h9) rfl dX1_joinPart_143 ?_
        refine lv_lor hx hb dX1_joinPart_146 ?_
        refine wx_last hx hb hK hP hD hS 3 1 rfl rfl (i := v) hv (by decide) dX1_joinPart_147 (fun H locs hP hD hS => ?_)
        have hP : va_P D vwCl (wD h k tx ln rd wh cm ((vp_updL oF v ((oF v) ||| pF)), oL, oE, sp, dp, sta, pF, pL, pE) (nm, (cnL (oL v) pF np 0 nx), np, fi, la, em)) H := hP
        have hD : va_D A (wD h k tx ln rd wh cm ((vp_updL oF v ((oF v) ||| pF)), oL, oE, sp, dp, sta, pF, pL, pE) (nm, (cnL (oL v) pF np 0 nx), np, fi, la, em)) := hD
        refine lv_aload_n hx hb dX1_joinPart_148 rfl (lv_at hl 0 rfl) ?_
        refine va_get (D := D) (ci := 1) (v := .ref (h 4)) (C := RX1) (T := TX1) (N := 10) hx hb hts (fun w h => lw_in w (inX1 w h)) hown hK hP 2 rfl rfl 2 (by decide) (hts _ (lw_in _ t_82)) (fun _ h9 => h9) rfl dX1_joinPart_149 ?_
        refine lv_iload_n hx hb dX1_joinPart_152 rfl (lv_at hl 1 rfl) ?_
        refine lv_aload_n hx hb dX1_joinPart_153 rfl (lv_at hl 0 rfl) ?_
        refine va_get (D := D) (ci := 1) (v := .int (bI pE)) (C := RX1) (T := TX1) (N := 10) hx hb hts (fun w h => lw_in w (inX1 w h)) hown hK hP 2 rfl rfl 9 (by decide) (hts _ (lw_in _ t_89)) (fun _ h9 => h9) rfl dX1_joinPart_154 ?_
        refine lv_if_eq (tgt := 174) hx hb dX1_joinPart_157 (by decide) (fun c_157 => ?_) (fun c_157 => ?_)
        · have c_157 : pE = false := (bI_eq0 _).mp c_157
          refine lv_aload_n hx hb dX1_joinPart_174 rfl (lv_at hl 0 rfl) ?_
          refine va_get (D := D) (ci := 1) (v := .long pL) (C := RX1) (T := TX1) (N := 10) hx hb hts (fun w h => lw_in w (inX1 w h)) hown hK hP 2 rfl rfl 8 (by decide) (hts _ (lw_in _ t_88)) (fun _ h9 => h9) rfl dX1_joinPart_175 ?_
          refine wx_last hx hb hK hP hD hS 4 2 rfl rfl (i := v) hv (by decide) dX1_joinPart_178 (fun H locs hP hD hS => ?_)
          have hP : va_P D vwCl (wD h k tx ln rd wh cm ((vp_updL oF v ((oF v) ||| pF)), (vp_updL oL v pL), oE, sp, dp, sta, pF, pL, pE) (nm, (cnL (oL v) pF np 0 nx), np, fi, la, em)) H := hP
          have hD : va_D A (wD h k tx ln rd wh cm ((vp_updL oF v ((oF v) ||| pF)), (vp_updL oL v pL), oE, sp, dp, sta, pF, pL, pE) (nm, (cnL (oL v) pF np 0 nx), np, fi, la, em)) := hD
          refine lv_aload_n hx hb dX1_joinPart_179 rfl (lv_at hl 0 rfl) ?_
          refine va_get (D := D) (ci := 1) (v := .ref (h 5)) (C := RX1) (T := TX1) (N := 10) hx hb hts (fun w h => lw_in w (inX1 w h)) hown hK hP 2 rfl rfl 3 (by decide) (hts _ (lw_in _ t_83)) (fun _ h9 => h9) rfl dX1_joinPart_180 ?_
          refine lv_iload_n hx hb dX1_joinPart_183 rfl (lv_at hl 1 rfl) ?_
          refine lv_aload_n hx hb dX1_joinPart_184 rfl (lv_at hl 0 rfl) ?_
          refine va_get (D := D) (ci := 1) (v := .ref (h 5)) (C := RX1) (T := TX1) (N := 10) hx hb hts (fun w h => lw_in w (inX1 w h)) hown hK hP 2 rfl rfl 3 (by decide) (hts _ (lw_in _ t_83)) (fun _ h9 => h9) rfl dX1_joinPart_185 ?_
          refine lv_iload_n hx hb dX1_joinPart_188 rfl (lv_at hl 1 rfl) ?_
          refine wx_zald hx hb hK hP 5 3 rfl rfl (i := v) hv (by decide) dX1_joinPart_189 ?_
          refine lv_if_eq (tgt := 204) hx hb dX1_joinPart_190 (by decide) (fun c_190 => ?_) (fun c_190 => ?_)
          · have c_190 : (oE v) = false := (bI_eq0 _).mp c_190
            exact absurd (c_132.symm.trans c_190) (by decide)
          · have c_190 : (oE v) = true := (bI_ne0 _).mp c_190
            refine lv_aload_n hx hb dX1_joinPart_193 rfl (lv_at hl 0 rfl) ?_
            refine va_get (D := D) (ci := 1) (v := .int (bI pE)) (C := RX1) (T := TX1) (N := 10) hx hb hts (fun w h => lw_in w (inX1 w h)) hown hK hP 2 rfl rfl 9 (by decide) (hts _ (lw_in _ t_89)) (fun _ h9 => h9) rfl dX1_joinPart_194 ?_
            refine lv_if_eq (tgt := 204) hx hb dX1_joinPart_197 (by decide) (fun c_197 => ?_) (fun c_197 => ?_)
            · have c_197 : pE = false := (bI_eq0 _).mp c_197
              refine lv_iconst (v := 0) hx hb dX1_joinPart_204 (by decide) ?_
              refine wx_zastB (x := false) (g := oE) hx hb hK hP hD hS 5 3 rfl rfl (i := v) hv (by decide) dX1_joinPart_205 (fun H locs hP hD hS => ?_)
              have hP : va_P D vwCl (wD h k tx ln rd wh cm ((vp_updL oF v ((oF v) ||| pF)), (vp_updL oL v pL), (va_up oE v false), sp, dp, sta, pF, pL, pE) (nm, (cnL (oL v) pF np 0 nx), np, fi, la, em)) H := hP
              have hD : va_D A (wD h k tx ln rd wh cm ((vp_updL oF v ((oF v) ||| pF)), (vp_updL oL v pL), (va_up oE v false), sp, dp, sta, pF, pL, pE) (nm, (cnL (oL v) pF np 0 nx), np, fi, la, em)) := hD
              have e_206 : r_join (oF, oL, oE, sp, dp, sta, pF, pL, pE) (nm, nx, np, fi, la, em) v = (((vp_updL oF v ((oF v) ||| pF)), (vp_updL oL v pL), (va_up oE v false), sp, dp, sta, pF, pL, pE), (nm, (cnL (oL v) pF np 0 nx), np, fi, la, em)) := by simp [r_join, c_6, c_50, c_132, c_157, c_190, c_197]
              exact ct_endv hx hb hr hlocks hP hD hS (by rw [e_206]) rfl dX1_joinPart_206
            · have c_197 : pE = true := (bI_ne0 _).mp c_197
              exact absurd (c_157.symm.trans c_197) (by decide)
        · have c_157 : pE = true := (bI_ne0 _).mp c_157
          refine lv_aload_n hx hb dX1_joinPart_160 rfl (lv_at hl 0 rfl) ?_
          refine va_get (D := D) (ci := 1) (v := .ref (h 4)) (C := RX1) (T := TX1) (N := 10) hx hb hts (fun w h => lw_in w (inX1 w h)) hown hK hP 2 rfl rfl 2 (by decide) (hts _ (lw_in _ t_82)) (fun _ h9 => h9) rfl dX1_joinPart_161 ?_
          refine lv_iload_n hx hb dX1_joinPart_164 rfl (lv_at hl 1 rfl) ?_
          refine wx_lald hx hb hK hP 4 2 rfl rfl (i := v) hv (by decide) dX1_joinPart_165 ?_
          refine lv_aload_n hx hb dX1_joinPart_166 rfl (lv_at hl 0 rfl) ?_
          refine va_get (D := D) (ci := 1) (v := .long pL) (C := RX1) (T := TX1) (N := 10) hx hb hts (fun w h => lw_in w (inX1 w h)) hown hK hP 2 rfl rfl 8 (by decide) (hts _ (lw_in _ t_88)) (fun _ h9 => h9) rfl dX1_joinPart_167 ?_
          refine lv_lor hx hb dX1_joinPart_170 ?_
          refine lv_goto (tgt := 178) hx hb dX1_joinPart_171 (by decide) ?_
          refine wx_last hx hb hK hP hD hS 4 2 rfl rfl (i := v) hv (by decide) dX1_joinPart_178 (fun H locs hP hD hS => ?_)
          have hP : va_P D vwCl (wD h k tx ln rd wh cm ((vp_updL oF v ((oF v) ||| pF)), (vp_updL oL v ((oL v) ||| pL)), oE, sp, dp, sta, pF, pL, pE) (nm, (cnL (oL v) pF np 0 nx), np, fi, la, em)) H := hP
          have hD : va_D A (wD h k tx ln rd wh cm ((vp_updL oF v ((oF v) ||| pF)), (vp_updL oL v ((oL v) ||| pL)), oE, sp, dp, sta, pF, pL, pE) (nm, (cnL (oL v) pF np 0 nx), np, fi, la, em)) := hD
          refine lv_aload_n hx hb dX1_joinPart_179 rfl (lv_at hl 0 rfl) ?_
          refine va_get (D := D) (ci := 1) (v := .ref (h 5)) (C := RX1) (T := TX1) (N := 10) hx hb hts (fun w h => lw_in w (inX1 w h)) hown hK hP 2 rfl rfl 3 (by decide) (hts _ (lw_in _ t_83)) (fun _ h9 => h9) rfl dX1_joinPart_180 ?_
          refine lv_iload_n hx hb dX1_joinPart_183 rfl (lv_at hl 1 rfl) ?_
          refine lv_aload_n hx hb dX1_joinPart_184 rfl (lv_at hl 0 rfl) ?_
          refine va_get (D := D) (ci := 1) (v := .ref (h 5)) (C := RX1) (T := TX1) (N := 10) hx hb hts (fun w h => lw_in w (inX1 w h)) hown hK hP 2 rfl rfl 3 (by decide) (hts _ (lw_in _ t_83)) (fun _ h9 => h9) rfl dX1_joinPart_185 ?_
          refine lv_iload_n hx hb dX1_joinPart_188 rfl (lv_at hl 1 rfl) ?_
          refine wx_zald hx hb hK hP 5 3 rfl rfl (i := v) hv (by decide) dX1_joinPart_189 ?_
          refine lv_if_eq (tgt := 204) hx hb dX1_joinPart_190 (by decide) (fun c_190 => ?_) (fun c_190 => ?_)
          · have c_190 : (oE v) = false := (bI_eq0 _).mp c_190
            exact absurd (c_132.symm.trans c_190) (by decide)
          · have c_190 : (oE v) = true := (bI_ne0 _).mp c_190
            refine lv_aload_n hx hb dX1_joinPart_193 rfl (lv_at hl 0 rfl) ?_
            refine va_get (D := D) (ci := 1) (v := .int (bI pE)) (C := RX1) (T := TX1) (N := 10) hx hb hts (fun w h => lw_in w (inX1 w h)) hown hK hP 2 rfl rfl 9 (by decide) (hts _ (lw_in _ t_89)) (fun _ h9 => h9) rfl dX1_joinPart_194 ?_
            refine lv_if_eq (tgt := 204) hx hb dX1_joinPart_197 (by decide) (fun c_197 => ?_) (fun c_197 => ?_)
            · have c_197 : pE = false := (bI_eq0 _).mp c_197
              exact absurd (c_157.symm.trans c_197) (by decide)
            · have c_197 : pE = true := (bI_ne0 _).mp c_197
              refine lv_iconst (v := 1) hx hb dX1_joinPart_200 (by decide) ?_
              refine lv_goto (tgt := 205) hx hb dX1_joinPart_201 (by decide) ?_
              refine wx_zastB (x := true) (g := oE) hx hb hK hP hD hS 5 3 rfl rfl (i := v) hv (by decide) dX1_joinPart_205 (fun H locs hP hD hS => ?_)
              have hP : va_P D vwCl (wD h k tx ln rd wh cm ((vp_updL oF v ((oF v) ||| pF)), (vp_updL oL v ((oL v) ||| pL)), (va_up oE v true), sp, dp, sta, pF, pL, pE) (nm, (cnL (oL v) pF np 0 nx), np, fi, la, em)) H := hP
              have hD : va_D A (wD h k tx ln rd wh cm ((vp_updL oF v ((oF v) ||| pF)), (vp_updL oL v ((oL v) ||| pL)), (va_up oE v true), sp, dp, sta, pF, pL, pE) (nm, (cnL (oL v) pF np 0 nx), np, fi, la, em)) := hD
              have e_206 : r_join (oF, oL, oE, sp, dp, sta, pF, pL, pE) (nm, nx, np, fi, la, em) v = (((vp_updL oF v ((oF v) ||| pF)), (vp_updL oL v ((oL v) ||| pL)), (va_up oE v true), sp, dp, sta, pF, pL, pE), (nm, (cnL (oL v) pF np 0 nx), np, fi, la, em)) := by simp [r_join, c_6, c_50, c_132, c_157, c_190, c_197]
              exact ct_endv hx hb hr hlocks hP hD hS (by rw [e_206]) rfl dX1_joinPart_206
    · have c_50 : (sp v) = 124 := c_50
      refine lv_aload_n hx hb dX1_joinPart_53 rfl (lv_at hl 0 rfl) ?_
      refine va_get (D := D) (ci := 1) (v := .ref (h 3)) (C := RX1) (T := TX1) (N := 10) hx hb hts (fun w h => lw_in w (inX1 w h)) hown hK hP 2 rfl rfl 1 (by decide) (hts _ (lw_in _ t_81)) (fun _ h9 => h9) rfl dX1_joinPart_54 ?_
      refine lv_iload_n hx hb dX1_joinPart_57 rfl (lv_at hl 1 rfl) ?_
      refine lv_dup2_11 hx hb dX1_joinPart_58 rfl rfl ?_
      refine wx_lald hx hb hK hP 3 1 rfl rfl (i := v) hv (by decide) dX1_joinPart_59 ?_
      refine lv_aload_n hx hb dX1_joinPart_60 rfl (lv_at hl 0 rfl) ?_
      refine va_get (D := D) (ci := 1) (v := .long pF) (C := RX1) (T := TX1) (N := 10) hx hb hts (fun w h => lw_in w (inX1 w h)) hown hK hP 2 rfl rfl 7 (by decide) (hts _ (lw_in _ t_87)) (fun _ h9 => h9) rfl dX1_joinPart_61 ?_
      refine lv_lor hx hb dX1_joinPart_64 ?_
      refine wx_last hx hb hK hP hD hS 3 1 rfl rfl (i := v) hv (by decide) dX1_joinPart_65 (fun H locs hP hD hS => ?_)
      have hP : va_P D vwCl (wD h k tx ln rd wh cm ((vp_updL oF v ((oF v) ||| pF)), oL, oE, sp, dp, sta, pF, pL, pE) (nm, nx, np, fi, la, em)) H := hP
      have hD : va_D A (wD h k tx ln rd wh cm ((vp_updL oF v ((oF v) ||| pF)), oL, oE, sp, dp, sta, pF, pL, pE) (nm, nx, np, fi, la, em)) := hD
      refine lv_aload_n hx hb dX1_joinPart_66 rfl (lv_at hl 0 rfl) ?_
      refine va_get (D := D) (ci := 1) (v := .ref (h 4)) (C := RX1) (T := TX1) (N := 10) hx hb hts (fun w h => lw_in w (inX1 w h)) hown hK hP 2 rfl rfl 2 (by decide) (hts _ (lw_in _ t_82)) (fun _ h9 => h9) rfl dX1_joinPart_67 ?_
      refine lv_iload_n hx hb dX1_joinPart_70 rfl (lv_at hl 1 rfl) ?_
      refine lv_dup2_11 hx hb dX1_joinPart_71 rfl rfl ?_
      refine wx_lald hx hb hK hP 4 2 rfl rfl (i := v) hv (by decide) dX1_joinPart_72 ?_
      refine lv_aload_n hx hb dX1_joinPart_73 rfl (lv_at hl 0 rfl) ?_
      refine va_get (D := D) (ci := 1) (v := .long pL) (C := RX1) (T := TX1) (N := 10) hx hb hts (fun w h => lw_in w (inX1 w h)) hown hK hP 2 rfl rfl 8 (by decide) (hts _ (lw_in _ t_88)) (fun _ h9 => h9) rfl dX1_joinPart_74 ?_
      refine lv_lor hx hb dX1_joinPart_77 ?_
      refine wx_last hx hb hK hP hD hS 4 2 rfl rfl (i := v) hv (by decide) dX1_joinPart_78 (fun H locs hP hD hS => ?_)
      have hP : va_P D vwCl (wD h k tx ln rd wh cm ((vp_updL oF v ((oF v) ||| pF)), (vp_updL oL v ((oL v) ||| pL)), oE, sp, dp, sta, pF, pL, pE) (nm, nx, np, fi, la, em)) H := hP
      have hD : va_D A (wD h k tx ln rd wh cm ((vp_updL oF v ((oF v) ||| pF)), (vp_updL oL v ((oL v) ||| pL)), oE, sp, dp, sta, pF, pL, pE) (nm, nx, np, fi, la, em)) := hD
      refine lv_aload_n hx hb dX1_joinPart_79 rfl (lv_at hl 0 rfl) ?_
      refine va_get (D := D) (ci := 1) (v := .ref (h 5)) (C := RX1) (T := TX1) (N := 10) hx hb hts (fun w h => lw_in w (inX1 w h)) hown hK hP 2 rfl rfl 3 (by decide) (hts _ (lw_in _ t_83)) (fun _ h9 => h9) rfl dX1_joinPart_80 ?_
      refine lv_iload_n hx hb dX1_joinPart_83 rfl (lv_at hl 1 rfl) ?_
      refine lv_aload_n hx hb dX1_joinPart_84 rfl (lv_at hl 0 rfl) ?_
      refine va_get (D := D) (ci := 1) (v := .ref (h 5)) (C := RX1) (T := TX1) (N := 10) hx hb hts (fun w h => lw_in w (inX1 w h)) hown hK hP 2 rfl rfl 3 (by decide) (hts _ (lw_in _ t_83)) (fun _ h9 => h9) rfl dX1_joinPart_85 ?_
      refine lv_iload_n hx hb dX1_joinPart_88 rfl (lv_at hl 1 rfl) ?_
      refine wx_zald hx hb hK hP 5 3 rfl rfl (i := v) hv (by decide) dX1_joinPart_89 ?_
      refine lv_if_ne (tgt := 100) hx hb dX1_joinPart_90 (by decide) (fun c_90 => ?_) (fun c_90 => ?_)
      · have c_90 : (oE v) = true := (bI_ne0 _).mp c_90
        refine lv_iconst (v := 1) hx hb dX1_joinPart_100 (by decide) ?_
        refine lv_goto (tgt := 105) hx hb dX1_joinPart_101 (by decide) ?_
        refine wx_zastB (x := true) (g := oE) hx hb hK hP hD hS 5 3 rfl rfl (i := v) hv (by decide) dX1_joinPart_105 (fun H locs hP hD hS => ?_)
        have hP : va_P D vwCl (wD h k tx ln rd wh cm ((vp_updL oF v ((oF v) ||| pF)), (vp_updL oL v ((oL v) ||| pL)), (va_up oE v true), sp, dp, sta, pF, pL, pE) (nm, nx, np, fi, la, em)) H := hP
        have hD : va_D A (wD h k tx ln rd wh cm ((vp_updL oF v ((oF v) ||| pF)), (vp_updL oL v ((oL v) ||| pL)), (va_up oE v true), sp, dp, sta, pF, pL, pE) (nm, nx, np, fi, la, em)) := hD
        refine lv_goto (tgt := 206) hx hb dX1_joinPart_106 (by decide) ?_
        have e_206 : r_join (oF, oL, oE, sp, dp, sta, pF, pL, pE) (nm, nx, np, fi, la, em) v = (((vp_updL oF v ((oF v) ||| pF)), (vp_updL oL v ((oL v) ||| pL)), (va_up oE v true), sp, dp, sta, pF, pL, pE), (nm, nx, np, fi, la, em)) := by simp [r_join, c_6, c_50, c_90]
        exact ct_endv hx hb hr hlocks hP hD hS (by rw [e_206]) rfl dX1_joinPart_206
      · have c_90 : (oE v) = false := (bI_eq0 _).mp c_90
        refine lv_aload_n hx hb dX1_joinPart_93 rfl (lv_at hl 0 rfl) ?_
        refine va_get (D := D) (ci := 1) (v := .int (bI pE)) (C := RX1) (T := TX1) (N := 10) hx hb hts (fun w h => lw_in w (inX1 w h)) hown hK hP 2 rfl rfl 9 (by decide) (hts _ (lw_in _ t_89)) (fun _ h9 => h9) rfl dX1_joinPart_94 ?_
        refine lv_if_eq (tgt := 104) hx hb dX1_joinPart_97 (by decide) (fun c_97 => ?_) (fun c_97 => ?_)
        · have c_97 : pE = false := (bI_eq0 _).mp c_97
          refine lv_iconst (v := 0) hx hb dX1_joinPart_104 (by decide) ?_
          refine wx_zastB (x := false) (g := oE) hx hb hK hP hD hS 5 3 rfl rfl (i := v) hv (by decide) dX1_joinPart_105 (fun H locs hP hD hS => ?_)
          have hP : va_P D vwCl (wD h k tx ln rd wh cm ((vp_updL oF v ((oF v) ||| pF)), (vp_updL oL v ((oL v) ||| pL)), (va_up oE v false), sp, dp, sta, pF, pL, pE) (nm, nx, np, fi, la, em)) H := hP
          have hD : va_D A (wD h k tx ln rd wh cm ((vp_updL oF v ((oF v) ||| pF)), (vp_updL oL v ((oL v) ||| pL)), (va_up oE v false), sp, dp, sta, pF, pL, pE) (nm, nx, np, fi, la, em)) := hD
          refine lv_goto (tgt := 206) hx hb dX1_joinPart_106 (by decide) ?_
          have e_206 : r_join (oF, oL, oE, sp, dp, sta, pF, pL, pE) (nm, nx, np, fi, la, em) v = (((vp_updL oF v ((oF v) ||| pF)), (vp_updL oL v ((oL v) ||| pL)), (va_up oE v false), sp, dp, sta, pF, pL, pE), (nm, nx, np, fi, la, em)) := by simp [r_join, c_6, c_50, c_90, c_97]
          exact ct_endv hx hb hr hlocks hP hD hS (by rw [e_206]) rfl dX1_joinPart_206
        · have c_97 : pE = true := (bI_ne0 _).mp c_97
          refine lv_iconst (v := 1) hx hb dX1_joinPart_100 (by decide) ?_
          refine lv_goto (tgt := 105) hx hb dX1_joinPart_101 (by decide) ?_
          refine wx_zastB (x := true) (g := oE) hx hb hK hP hD hS 5 3 rfl rfl (i := v) hv (by decide) dX1_joinPart_105 (fun H locs hP hD hS => ?_)
          have hP : va_P D vwCl (wD h k tx ln rd wh cm ((vp_updL oF v ((oF v) ||| pF)), (vp_updL oL v ((oL v) ||| pL)), (va_up oE v true), sp, dp, sta, pF, pL, pE) (nm, nx, np, fi, la, em)) H := hP
          have hD : va_D A (wD h k tx ln rd wh cm ((vp_updL oF v ((oF v) ||| pF)), (vp_updL oL v ((oL v) ||| pL)), (va_up oE v true), sp, dp, sta, pF, pL, pE) (nm, nx, np, fi, la, em)) := hD
          refine lv_goto (tgt := 206) hx hb dX1_joinPart_106 (by decide) ?_
          have e_206 : r_join (oF, oL, oE, sp, dp, sta, pF, pL, pE) (nm, nx, np, fi, la, em) v = (((vp_updL oF v ((oF v) ||| pF)), (vp_updL oL v ((oL v) ||| pL)), (va_up oE v true), sp, dp, sta, pF, pL, pE), (nm, nx, np, fi, la, em)) := by simp [r_join, c_6, c_50, c_90, c_97]
          exact ct_endv hx hb hr hlocks hP hD hS (by rw [e_206]) rfl dX1_joinPart_206
  · have c_6 : (sp v) = 0 := c_6
    refine lv_aload_n hx hb dX1_joinPart_9 rfl (lv_at hl 0 rfl) ?_
    refine va_get (D := D) (ci := 1) (v := .ref (h 3)) (C := RX1) (T := TX1) (N := 10) hx hb hts (fun w h => lw_in w (inX1 w h)) hown hK hP 2 rfl rfl 1 (by decide) (hts _ (lw_in _ t_81)) (fun _ h9 => h9) rfl dX1_joinPart_10 ?_
    refine lv_iload_n hx hb dX1_joinPart_13 rfl (lv_at hl 1 rfl) ?_
    refine lv_aload_n hx hb dX1_joinPart_14 rfl (lv_at hl 0 rfl) ?_
    refine va_get (D := D) (ci := 1) (v := .long pF) (C := RX1) (T := TX1) (N := 10) hx hb hts (fun w h => lw_in w (inX1 w h)) hown hK hP 2 rfl rfl 7 (by decide) (hts _ (lw_in _ t_87)) (fun _ h9 => h9) rfl dX1_joinPart_15 ?_
    refine wx_last hx hb hK hP hD hS 3 1 rfl rfl (i := v) hv (by decide) dX1_joinPart_18 (fun H locs hP hD hS => ?_)
    have hP : va_P D vwCl (wD h k tx ln rd wh cm ((vp_updL oF v pF), oL, oE, sp, dp, sta, pF, pL, pE) (nm, nx, np, fi, la, em)) H := hP
    have hD : va_D A (wD h k tx ln rd wh cm ((vp_updL oF v pF), oL, oE, sp, dp, sta, pF, pL, pE) (nm, nx, np, fi, la, em)) := hD
    refine lv_aload_n hx hb dX1_joinPart_19 rfl (lv_at hl 0 rfl) ?_
    refine va_get (D := D) (ci := 1) (v := .ref (h 4)) (C := RX1) (T := TX1) (N := 10) hx hb hts (fun w h => lw_in w (inX1 w h)) hown hK hP 2 rfl rfl 2 (by decide) (hts _ (lw_in _ t_82)) (fun _ h9 => h9) rfl dX1_joinPart_20 ?_
    refine lv_iload_n hx hb dX1_joinPart_23 rfl (lv_at hl 1 rfl) ?_
    refine lv_aload_n hx hb dX1_joinPart_24 rfl (lv_at hl 0 rfl) ?_
    refine va_get (D := D) (ci := 1) (v := .long pL) (C := RX1) (T := TX1) (N := 10) hx hb hts (fun w h => lw_in w (inX1 w h)) hown hK hP 2 rfl rfl 8 (by decide) (hts _ (lw_in _ t_88)) (fun _ h9 => h9) rfl dX1_joinPart_25 ?_
    refine wx_last hx hb hK hP hD hS 4 2 rfl rfl (i := v) hv (by decide) dX1_joinPart_28 (fun H locs hP hD hS => ?_)
    have hP : va_P D vwCl (wD h k tx ln rd wh cm ((vp_updL oF v pF), (vp_updL oL v pL), oE, sp, dp, sta, pF, pL, pE) (nm, nx, np, fi, la, em)) H := hP
    have hD : va_D A (wD h k tx ln rd wh cm ((vp_updL oF v pF), (vp_updL oL v pL), oE, sp, dp, sta, pF, pL, pE) (nm, nx, np, fi, la, em)) := hD
    refine lv_aload_n hx hb dX1_joinPart_29 rfl (lv_at hl 0 rfl) ?_
    refine va_get (D := D) (ci := 1) (v := .ref (h 5)) (C := RX1) (T := TX1) (N := 10) hx hb hts (fun w h => lw_in w (inX1 w h)) hown hK hP 2 rfl rfl 3 (by decide) (hts _ (lw_in _ t_83)) (fun _ h9 => h9) rfl dX1_joinPart_30 ?_
    refine lv_iload_n hx hb dX1_joinPart_33 rfl (lv_at hl 1 rfl) ?_
    refine lv_aload_n hx hb dX1_joinPart_34 rfl (lv_at hl 0 rfl) ?_
    refine va_get (D := D) (ci := 1) (v := .int (bI pE)) (C := RX1) (T := TX1) (N := 10) hx hb hts (fun w h => lw_in w (inX1 w h)) hown hK hP 2 rfl rfl 9 (by decide) (hts _ (lw_in _ t_89)) (fun _ h9 => h9) rfl dX1_joinPart_35 ?_
    refine wx_zastB (x := pE) (g := oE) hx hb hK hP hD hS 5 3 rfl rfl (i := v) hv (by decide) dX1_joinPart_38 (fun H locs hP hD hS => ?_)
    have hP : va_P D vwCl (wD h k tx ln rd wh cm ((vp_updL oF v pF), (vp_updL oL v pL), (va_up oE v pE), sp, dp, sta, pF, pL, pE) (nm, nx, np, fi, la, em)) H := hP
    have hD : va_D A (wD h k tx ln rd wh cm ((vp_updL oF v pF), (vp_updL oL v pL), (va_up oE v pE), sp, dp, sta, pF, pL, pE) (nm, nx, np, fi, la, em)) := hD
    refine lv_goto (tgt := 206) hx hb dX1_joinPart_39 (by decide) ?_
    have e_206 : r_join (oF, oL, oE, sp, dp, sta, pF, pL, pE) (nm, nx, np, fi, la, em) v = (((vp_updL oF v pF), (vp_updL oL v pL), (va_up oE v pE), sp, dp, sta, pF, pL, pE), (nm, nx, np, fi, la, em)) := by simp [r_join, c_6]
    exact ct_endv hx hb hr hlocks hP hD hS (by rw [e_206]) rfl dX1_joinPart_206

set_option maxHeartbeats 4000000 in
set_option maxRecDepth 100000 in
theorem k_R_takeSeparator (l : Launch) (D : va_G) (h : Nat → Nat) (k : Nat → ClassId) (tx : Nat → Int32) (ln : Nat) (rd : Int64) (wh : Bool) (cm : Nat) (oF : Nat → Int64) (oL : Nat → Int64) (oE : Nat → Bool) (sp : Nat → Int32) (d : Nat) (sta : Int32) (pF : Int64) (pL : Int64) (pE : Bool) (nm : Nat → Int32) (nx : Nat → Int64) (np : Nat) (fi : Int64) (la : Int64) (em : Bool) (x : Int32) (hnp : np ≤ 60) (hd : d < 12) :
    Ct l yX1_takeSeparator wsX1_takeSeparator (rmN 3) D vwCl (tyD k) [.ref (h 2), .int x] (wD h k tx ln rd wh cm (oF, oL, oE, sp, (d + 1), sta, pF, pL, pE) (nm, nx, np, fi, la, em)) (wD h k tx ln rd wh cm ((r_sep (oF, oL, oE, sp, d + 1, sta, pF, pL, pE) (nm, nx, np, fi, la, em) d x).1) ((r_sep (oF, oL, oE, sp, d + 1, sta, pF, pL, pE) (nm, nx, np, fi, la, em) d x).2.1)) (some (.int ((r_sep (oF, oL, oE, sp, d + 1, sta, pF, pL, pE) (nm, nx, np, fi, la, em) d x).2.2))) := by
  refine Ct.of (cc := cX1_takeSeparator) (maxL := 3) (ret := (some .int)) (lv := [(0, .ref (h 2)), (1, .int x)]) (by decide) rfl (Nat.le_of_ble_eq_true rfl) rfl ?_
  intro p e s m below meth c A ls hx hb hr hml hts hown hlocks hK hP hD hS hA hl
  refine lv_aload_n hx hb dX1_takeSeparator_0 rfl (lv_at hl 0 rfl) ?_
  refine va_get (D := D) (ci := 1) (v := .int (nI (d + 1))) (C := RX1) (T := TX1) (N := 10) hx hb hts (fun w h => lw_in w (inX1 w h)) hown hK hP 2 rfl rfl 5 (by decide) (hts _ (lw_in _ t_85)) (fun _ h9 => h9) rfl dX1_takeSeparator_1 ?_
  refine lv_iconst (v := 1) hx hb dX1_takeSeparator_4 (by decide) ?_
  refine lv_isub hx hb dX1_takeSeparator_5 ?_
  refine lv_eqi (show (nI (d + 1) - 1) = nI d from nI_pred _) ?_
  refine lv_istore_n (lv' := [(2, .int (nI d)), (0, .ref (h 2)), (1, .int x)]) hx hb dX1_takeSeparator_6 rfl hl (by decide) rfl (fun ls hl => ?_)
  refine lv_iload_n hx hb dX1_takeSeparator_7 rfl (lv_at hl 0 rfl) ?_
  refine lv_if_lt (tgt := 17) hx hb dX1_takeSeparator_8 (by decide) (fun c_8 => ?_) (fun c_8 => ?_)
  · have c_8 : d < 0 := (nI_ltI (a := d) (b := 0) (by omega) (by omega)).mp c_8
    exact absurd c_8 (Nat.not_lt_zero _)
  · have c_8 : 0 ≤ d := Nat.le_of_not_lt (fun z => c_8 ((nI_ltI (a := d) (b := 0) (by omega) (by omega)).mpr z))
    refine lv_iload_n hx hb dX1_takeSeparator_11 rfl (lv_at hl 0 rfl) ?_
    refine lv_bipush (v := 12) hx hb dX1_takeSeparator_12 (by decide) ?_
    refine lv_icmp_lt (tgt := 19) hx hb dX1_takeSeparator_14 (by decide) (fun c_14 => ?_) (fun c_14 => ?_)
    · have c_14 : d < 12 := (nI_ltI (a := d) (b := 12) (by omega) (by omega)).mp c_14
      refine lv_aload_n hx hb dX1_takeSeparator_19 rfl (lv_at hl 1 rfl) ?_
      refine va_get (D := D) (ci := 1) (v := .ref (h 6)) (C := RX1) (T := TX1) (N := 10) hx hb hts (fun w h => lw_in w (inX1 w h)) hown hK hP 2 rfl rfl 4 (by decide) (hts _ (lw_in _ t_84)) (fun _ h9 => h9) rfl dX1_takeSeparator_20 ?_
      refine lv_iload_n hx hb dX1_takeSeparator_23 rfl (lv_at hl 0 rfl) ?_
      refine wx_iald hx hb hK hP 6 4 rfl rfl (i := d) hd (by decide) dX1_takeSeparator_24 ?_
      refine lv_if_eq (tgt := 40) hx hb dX1_takeSeparator_25 (by decide) (fun c_25 => ?_) (fun c_25 => ?_)
      · have c_25 : (sp d) = 0 := c_25
        refine lv_aload_n hx hb dX1_takeSeparator_40 rfl (lv_at hl 1 rfl) ?_
        refine lv_iload_n hx hb dX1_takeSeparator_41 rfl (lv_at hl 0 rfl) ?_
        refine ct_callV (As := [.int (nI d)]) (rest := []) ⟨hx, hb, hml, hown, hts⟩ (k_R_joinPart l D h k tx ln rd wh cm oF oL oE sp (d + 1) sta pF pL pE nm nx np fi la em d (by omega) (by omega)) (cwV 1 hts (gV lw_in t_197 t_199 t_6 t_24 t_200) rfl rfl rfl (by decide +kernel) ⟨Nat.le_of_ble_eq_true rfl, Nat.le_of_ble_eq_true rfl⟩) 2 rfl rfl hK hP hD hS hA rfl hl.1 rfl (Nat.le_of_ble_eq_true rfl) dX1_takeSeparator_42 ⟨Nat.zero_le _, Nat.zero_le _⟩ (fun H locs hP hD hS => ?_)
        refine W.eq (g2 := F0 m 45 ls []) rfl ?_
        have hP : va_P D vwCl (wD h k tx ln rd wh cm (r_join (oF, oL, oE, sp, (d + 1), sta, pF, pL, pE) (nm, nx, np, fi, la, em) d).1 (r_join (oF, oL, oE, sp, (d + 1), sta, pF, pL, pE) (nm, nx, np, fi, la, em) d).2) H := hP
        have hD : va_D A (wD h k tx ln rd wh cm (r_join (oF, oL, oE, sp, (d + 1), sta, pF, pL, pE) (nm, nx, np, fi, la, em) d).1 (r_join (oF, oL, oE, sp, (d + 1), sta, pF, pL, pE) (nm, nx, np, fi, la, em) d).2) := hD
        generalize hJ : r_join (oF, oL, oE, sp, (d + 1), sta, pF, pL, pE) (nm, nx, np, fi, la, em) d = J at hP hD
        obtain ⟨⟨oF1, oL1, oE1, sp1, dp1, sta1, pF1, pL1, pE1⟩, ⟨nm1, nx1, np1, fi1, la1, em1⟩⟩ := J
        have hP : va_P D vwCl (wD h k tx ln rd wh cm (oF1, oL1, oE1, sp1, dp1, sta1, pF1, pL1, pE1) (nm1, nx1, np1, fi1, la1, em1)) H := hP
        have hD : va_D A (wD h k tx ln rd wh cm (oF1, oL1, oE1, sp1, dp1, sta1, pF1, pL1, pE1) (nm1, nx1, np1, fi1, la1, em1)) := hD
        refine lv_aload_n hx hb dX1_takeSeparator_45 rfl (lv_at hl 1 rfl) ?_
        refine va_get (D := D) (ci := 1) (v := .ref (h 6)) (C := RX1) (T := TX1) (N := 10) hx hb hts (fun w h => lw_in w (inX1 w h)) hown hK hP 2 rfl rfl 4 (by decide) (hts _ (lw_in _ t_84)) (fun _ h9 => h9) rfl dX1_takeSeparator_46 ?_
        refine lv_iload_n hx hb dX1_takeSeparator_49 rfl (lv_at hl 0 rfl) ?_
        refine lv_iload_n hx hb dX1_takeSeparator_50 rfl (lv_at hl 2 rfl) ?_
        refine wx_iast hx hb hK hP hD hS 6 4 rfl rfl (i := d) hd (by decide) dX1_takeSeparator_51 (fun H locs hP hD hS => ?_)
        have hP : va_P D vwCl (wD h k tx ln rd wh cm (oF1, oL1, oE1, (upd sp1 d x), dp1, sta1, pF1, pL1, pE1) (nm1, nx1, np1, fi1, la1, em1)) H := hP
        have hD : va_D A (wD h k tx ln rd wh cm (oF1, oL1, oE1, (upd sp1 d x), dp1, sta1, pF1, pL1, pE1) (nm1, nx1, np1, fi1, la1, em1)) := hD
        refine lv_aload_n hx hb dX1_takeSeparator_52 rfl (lv_at hl 1 rfl) ?_
        refine lv_iconst (v := 1) hx hb dX1_takeSeparator_53 (by decide) ?_
        refine va_put (D := D) (ci := 1) (v := .int 1) (ty := .int) (C := RX1) (T := TX1) (N := 10) hx hb hts (fun w h => lw_in w (inX1 w h)) tyX1 tyX1_ok nmX1 hown hK hP hD hS 2 rfl rfl 6 (by decide) (hts _ (lw_in _ t_86)) (fun _ h9 => h9) rfl (by decide +kernel) rfl rfl (Nat.le_of_ble_eq_true rfl) dX1_takeSeparator_54 (fun H locs hP hD hS => ?_)
        have hP : va_P D vwCl (wD h k tx ln rd wh cm (oF1, oL1, oE1, (upd sp1 d x), dp1, 1, pF1, pL1, pE1) (nm1, nx1, np1, fi1, la1, em1)) H := hP
        have hD : va_D A (wD h k tx ln rd wh cm (oF1, oL1, oE1, (upd sp1 d x), dp1, 1, pF1, pL1, pE1) (nm1, nx1, np1, fi1, la1, em1)) := hD
        refine lv_iconst (v := 0) hx hb dX1_takeSeparator_57 (by decide) ?_
        have e_58 : r_sep (oF, oL, oE, sp, d + 1, sta, pF, pL, pE) (nm, nx, np, fi, la, em) d x = ((oF1, oL1, oE1, (upd sp1 d x), dp1, 1, pF1, pL1, pE1), (nm1, nx1, np1, fi1, la1, em1), 0) := by simp [r_sep, c_25, hJ, r_sepE]
        exact ct_endi hx hb hr hlocks rfl hP hD hS (by rw [e_58]) (by rw [e_58]) dX1_takeSeparator_58
      · have c_25 : ¬ (sp d) = 0 := c_25
        refine lv_aload_n hx hb dX1_takeSeparator_28 rfl (lv_at hl 1 rfl) ?_
        refine va_get (D := D) (ci := 1) (v := .ref (h 6)) (C := RX1) (T := TX1) (N := 10) hx hb hts (fun w h => lw_in w (inX1 w h)) hown hK hP 2 rfl rfl 4 (by decide) (hts _ (lw_in _ t_84)) (fun _ h9 => h9) rfl dX1_takeSeparator_29 ?_
        refine lv_iload_n hx hb dX1_takeSeparator_32 rfl (lv_at hl 0 rfl) ?_
        refine wx_iald hx hb hK hP 6 4 rfl rfl (i := d) hd (by decide) dX1_takeSeparator_33 ?_
        refine lv_iload_n hx hb dX1_takeSeparator_34 rfl (lv_at hl 2 rfl) ?_
        refine lv_icmp_eq (tgt := 40) hx hb dX1_takeSeparator_35 (by decide) (fun c_35 => ?_) (fun c_35 => ?_)
        · have c_35 : (sp d) = x := c_35
          refine lv_aload_n hx hb dX1_takeSeparator_40 rfl (lv_at hl 1 rfl) ?_
          refine lv_iload_n hx hb dX1_takeSeparator_41 rfl (lv_at hl 0 rfl) ?_
          refine ct_callV (As := [.int (nI d)]) (rest := []) ⟨hx, hb, hml, hown, hts⟩ (k_R_joinPart l D h k tx ln rd wh cm oF oL oE sp (d + 1) sta pF pL pE nm nx np fi la em d (by omega) (by omega)) (cwV 1 hts (gV lw_in t_197 t_199 t_6 t_24 t_200) rfl rfl rfl (by decide +kernel) ⟨Nat.le_of_ble_eq_true rfl, Nat.le_of_ble_eq_true rfl⟩) 2 rfl rfl hK hP hD hS hA rfl hl.1 rfl (Nat.le_of_ble_eq_true rfl) dX1_takeSeparator_42 ⟨Nat.zero_le _, Nat.zero_le _⟩ (fun H locs hP hD hS => ?_)
          refine W.eq (g2 := F0 m 45 ls []) rfl ?_
          have hP : va_P D vwCl (wD h k tx ln rd wh cm (r_join (oF, oL, oE, sp, (d + 1), sta, pF, pL, pE) (nm, nx, np, fi, la, em) d).1 (r_join (oF, oL, oE, sp, (d + 1), sta, pF, pL, pE) (nm, nx, np, fi, la, em) d).2) H := hP
          have hD : va_D A (wD h k tx ln rd wh cm (r_join (oF, oL, oE, sp, (d + 1), sta, pF, pL, pE) (nm, nx, np, fi, la, em) d).1 (r_join (oF, oL, oE, sp, (d + 1), sta, pF, pL, pE) (nm, nx, np, fi, la, em) d).2) := hD
          generalize hJ : r_join (oF, oL, oE, sp, (d + 1), sta, pF, pL, pE) (nm, nx, np, fi, la, em) d = J at hP hD
          obtain ⟨⟨oF1, oL1, oE1, sp1, dp1, sta1, pF1, pL1, pE1⟩, ⟨nm1, nx1, np1, fi1, la1, em1⟩⟩ := J
          have hP : va_P D vwCl (wD h k tx ln rd wh cm (oF1, oL1, oE1, sp1, dp1, sta1, pF1, pL1, pE1) (nm1, nx1, np1, fi1, la1, em1)) H := hP
          have hD : va_D A (wD h k tx ln rd wh cm (oF1, oL1, oE1, sp1, dp1, sta1, pF1, pL1, pE1) (nm1, nx1, np1, fi1, la1, em1)) := hD
          refine lv_aload_n hx hb dX1_takeSeparator_45 rfl (lv_at hl 1 rfl) ?_
          refine va_get (D := D) (ci := 1) (v := .ref (h 6)) (C := RX1) (T := TX1) (N := 10) hx hb hts (fun w h => lw_in w (inX1 w h)) hown hK hP 2 rfl rfl 4 (by decide) (hts _ (lw_in _ t_84)) (fun _ h9 => h9) rfl dX1_takeSeparator_46 ?_
          refine lv_iload_n hx hb dX1_takeSeparator_49 rfl (lv_at hl 0 rfl) ?_
          refine lv_iload_n hx hb dX1_takeSeparator_50 rfl (lv_at hl 2 rfl) ?_
          refine wx_iast hx hb hK hP hD hS 6 4 rfl rfl (i := d) hd (by decide) dX1_takeSeparator_51 (fun H locs hP hD hS => ?_)
          have hP : va_P D vwCl (wD h k tx ln rd wh cm (oF1, oL1, oE1, (upd sp1 d x), dp1, sta1, pF1, pL1, pE1) (nm1, nx1, np1, fi1, la1, em1)) H := hP
          have hD : va_D A (wD h k tx ln rd wh cm (oF1, oL1, oE1, (upd sp1 d x), dp1, sta1, pF1, pL1, pE1) (nm1, nx1, np1, fi1, la1, em1)) := hD
          refine lv_aload_n hx hb dX1_takeSeparator_52 rfl (lv_at hl 1 rfl) ?_
          refine lv_iconst (v := 1) hx hb dX1_takeSeparator_53 (by decide) ?_
          refine va_put (D := D) (ci := 1) (v := .int 1) (ty := .int) (C := RX1) (T := TX1) (N := 10) hx hb hts (fun w h => lw_in w (inX1 w h)) tyX1 tyX1_ok nmX1 hown hK hP hD hS 2 rfl rfl 6 (by decide) (hts _ (lw_in _ t_86)) (fun _ h9 => h9) rfl (by decide +kernel) rfl rfl (Nat.le_of_ble_eq_true rfl) dX1_takeSeparator_54 (fun H locs hP hD hS => ?_)
          have hP : va_P D vwCl (wD h k tx ln rd wh cm (oF1, oL1, oE1, (upd sp1 d x), dp1, 1, pF1, pL1, pE1) (nm1, nx1, np1, fi1, la1, em1)) H := hP
          have hD : va_D A (wD h k tx ln rd wh cm (oF1, oL1, oE1, (upd sp1 d x), dp1, 1, pF1, pL1, pE1) (nm1, nx1, np1, fi1, la1, em1)) := hD
          refine lv_iconst (v := 0) hx hb dX1_takeSeparator_57 (by decide) ?_
          have e_58 : r_sep (oF, oL, oE, sp, d + 1, sta, pF, pL, pE) (nm, nx, np, fi, la, em) d x = ((oF1, oL1, oE1, (upd sp1 d x), dp1, 1, pF1, pL1, pE1), (nm1, nx1, np1, fi1, la1, em1), 0) := by simp [r_sep, c_25, c_35, hJ, r_sepE]
          exact ct_endi hx hb hr hlocks rfl hP hD hS (by rw [e_58]) (by rw [e_58]) dX1_takeSeparator_58
        · have c_35 : ¬ (sp d) = x := c_35
          refine lv_iconst (v := 1) hx hb dX1_takeSeparator_38 (by decide) ?_
          have e_39 : r_sep (oF, oL, oE, sp, d + 1, sta, pF, pL, pE) (nm, nx, np, fi, la, em) d x = ((oF, oL, oE, sp, (d + 1), sta, pF, pL, pE), (nm, nx, np, fi, la, em), 1) := by simp [r_sep, c_25, c_35]
          exact ct_endi hx hb hr hlocks rfl hP hD hS (by rw [e_39]) (by rw [e_39]) dX1_takeSeparator_39
    · have c_14 : 12 ≤ d := Nat.le_of_not_lt (fun z => c_14 ((nI_ltI (a := d) (b := 12) (by omega) (by omega)).mpr z))
      exact absurd c_14 (by omega)

set_option maxHeartbeats 4000000 in
set_option maxRecDepth 100000 in
theorem k_R_close (l : Launch) (D : va_G) (h : Nat → Nat) (k : Nat → ClassId) (tx : Nat → Int32) (ln : Nat) (rd : Int64) (wh : Bool) (cm : Nat) (oF : Nat → Int64) (oL : Nat → Int64) (oE : Nat → Bool) (sp : Nat → Int32) (d : Nat) (sta : Int32) (pF : Int64) (pL : Int64) (pE : Bool) (nm : Nat → Int32) (nx : Nat → Int64) (np : Nat) (fi : Int64) (la : Int64) (em : Bool)  (hnp : np ≤ 60) (hd : d < 12) :
    Ct l yX1_close wsX1_close (rmN 3) D vwCl (tyD k) [.ref (h 2)] (wD h k tx ln rd wh cm (oF, oL, oE, sp, (d + 1), sta, pF, pL, pE) (nm, nx, np, fi, la, em)) (wD h k tx ln rd wh cm ((r_close (oF, oL, oE, sp, d + 1, sta, pF, pL, pE) (nm, nx, np, fi, la, em) d).1) ((r_close (oF, oL, oE, sp, d + 1, sta, pF, pL, pE) (nm, nx, np, fi, la, em) d).2.1)) (some (.int ((r_close (oF, oL, oE, sp, d + 1, sta, pF, pL, pE) (nm, nx, np, fi, la, em) d).2.2))) := by
  refine Ct.of (cc := cX1_close) (maxL := 2) (ret := (some .int)) (lv := [(0, .ref (h 2))]) (by decide) rfl (Nat.le_of_ble_eq_true rfl) rfl ?_
  intro p e s m below meth c A ls hx hb hr hml hts hown hlocks hK hP hD hS hA hl
  refine lv_aload_n hx hb dX1_close_0 rfl (lv_at hl 0 rfl) ?_
  refine va_get (D := D) (ci := 1) (v := .int (nI (d + 1))) (C := RX1) (T := TX1) (N := 10) hx hb hts (fun w h => lw_in w (inX1 w h)) hown hK hP 2 rfl rfl 5 (by decide) (hts _ (lw_in _ t_85)) (fun _ h9 => h9) rfl dX1_close_1 ?_
  refine lv_iconst (v := 1) hx hb dX1_close_4 (by decide) ?_
  refine lv_isub hx hb dX1_close_5 ?_
  refine lv_eqi (show (nI (d + 1) - 1) = nI d from nI_pred _) ?_
  refine lv_istore_n (lv' := [(1, .int (nI d)), (0, .ref (h 2))]) hx hb dX1_close_6 rfl hl (by decide) rfl (fun ls hl => ?_)
  refine lv_iload_n hx hb dX1_close_7 rfl (lv_at hl 0 rfl) ?_
  refine lv_if_lt (tgt := 17) hx hb dX1_close_8 (by decide) (fun c_8 => ?_) (fun c_8 => ?_)
  · have c_8 : d < 0 := (nI_ltI (a := d) (b := 0) (by omega) (by omega)).mp c_8
    exact absurd c_8 (Nat.not_lt_zero _)
  · have c_8 : 0 ≤ d := Nat.le_of_not_lt (fun z => c_8 ((nI_ltI (a := d) (b := 0) (by omega) (by omega)).mpr z))
    refine lv_iload_n hx hb dX1_close_11 rfl (lv_at hl 0 rfl) ?_
    refine lv_bipush (v := 12) hx hb dX1_close_12 (by decide) ?_
    refine lv_icmp_lt (tgt := 19) hx hb dX1_close_14 (by decide) (fun c_14 => ?_) (fun c_14 => ?_)
    · have c_14 : d < 12 := (nI_ltI (a := d) (b := 12) (by omega) (by omega)).mp c_14
      refine lv_aload_n hx hb dX1_close_19 rfl (lv_at hl 1 rfl) ?_
      refine lv_iload_n hx hb dX1_close_20 rfl (lv_at hl 0 rfl) ?_
      refine ct_callV (As := [.int (nI d)]) (rest := []) ⟨hx, hb, hml, hown, hts⟩ (k_R_joinPart l D h k tx ln rd wh cm oF oL oE sp (d + 1) sta pF pL pE nm nx np fi la em d (by omega) (by omega)) (cwV 1 hts (gV lw_in t_197 t_199 t_6 t_24 t_200) rfl rfl rfl (by decide +kernel) ⟨Nat.le_of_ble_eq_true rfl, Nat.le_of_ble_eq_true rfl⟩) 2 rfl rfl hK hP hD hS hA rfl hl.1 rfl (Nat.le_of_ble_eq_true rfl) dX1_close_21 ⟨Nat.zero_le _, Nat.zero_le _⟩ (fun H locs hP hD hS => ?_)
      refine W.eq (g2 := F0 m 24 ls []) rfl ?_
      have hP : va_P D vwCl (wD h k tx ln rd wh cm (r_join (oF, oL, oE, sp, (d + 1), sta, pF, pL, pE) (nm, nx, np, fi, la, em) d).1 (r_join (oF, oL, oE, sp, (d + 1), sta, pF, pL, pE) (nm, nx, np, fi, la, em) d).2) H := hP
      have hD : va_D A (wD h k tx ln rd wh cm (r_join (oF, oL, oE, sp, (d + 1), sta, pF, pL, pE) (nm, nx, np, fi, la, em) d).1 (r_join (oF, oL, oE, sp, (d + 1), sta, pF, pL, pE) (nm, nx, np, fi, la, em) d).2) := hD
      generalize hJ : r_join (oF, oL, oE, sp, (d + 1), sta, pF, pL, pE) (nm, nx, np, fi, la, em) d = J at hP hD
      obtain ⟨⟨oF1, oL1, oE1, sp1, dp1, sta1, pF1, pL1, pE1⟩, ⟨nm1, nx1, np1, fi1, la1, em1⟩⟩ := J
      have hP : va_P D vwCl (wD h k tx ln rd wh cm (oF1, oL1, oE1, sp1, dp1, sta1, pF1, pL1, pE1) (nm1, nx1, np1, fi1, la1, em1)) H := hP
      have hD : va_D A (wD h k tx ln rd wh cm (oF1, oL1, oE1, sp1, dp1, sta1, pF1, pL1, pE1) (nm1, nx1, np1, fi1, la1, em1)) := hD
      refine lv_aload_n hx hb dX1_close_24 rfl (lv_at hl 1 rfl) ?_
      refine lv_aload_n hx hb dX1_close_25 rfl (lv_at hl 1 rfl) ?_
      refine va_get (D := D) (ci := 1) (v := .ref (h 3)) (C := RX1) (T := TX1) (N := 10) hx hb hts (fun w h => lw_in w (inX1 w h)) hown hK hP 2 rfl rfl 1 (by decide) (hts _ (lw_in _ t_81)) (fun _ h9 => h9) rfl dX1_close_26 ?_
      refine lv_iload_n hx hb dX1_close_29 rfl (lv_at hl 0 rfl) ?_
      refine wx_lald hx hb hK hP 3 1 rfl rfl (i := d) hd (by decide) dX1_close_30 ?_
      refine va_put (D := D) (ci := 1) (v := .long (oF1 d)) (ty := .long) (C := RX1) (T := TX1) (N := 10) hx hb hts (fun w h => lw_in w (inX1 w h)) tyX1 tyX1_ok nmX1 hown hK hP hD hS 2 rfl rfl 7 (by decide) (hts _ (lw_in _ t_87)) (fun _ h9 => h9) rfl (by decide +kernel) rfl rfl (Nat.le_of_ble_eq_true rfl) dX1_close_31 (fun H locs hP hD hS => ?_)
      have hP : va_P D vwCl (wD h k tx ln rd wh cm (oF1, oL1, oE1, sp1, dp1, sta1, (oF1 d), pL1, pE1) (nm1, nx1, np1, fi1, la1, em1)) H := hP
      have hD : va_D A (wD h k tx ln rd wh cm (oF1, oL1, oE1, sp1, dp1, sta1, (oF1 d), pL1, pE1) (nm1, nx1, np1, fi1, la1, em1)) := hD
      refine lv_aload_n hx hb dX1_close_34 rfl (lv_at hl 1 rfl) ?_
      refine lv_aload_n hx hb dX1_close_35 rfl (lv_at hl 1 rfl) ?_
      refine va_get (D := D) (ci := 1) (v := .ref (h 4)) (C := RX1) (T := TX1) (N := 10) hx hb hts (fun w h => lw_in w (inX1 w h)) hown hK hP 2 rfl rfl 2 (by decide) (hts _ (lw_in _ t_82)) (fun _ h9 => h9) rfl dX1_close_36 ?_
      refine lv_iload_n hx hb dX1_close_39 rfl (lv_at hl 0 rfl) ?_
      refine wx_lald hx hb hK hP 4 2 rfl rfl (i := d) hd (by decide) dX1_close_40 ?_
      refine va_put (D := D) (ci := 1) (v := .long (oL1 d)) (ty := .long) (C := RX1) (T := TX1) (N := 10) hx hb hts (fun w h => lw_in w (inX1 w h)) tyX1 tyX1_ok nmX1 hown hK hP hD hS 2 rfl rfl 8 (by decide) (hts _ (lw_in _ t_88)) (fun _ h9 => h9) rfl (by decide +kernel) rfl rfl (Nat.le_of_ble_eq_true rfl) dX1_close_41 (fun H locs hP hD hS => ?_)
      have hP : va_P D vwCl (wD h k tx ln rd wh cm (oF1, oL1, oE1, sp1, dp1, sta1, (oF1 d), (oL1 d), pE1) (nm1, nx1, np1, fi1, la1, em1)) H := hP
      have hD : va_D A (wD h k tx ln rd wh cm (oF1, oL1, oE1, sp1, dp1, sta1, (oF1 d), (oL1 d), pE1) (nm1, nx1, np1, fi1, la1, em1)) := hD
      refine lv_aload_n hx hb dX1_close_44 rfl (lv_at hl 1 rfl) ?_
      refine lv_aload_n hx hb dX1_close_45 rfl (lv_at hl 1 rfl) ?_
      refine va_get (D := D) (ci := 1) (v := .ref (h 5)) (C := RX1) (T := TX1) (N := 10) hx hb hts (fun w h => lw_in w (inX1 w h)) hown hK hP 2 rfl rfl 3 (by decide) (hts _ (lw_in _ t_83)) (fun _ h9 => h9) rfl dX1_close_46 ?_
      refine lv_iload_n hx hb dX1_close_49 rfl (lv_at hl 0 rfl) ?_
      refine wx_zald hx hb hK hP 5 3 rfl rfl (i := d) hd (by decide) dX1_close_50 ?_
      refine lv_eqi (show (bI (oE1 d)) = bI (oE1 d) from rfl) ?_
      refine va_put (D := D) (ci := 1) (v := .int (bI (oE1 d))) (ty := .boolean) (C := RX1) (T := TX1) (N := 10) hx hb hts (fun w h => lw_in w (inX1 w h)) tyX1 tyX1_ok nmX1 hown hK hP hD hS 2 rfl rfl 9 (by decide) (hts _ (lw_in _ t_89)) (fun _ h9 => h9) rfl (by decide +kernel) (bI_narrow _) (bI_fits _) (Nat.le_of_ble_eq_true rfl) dX1_close_51 (fun H locs hP hD hS => ?_)
      have hP : va_P D vwCl (wD h k tx ln rd wh cm (oF1, oL1, oE1, sp1, dp1, sta1, (oF1 d), (oL1 d), (oE1 d)) (nm1, nx1, np1, fi1, la1, em1)) H := hP
      have hD : va_D A (wD h k tx ln rd wh cm (oF1, oL1, oE1, sp1, dp1, sta1, (oF1 d), (oL1 d), (oE1 d)) (nm1, nx1, np1, fi1, la1, em1)) := hD
      refine lv_aload_n hx hb dX1_close_54 rfl (lv_at hl 1 rfl) ?_
      refine lv_iload_n hx hb dX1_close_55 rfl (lv_at hl 0 rfl) ?_
      refine va_put (D := D) (ci := 1) (v := .int (nI d)) (ty := .int) (C := RX1) (T := TX1) (N := 10) hx hb hts (fun w h => lw_in w (inX1 w h)) tyX1 tyX1_ok nmX1 hown hK hP hD hS 2 rfl rfl 5 (by decide) (hts _ (lw_in _ t_85)) (fun _ h9 => h9) rfl (by decide +kernel) rfl rfl (Nat.le_of_ble_eq_true rfl) dX1_close_56 (fun H locs hP hD hS => ?_)
      have hP : va_P D vwCl (wD h k tx ln rd wh cm (oF1, oL1, oE1, sp1, d, sta1, (oF1 d), (oL1 d), (oE1 d)) (nm1, nx1, np1, fi1, la1, em1)) H := hP
      have hD : va_D A (wD h k tx ln rd wh cm (oF1, oL1, oE1, sp1, d, sta1, (oF1 d), (oL1 d), (oE1 d)) (nm1, nx1, np1, fi1, la1, em1)) := hD
      refine lv_aload_n hx hb dX1_close_59 rfl (lv_at hl 1 rfl) ?_
      refine lv_iconst (v := 2) hx hb dX1_close_60 (by decide) ?_
      refine va_put (D := D) (ci := 1) (v := .int 2) (ty := .int) (C := RX1) (T := TX1) (N := 10) hx hb hts (fun w h => lw_in w (inX1 w h)) tyX1 tyX1_ok nmX1 hown hK hP hD hS 2 rfl rfl 6 (by decide) (hts _ (lw_in _ t_86)) (fun _ h9 => h9) rfl (by decide +kernel) rfl rfl (Nat.le_of_ble_eq_true rfl) dX1_close_61 (fun H locs hP hD hS => ?_)
      have hP : va_P D vwCl (wD h k tx ln rd wh cm (oF1, oL1, oE1, sp1, d, 2, (oF1 d), (oL1 d), (oE1 d)) (nm1, nx1, np1, fi1, la1, em1)) H := hP
      have hD : va_D A (wD h k tx ln rd wh cm (oF1, oL1, oE1, sp1, d, 2, (oF1 d), (oL1 d), (oE1 d)) (nm1, nx1, np1, fi1, la1, em1)) := hD
      refine lv_iconst (v := 0) hx hb dX1_close_64 (by decide) ?_
      have e_65 : r_close (oF, oL, oE, sp, d + 1, sta, pF, pL, pE) (nm, nx, np, fi, la, em) d = ((oF1, oL1, oE1, sp1, d, 2, (oF1 d), (oL1 d), (oE1 d)), (nm1, nx1, np1, fi1, la1, em1), 0) := by simp [r_close, hJ, r_closeE]
      exact ct_endi hx hb hr hlocks rfl hP hD hS (by rw [e_65]) (by rw [e_65]) dX1_close_65
    · have c_14 : 12 ≤ d := Nat.le_of_not_lt (fun z => c_14 ((nI_ltI (a := d) (b := 12) (by omega) (by omega)).mpr z))
      exact absurd c_14 (by omega)

set_option maxHeartbeats 4000000 in
set_option maxRecDepth 100000 in
theorem k_R_isSign (l : Launch) (D : va_G) (h : Nat → Nat) (k : Nat → ClassId) (tx : Nat → Int32) (ln : Nat) (rd : Int64) (wh : Bool) (cm : Nat) (R : RS) (M : MS) (x : Int32)  :
    Ct l yX1_isSign wsX1_isSign (rmN 0) D vwCl (tyD k) [.int x] (wD h k tx ln rd wh cm R M) (wD h k tx ln rd wh cm R M) (some (.int (bI (r_isSign x)))) := by
  refine Ct.of (cc := cX1_isSign) (maxL := 1) (ret := (some .boolean)) (lv := [(0, .int x)]) (by decide) rfl (Nat.le_of_ble_eq_true rfl) rfl ?_
  intro p e s m below meth c A ls hx hb hr hml hts hown hlocks hK hP hD hS hA hl
  refine lv_iload_n hx hb dX1_isSign_0 rfl (lv_at hl 0 rfl) ?_
  refine lv_bipush (v := 63) hx hb dX1_isSign_1 (by decide) ?_
  refine lv_icmp_eq (tgt := 18) hx hb dX1_isSign_3 (by decide) (fun c_3 => ?_) (fun c_3 => ?_)
  · have c_3 : x = 63 := c_3
    refine lv_iconst (v := 1) hx hb dX1_isSign_18 (by decide) ?_
    refine lv_goto (tgt := 23) hx hb dX1_isSign_19 (by decide) ?_
    exact ct_endi hx hb hr hlocks rfl hP hD hS rfl (by simp [r_isSign, bI, c_3]) dX1_isSign_23
  · have c_3 : ¬ x = 63 := c_3
    refine lv_iload_n hx hb dX1_isSign_6 rfl (lv_at hl 0 rfl) ?_
    refine lv_bipush (v := 42) hx hb dX1_isSign_7 (by decide) ?_
    refine lv_icmp_eq (tgt := 18) hx hb dX1_isSign_9 (by decide) (fun c_9 => ?_) (fun c_9 => ?_)
    · have c_9 : x = 42 := c_9
      refine lv_iconst (v := 1) hx hb dX1_isSign_18 (by decide) ?_
      refine lv_goto (tgt := 23) hx hb dX1_isSign_19 (by decide) ?_
      exact ct_endi hx hb hr hlocks rfl hP hD hS rfl (by simp [r_isSign, bI, c_3, c_9]) dX1_isSign_23
    · have c_9 : ¬ x = 42 := c_9
      refine lv_iload_n hx hb dX1_isSign_12 rfl (lv_at hl 0 rfl) ?_
      refine lv_bipush (v := 43) hx hb dX1_isSign_13 (by decide) ?_
      refine lv_icmp_ne (tgt := 22) hx hb dX1_isSign_15 (by decide) (fun c_15 => ?_) (fun c_15 => ?_)
      · have c_15 : ¬ x = 43 := c_15
        refine lv_iconst (v := 0) hx hb dX1_isSign_22 (by decide) ?_
        exact ct_endi hx hb hr hlocks rfl hP hD hS rfl (by simp [r_isSign, bI, c_3, c_9, c_15]) dX1_isSign_23
      · have c_15 : x = 43 := c_15
        refine lv_iconst (v := 1) hx hb dX1_isSign_18 (by decide) ?_
        refine lv_goto (tgt := 23) hx hb dX1_isSign_19 (by decide) ?_
        exact ct_endi hx hb hr hlocks rfl hP hD hS rfl (by simp [r_isSign, bI, c_3, c_9, c_15]) dX1_isSign_23

set_option maxHeartbeats 4000000 in
set_option maxRecDepth 100000 in
theorem k_R_takeBeforePart (l : Launch) (D : va_G) (h : Nat → Nat) (k : Nat → ClassId) (tx : Nat → Int32) (ln : Nat) (rd : Int64) (wh : Bool) (cm : Nat) (oF : Nat → Int64) (oL : Nat → Int64) (oE : Nat → Bool) (sp : Nat → Int32) (dp : Nat) (sta : Int32) (pF : Int64) (pL : Int64) (pE : Bool) (nm : Nat → Int32) (nx : Nat → Int64) (np : Nat) (fi : Int64) (la : Int64) (em : Bool) (x : Int32) (hnp : np ≤ 60) (hdp : dp ≤ 12) :
    Ct l yX1_takeBeforePart wsX1_takeBeforePart (rmN 3) D vwCl (tyD k) [.ref (h 2), .int x] (wD h k tx ln rd wh cm (oF, oL, oE, sp, dp, sta, pF, pL, pE) (nm, nx, np, fi, la, em)) (wD h k tx ln rd wh cm ((r_before (oF, oL, oE, sp, dp, sta, pF, pL, pE) (nm, nx, np, fi, la, em) x).1) ((r_before (oF, oL, oE, sp, dp, sta, pF, pL, pE) (nm, nx, np, fi, la, em) x).2.1)) (some (.int ((r_before (oF, oL, oE, sp, dp, sta, pF, pL, pE) (nm, nx, np, fi, la, em) x).2.2))) := by
  refine Ct.of (cc := cX1_takeBeforePart) (maxL := 2) (ret := (some .int)) (lv := [(0, .ref (h 2)), (1, .int x)]) (by decide) rfl (Nat.le_of_ble_eq_true rfl) rfl ?_
  intro p e s m below meth c A ls hx hb hr hml hts hown hlocks hK hP hD hS hA hl
  refine lv_iload_n hx hb dX1_takeBeforePart_0 rfl (lv_at hl 1 rfl) ?_
  refine lv_bipush (v := 32) hx hb dX1_takeBeforePart_1 (by decide) ?_
  refine lv_icmp_ne (tgt := 8) hx hb dX1_takeBeforePart_3 (by decide) (fun c_3 => ?_) (fun c_3 => ?_)
  · have c_3 : ¬ x = 32 := c_3
    refine lv_iload_n hx hb dX1_takeBeforePart_8 rfl (lv_at hl 1 rfl) ?_
    refine lv_bipush (v := 40) hx hb dX1_takeBeforePart_9 (by decide) ?_
    refine lv_icmp_ne (tgt := 19) hx hb dX1_takeBeforePart_11 (by decide) (fun c_11 => ?_) (fun c_11 => ?_)
    · have c_11 : ¬ x = 40 := c_11
      refine lv_iload_n hx hb dX1_takeBeforePart_19 rfl (lv_at hl 1 rfl) ?_
      refine lv_bipush (v := 97) hx hb dX1_takeBeforePart_20 (by decide) ?_
      refine lv_icmp_lt (tgt := 42) hx hb dX1_takeBeforePart_22 (by decide) (fun c_22 => ?_) (fun c_22 => ?_)
      · have c_22 : x < 97 := c_22
        refine lv_iconst (v := 1) hx hb dX1_takeBeforePart_42 (by decide) ?_
        have e_43 : r_before (oF, oL, oE, sp, dp, sta, pF, pL, pE) (nm, nx, np, fi, la, em) x = ((oF, oL, oE, sp, dp, sta, pF, pL, pE), (nm, nx, np, fi, la, em), 1) := by simp [r_before, c_3, c_11, c_22]
        exact ct_endi hx hb hr hlocks rfl hP hD hS (by rw [e_43]) (by rw [e_43]) dX1_takeBeforePart_43
      · have c_22 : ¬ x < 97 := c_22
        refine lv_iload_n hx hb dX1_takeBeforePart_25 rfl (lv_at hl 1 rfl) ?_
        refine lv_bipush (v := 122) hx hb dX1_takeBeforePart_26 (by decide) ?_
        refine lv_icmp_gt (tgt := 42) hx hb dX1_takeBeforePart_28 (by decide) (fun c_28 => ?_) (fun c_28 => ?_)
        · have c_28 : 122 < x := c_28
          refine lv_iconst (v := 1) hx hb dX1_takeBeforePart_42 (by decide) ?_
          have e_43 : r_before (oF, oL, oE, sp, dp, sta, pF, pL, pE) (nm, nx, np, fi, la, em) x = ((oF, oL, oE, sp, dp, sta, pF, pL, pE), (nm, nx, np, fi, la, em), 1) := by simp [r_before, c_3, c_11, c_22, c_28]
          exact ct_endi hx hb hr hlocks rfl hP hD hS (by rw [e_43]) (by rw [e_43]) dX1_takeBeforePart_43
        · have c_28 : ¬ 122 < x := c_28
          refine lv_aload_n hx hb dX1_takeBeforePart_31 rfl (lv_at hl 0 rfl) ?_
          refine lv_iload_n hx hb dX1_takeBeforePart_32 rfl (lv_at hl 1 rfl) ?_
          refine lv_bipush (v := 97) hx hb dX1_takeBeforePart_33 (by decide) ?_
          refine lv_isub hx hb dX1_takeBeforePart_35 ?_
          refine ct_callV (As := [.int (x - 97)]) (rest := []) ⟨hx, hb, hml, hown, hts⟩ (k_R_takeName l D h k tx ln rd wh cm oF oL oE sp dp sta pF pL pE nm nx np fi la em (x - 97) (by omega)) (cwV 1 hts (gV lw_in t_166 t_168 t_3 t_24 t_169) rfl rfl rfl (by decide +kernel) ⟨Nat.le_of_ble_eq_true rfl, Nat.le_of_ble_eq_true rfl⟩) 2 rfl rfl hK hP hD hS hA rfl hl.1 rfl (Nat.le_of_ble_eq_true rfl) dX1_takeBeforePart_36 ⟨Nat.zero_le _, Nat.zero_le _⟩ (fun H locs hP hD hS => ?_)
          refine W.eq (g2 := F0 m 39 ls [.int ((r_name (oF, oL, oE, sp, dp, sta, pF, pL, pE) (nm, nx, np, fi, la, em) (x - 97)).2.2)]) rfl ?_
          have hP : va_P D vwCl (wD h k tx ln rd wh cm (r_name (oF, oL, oE, sp, dp, sta, pF, pL, pE) (nm, nx, np, fi, la, em) (x - 97)).1 (r_name (oF, oL, oE, sp, dp, sta, pF, pL, pE) (nm, nx, np, fi, la, em) (x - 97)).2.1) H := hP
          have hD : va_D A (wD h k tx ln rd wh cm (r_name (oF, oL, oE, sp, dp, sta, pF, pL, pE) (nm, nx, np, fi, la, em) (x - 97)).1 (r_name (oF, oL, oE, sp, dp, sta, pF, pL, pE) (nm, nx, np, fi, la, em) (x - 97)).2.1) := hD
          refine lv_goto (tgt := 43) hx hb dX1_takeBeforePart_39 (by decide) ?_
          have e_43 : r_before (oF, oL, oE, sp, dp, sta, pF, pL, pE) (nm, nx, np, fi, la, em) x = r_name (oF, oL, oE, sp, dp, sta, pF, pL, pE) (nm, nx, np, fi, la, em) (x - 97) := by simp [r_before, c_3, c_11, c_22, c_28]
          exact ct_endi hx hb hr hlocks rfl hP hD hS (by rw [e_43]) (by rw [e_43]) dX1_takeBeforePart_43
    · have c_11 : x = 40 := c_11
      refine lv_aload_n hx hb dX1_takeBeforePart_14 rfl (lv_at hl 0 rfl) ?_
      refine ct_callV (As := []) (rest := []) ⟨hx, hb, hml, hown, hts⟩ (k_R_open l D h k tx ln rd wh cm oF oL oE sp dp sta pF pL pE (nm, nx, np, fi, la, em)  (by omega)) (cwV 0 hts (gV lw_in t_158 t_160 t_1 t_24 t_161) rfl rfl rfl (by decide +kernel) ⟨Nat.le_of_ble_eq_true rfl, Nat.le_of_ble_eq_true rfl⟩) 2 rfl rfl hK hP hD hS hA rfl hl.1 rfl (Nat.le_of_ble_eq_true rfl) dX1_takeBeforePart_15 ⟨Nat.zero_le _, Nat.zero_le _⟩ (fun H locs hP hD hS => ?_)
      refine W.eq (g2 := F0 m 18 ls [.int ((r_open (oF, oL, oE, sp, dp, sta, pF, pL, pE)).2)]) rfl ?_
      have hP : va_P D vwCl (wD h k tx ln rd wh cm (r_open (oF, oL, oE, sp, dp, sta, pF, pL, pE)).1 (nm, nx, np, fi, la, em)) H := hP
      have hD : va_D A (wD h k tx ln rd wh cm (r_open (oF, oL, oE, sp, dp, sta, pF, pL, pE)).1 (nm, nx, np, fi, la, em)) := hD
      have e_18 : r_before (oF, oL, oE, sp, dp, sta, pF, pL, pE) (nm, nx, np, fi, la, em) x = ((r_open (oF, oL, oE, sp, dp, sta, pF, pL, pE)).1, (nm, nx, np, fi, la, em), (r_open (oF, oL, oE, sp, dp, sta, pF, pL, pE)).2) := by simp [r_before, c_3, c_11]
      exact ct_endi hx hb hr hlocks rfl hP hD hS (by rw [e_18]) (by rw [e_18]) dX1_takeBeforePart_18
  · have c_3 : x = 32 := c_3
    refine lv_iconst (v := 0) hx hb dX1_takeBeforePart_6 (by decide) ?_
    have e_7 : r_before (oF, oL, oE, sp, dp, sta, pF, pL, pE) (nm, nx, np, fi, la, em) x = ((oF, oL, oE, sp, dp, sta, pF, pL, pE), (nm, nx, np, fi, la, em), 0) := by simp [r_before, c_3]
    exact ct_endi hx hb hr hlocks rfl hP hD hS (by rw [e_7]) (by rw [e_7]) dX1_takeBeforePart_7

set_option maxHeartbeats 4000000 in
set_option maxRecDepth 100000 in
theorem k_R_take (l : Launch) (D : va_G) (h : Nat → Nat) (k : Nat → ClassId) (tx : Nat → Int32) (ln : Nat) (rd : Int64) (wh : Bool) (cm : Nat) (oF : Nat → Int64) (oL : Nat → Int64) (oE : Nat → Bool) (sp : Nat → Int32) (dp : Nat) (sta : Int32) (pF : Int64) (pL : Int64) (pE : Bool) (nm : Nat → Int32) (nx : Nat → Int64) (np : Nat) (fi : Int64) (la : Int64) (em : Bool) (x : Int32) (hnp : np ≤ 60) (hdp : dp ≤ 12) :
    Ct l yX1_take wsX1_take (rmN 4) D vwCl (tyD k) [.ref (h 2), .int x] (wD h k tx ln rd wh cm (oF, oL, oE, sp, dp, sta, pF, pL, pE) (nm, nx, np, fi, la, em)) (wD h k tx ln rd wh cm ((r_take (oF, oL, oE, sp, dp, sta, pF, pL, pE) (nm, nx, np, fi, la, em) x).1) ((r_take (oF, oL, oE, sp, dp, sta, pF, pL, pE) (nm, nx, np, fi, la, em) x).2.1)) (some (.int ((r_take (oF, oL, oE, sp, dp, sta, pF, pL, pE) (nm, nx, np, fi, la, em) x).2.2))) := by
  refine Ct.of (cc := cX1_take) (maxL := 2) (ret := (some .int)) (lv := [(0, .ref (h 2)), (1, .int x)]) (by decide) rfl (Nat.le_of_ble_eq_true rfl) rfl ?_
  intro p e s m below meth c A ls hx hb hr hml hts hown hlocks hK hP hD hS hA hl
  refine lv_aload_n hx hb dX1_take_0 rfl (lv_at hl 0 rfl) ?_
  refine va_get (D := D) (ci := 1) (v := .int sta) (C := RX1) (T := TX1) (N := 10) hx hb hts (fun w h => lw_in w (inX1 w h)) hown hK hP 2 rfl rfl 6 (by decide) (hts _ (lw_in _ t_86)) (fun _ h9 => h9) rfl dX1_take_1 ?_
  refine lv_if_ne (tgt := 22) hx hb dX1_take_4 (by decide) (fun c_4 => ?_) (fun c_4 => ?_)
  · have c_4 : ¬ sta = 0 := c_4
    refine lv_aload_n hx hb dX1_take_22 rfl (lv_at hl 0 rfl) ?_
    refine va_get (D := D) (ci := 1) (v := .int sta) (C := RX1) (T := TX1) (N := 10) hx hb hts (fun w h => lw_in w (inX1 w h)) hown hK hP 2 rfl rfl 6 (by decide) (hts _ (lw_in _ t_86)) (fun _ h9 => h9) rfl dX1_take_23 ?_
    refine lv_iconst (v := 1) hx hb dX1_take_26 (by decide) ?_
    refine lv_icmp_ne (tgt := 36) hx hb dX1_take_27 (by decide) (fun c_27 => ?_) (fun c_27 => ?_)
    · have c_27 : ¬ sta = 1 := c_27
      refine lv_iload_n hx hb dX1_take_36 rfl (lv_at hl 1 rfl) ?_
      refine ct_callS (As := [.int x]) (rest := []) ⟨hx, hb, hml, hown, hts⟩ (k_R_isSign l D h k tx ln rd wh cm (oF, oL, oE, sp, dp, sta, pF, pL, pE) (nm, nx, np, fi, la, em) x) (cwS 1 hts (gS lw_in t_179 t_180 t_24 t_181) rfl rfl rfl (by decide +kernel) ⟨Nat.le_of_ble_eq_true rfl, Nat.le_of_ble_eq_true rfl⟩) hK hP hD hS hA rfl hl.1 rfl (Nat.le_of_ble_eq_true rfl) dX1_take_37 ⟨Nat.zero_le _, Nat.zero_le _⟩ (fun H locs hP hD hS => ?_)
      refine W.eq (g2 := F0 m 40 ls [.int (bI (r_isSign x))]) rfl ?_
      refine lv_if_eq (tgt := 49) hx hb dX1_take_40 (by decide) (fun c_40 => ?_) (fun c_40 => ?_)
      · have c_40 : (r_isSign x) = false := (bI_eq0 _).mp c_40
        refine lv_aload_n hx hb dX1_take_49 rfl (lv_at hl 0 rfl) ?_
        refine va_get (D := D) (ci := 1) (v := .int (nI dp)) (C := RX1) (T := TX1) (N := 10) hx hb hts (fun w h => lw_in w (inX1 w h)) hown hK hP 2 rfl rfl 5 (by decide) (hts _ (lw_in _ t_85)) (fun _ h9 => h9) rfl dX1_take_50 ?_
        refine lv_if_ne (tgt := 58) hx hb dX1_take_53 (by decide) (fun c_53 => ?_) (fun c_53 => ?_)
        · have c_53 : ¬ dp = 0 := id (fun z => c_53 ((nI_eq (a := dp) (b := 0) (by omega) (by omega)).mpr z))
          obtain ⟨d, rfl⟩ : ∃ d, dp = d + 1 := ⟨dp - 1, by omega⟩
          refine lv_iload_n hx hb dX1_take_58 rfl (lv_at hl 1 rfl) ?_
          refine lv_bipush (v := 32) hx hb dX1_take_59 (by decide) ?_
          refine lv_icmp_ne (tgt := 71) hx hb dX1_take_61 (by decide) (fun c_61 => ?_) (fun c_61 => ?_)
          · have c_61 : ¬ x = 32 := c_61
            refine lv_iload_n hx hb dX1_take_71 rfl (lv_at hl 1 rfl) ?_
            refine lv_bipush (v := 41) hx hb dX1_take_72 (by decide) ?_
            refine lv_icmp_ne (tgt := 82) hx hb dX1_take_74 (by decide) (fun c_74 => ?_) (fun c_74 => ?_)
            · have c_74 : ¬ x = 41 := c_74
              refine lv_iload_n hx hb dX1_take_82 rfl (lv_at hl 1 rfl) ?_
              refine lv_bipush (v := 124) hx hb dX1_take_83 (by decide) ?_
              refine lv_icmp_eq (tgt := 94) hx hb dX1_take_85 (by decide) (fun c_85 => ?_) (fun c_85 => ?_)
              · have c_85 : x = 124 := c_85
                refine lv_aload_n hx hb dX1_take_94 rfl (lv_at hl 0 rfl) ?_
                refine lv_iload_n hx hb dX1_take_95 rfl (lv_at hl 1 rfl) ?_
                refine ct_callV (As := [.int x]) (rest := []) ⟨hx, hb, hml, hown, hts⟩ (k_R_takeSeparator l D h k tx ln rd wh cm oF oL oE sp d sta pF pL pE nm nx np fi la em x (by omega) (by omega)) (cwV 1 hts (gV lw_in t_201 t_203 t_7 t_24 t_204) rfl rfl rfl (by decide +kernel) ⟨Nat.le_of_ble_eq_true rfl, Nat.le_of_ble_eq_true rfl⟩) 2 rfl rfl hK hP hD hS hA rfl hl.1 rfl (Nat.le_of_ble_eq_true rfl) dX1_take_96 ⟨Nat.zero_le _, Nat.zero_le _⟩ (fun H locs hP hD hS => ?_)
                refine W.eq (g2 := F0 m 99 ls [.int ((r_sep (oF, oL, oE, sp, (d + 1), sta, pF, pL, pE) (nm, nx, np, fi, la, em) d x).2.2)]) rfl ?_
                have hP : va_P D vwCl (wD h k tx ln rd wh cm (r_sep (oF, oL, oE, sp, (d + 1), sta, pF, pL, pE) (nm, nx, np, fi, la, em) d x).1 (r_sep (oF, oL, oE, sp, (d + 1), sta, pF, pL, pE) (nm, nx, np, fi, la, em) d x).2.1) H := hP
                have hD : va_D A (wD h k tx ln rd wh cm (r_sep (oF, oL, oE, sp, (d + 1), sta, pF, pL, pE) (nm, nx, np, fi, la, em) d x).1 (r_sep (oF, oL, oE, sp, (d + 1), sta, pF, pL, pE) (nm, nx, np, fi, la, em) d x).2.1) := hD
                refine lv_goto (tgt := 103) hx hb dX1_take_99 (by decide) ?_
                have e_103 : r_take (oF, oL, oE, sp, d + 1, sta, pF, pL, pE) (nm, nx, np, fi, la, em) x = r_sep (oF, oL, oE, sp, (d + 1), sta, pF, pL, pE) (nm, nx, np, fi, la, em) d x := by simp [r_take, r_blank, r_isSign_k, c_4, c_27, c_40, c_53, c_61, c_74, c_85]
                exact ct_endi hx hb hr hlocks rfl hP hD hS (by rw [e_103]) (by rw [e_103]) dX1_take_103
              · have c_85 : ¬ x = 124 := c_85
                refine lv_iload_n hx hb dX1_take_88 rfl (lv_at hl 1 rfl) ?_
                refine lv_bipush (v := 44) hx hb dX1_take_89 (by decide) ?_
                refine lv_icmp_ne (tgt := 102) hx hb dX1_take_91 (by decide) (fun c_91 => ?_) (fun c_91 => ?_)
                · have c_91 : ¬ x = 44 := c_91
                  refine lv_iconst (v := 1) hx hb dX1_take_102 (by decide) ?_
                  have e_103 : r_take (oF, oL, oE, sp, d + 1, sta, pF, pL, pE) (nm, nx, np, fi, la, em) x = ((oF, oL, oE, sp, (d + 1), sta, pF, pL, pE), (nm, nx, np, fi, la, em), 1) := by simp [r_take, r_blank, r_isSign_k, c_4, c_27, c_40, c_53, c_61, c_74, c_85, c_91]
                  exact ct_endi hx hb hr hlocks rfl hP hD hS (by rw [e_103]) (by rw [e_103]) dX1_take_103
                · have c_91 : x = 44 := c_91
                  refine lv_aload_n hx hb dX1_take_94 rfl (lv_at hl 0 rfl) ?_
                  refine lv_iload_n hx hb dX1_take_95 rfl (lv_at hl 1 rfl) ?_
                  refine ct_callV (As := [.int x]) (rest := []) ⟨hx, hb, hml, hown, hts⟩ (k_R_takeSeparator l D h k tx ln rd wh cm oF oL oE sp d sta pF pL pE nm nx np fi la em x (by omega) (by omega)) (cwV 1 hts (gV lw_in t_201 t_203 t_7 t_24 t_204) rfl rfl rfl (by decide +kernel) ⟨Nat.le_of_ble_eq_true rfl, Nat.le_of_ble_eq_true rfl⟩) 2 rfl rfl hK hP hD hS hA rfl hl.1 rfl (Nat.le_of_ble_eq_true rfl) dX1_take_96 ⟨Nat.zero_le _, Nat.zero_le _⟩ (fun H locs hP hD hS => ?_)
                  refine W.eq (g2 := F0 m 99 ls [.int ((r_sep (oF, oL, oE, sp, (d + 1), sta, pF, pL, pE) (nm, nx, np, fi, la, em) d x).2.2)]) rfl ?_
                  have hP : va_P D vwCl (wD h k tx ln rd wh cm (r_sep (oF, oL, oE, sp, (d + 1), sta, pF, pL, pE) (nm, nx, np, fi, la, em) d x).1 (r_sep (oF, oL, oE, sp, (d + 1), sta, pF, pL, pE) (nm, nx, np, fi, la, em) d x).2.1) H := hP
                  have hD : va_D A (wD h k tx ln rd wh cm (r_sep (oF, oL, oE, sp, (d + 1), sta, pF, pL, pE) (nm, nx, np, fi, la, em) d x).1 (r_sep (oF, oL, oE, sp, (d + 1), sta, pF, pL, pE) (nm, nx, np, fi, la, em) d x).2.1) := hD
                  refine lv_goto (tgt := 103) hx hb dX1_take_99 (by decide) ?_
                  have e_103 : r_take (oF, oL, oE, sp, d + 1, sta, pF, pL, pE) (nm, nx, np, fi, la, em) x = r_sep (oF, oL, oE, sp, (d + 1), sta, pF, pL, pE) (nm, nx, np, fi, la, em) d x := by simp [r_take, r_blank, r_isSign_k, c_4, c_27, c_40, c_53, c_61, c_74, c_85, c_91]
                  exact ct_endi hx hb hr hlocks rfl hP hD hS (by rw [e_103]) (by rw [e_103]) dX1_take_103
            · have c_74 : x = 41 := c_74
              refine lv_aload_n hx hb dX1_take_77 rfl (lv_at hl 0 rfl) ?_
              refine ct_callV (As := []) (rest := []) ⟨hx, hb, hml, hown, hts⟩ (k_R_close l D h k tx ln rd wh cm oF oL oE sp d sta pF pL pE nm nx np fi la em  (by omega) (by omega)) (cwV 0 hts (gV lw_in t_193 t_195 t_5 t_24 t_196) rfl rfl rfl (by decide +kernel) ⟨Nat.le_of_ble_eq_true rfl, Nat.le_of_ble_eq_true rfl⟩) 2 rfl rfl hK hP hD hS hA rfl hl.1 rfl (Nat.le_of_ble_eq_true rfl) dX1_take_78 ⟨Nat.zero_le _, Nat.zero_le _⟩ (fun H locs hP hD hS => ?_)
              refine W.eq (g2 := F0 m 81 ls [.int ((r_close (oF, oL, oE, sp, (d + 1), sta, pF, pL, pE) (nm, nx, np, fi, la, em) d).2.2)]) rfl ?_
              have hP : va_P D vwCl (wD h k tx ln rd wh cm (r_close (oF, oL, oE, sp, (d + 1), sta, pF, pL, pE) (nm, nx, np, fi, la, em) d).1 (r_close (oF, oL, oE, sp, (d + 1), sta, pF, pL, pE) (nm, nx, np, fi, la, em) d).2.1) H := hP
              have hD : va_D A (wD h k tx ln rd wh cm (r_close (oF, oL, oE, sp, (d + 1), sta, pF, pL, pE) (nm, nx, np, fi, la, em) d).1 (r_close (oF, oL, oE, sp, (d + 1), sta, pF, pL, pE) (nm, nx, np, fi, la, em) d).2.1) := hD
              have e_81 : r_take (oF, oL, oE, sp, d + 1, sta, pF, pL, pE) (nm, nx, np, fi, la, em) x = r_close (oF, oL, oE, sp, (d + 1), sta, pF, pL, pE) (nm, nx, np, fi, la, em) d := by simp [r_take, r_blank, r_isSign_k, c_4, c_27, c_40, c_53, c_61, c_74]
              exact ct_endi hx hb hr hlocks rfl hP hD hS (by rw [e_81]) (by rw [e_81]) dX1_take_81
          · have c_61 : x = 32 := c_61
            refine lv_aload_n hx hb dX1_take_64 rfl (lv_at hl 0 rfl) ?_
            refine lv_iconst (v := 3) hx hb dX1_take_65 (by decide) ?_
            refine va_put (D := D) (ci := 1) (v := .int 3) (ty := .int) (C := RX1) (T := TX1) (N := 10) hx hb hts (fun w h => lw_in w (inX1 w h)) tyX1 tyX1_ok nmX1 hown hK hP hD hS 2 rfl rfl 6 (by decide) (hts _ (lw_in _ t_86)) (fun _ h9 => h9) rfl (by decide +kernel) rfl rfl (Nat.le_of_ble_eq_true rfl) dX1_take_66 (fun H locs hP hD hS => ?_)
            have hP : va_P D vwCl (wD h k tx ln rd wh cm (oF, oL, oE, sp, (d + 1), 3, pF, pL, pE) (nm, nx, np, fi, la, em)) H := hP
            have hD : va_D A (wD h k tx ln rd wh cm (oF, oL, oE, sp, (d + 1), 3, pF, pL, pE) (nm, nx, np, fi, la, em)) := hD
            refine lv_iconst (v := 0) hx hb dX1_take_69 (by decide) ?_
            have e_70 : r_take (oF, oL, oE, sp, d + 1, sta, pF, pL, pE) (nm, nx, np, fi, la, em) x = ((oF, oL, oE, sp, (d + 1), 3, pF, pL, pE), (nm, nx, np, fi, la, em), 0) := by simp [r_take, r_blank, r_isSign_k, c_4, c_27, c_40, c_53, c_61]
            exact ct_endi hx hb hr hlocks rfl hP hD hS (by rw [e_70]) (by rw [e_70]) dX1_take_70
        · have c_53 : dp = 0 := (nI_eq (a := dp) (b := 0) (by omega) (by omega)).mp c_53
          refine lv_iconst (v := 1) hx hb dX1_take_56 (by decide) ?_
          have e_57 : r_take (oF, oL, oE, sp, dp, sta, pF, pL, pE) (nm, nx, np, fi, la, em) x = ((oF, oL, oE, sp, dp, sta, pF, pL, pE), (nm, nx, np, fi, la, em), 1) := by simp [r_take, r_blank, r_isSign_k, c_4, c_27, c_40, c_53]
          exact ct_endi hx hb hr hlocks rfl hP hD hS (by rw [e_57]) (by rw [e_57]) dX1_take_57
      · have c_40 : (r_isSign x) = true := (bI_ne0 _).mp c_40
        refine lv_aload_n hx hb dX1_take_43 rfl (lv_at hl 0 rfl) ?_
        refine lv_iload_n hx hb dX1_take_44 rfl (lv_at hl 1 rfl) ?_
        refine ct_callV (As := [.int x]) (rest := []) ⟨hx, hb, hml, hown, hts⟩ (k_R_takeSign l D h k tx ln rd wh cm oF oL oE sp dp sta pF pL pE nm nx np fi la em x (by omega)) (cwV 1 hts (gV lw_in t_182 t_184 t_4 t_24 t_185) rfl rfl rfl (by decide +kernel) ⟨Nat.le_of_ble_eq_true rfl, Nat.le_of_ble_eq_true rfl⟩) 2 rfl rfl hK hP hD hS hA rfl hl.1 rfl (Nat.le_of_ble_eq_true rfl) dX1_take_45 ⟨Nat.zero_le _, Nat.zero_le _⟩ (fun H locs hP hD hS => ?_)
        refine W.eq (g2 := F0 m 48 ls [.int ((r_sign (oF, oL, oE, sp, dp, sta, pF, pL, pE) (nm, nx, np, fi, la, em) x).2.2)]) rfl ?_
        have hP : va_P D vwCl (wD h k tx ln rd wh cm (r_sign (oF, oL, oE, sp, dp, sta, pF, pL, pE) (nm, nx, np, fi, la, em) x).1 (r_sign (oF, oL, oE, sp, dp, sta, pF, pL, pE) (nm, nx, np, fi, la, em) x).2.1) H := hP
        have hD : va_D A (wD h k tx ln rd wh cm (r_sign (oF, oL, oE, sp, dp, sta, pF, pL, pE) (nm, nx, np, fi, la, em) x).1 (r_sign (oF, oL, oE, sp, dp, sta, pF, pL, pE) (nm, nx, np, fi, la, em) x).2.1) := hD
        have e_48 : r_take (oF, oL, oE, sp, dp, sta, pF, pL, pE) (nm, nx, np, fi, la, em) x = r_sign (oF, oL, oE, sp, dp, sta, pF, pL, pE) (nm, nx, np, fi, la, em) x := by simp [r_take, r_blank, r_isSign_k, c_4, c_27, c_40]
        exact ct_endi hx hb hr hlocks rfl hP hD hS (by rw [e_48]) (by rw [e_48]) dX1_take_48
    · have c_27 : sta = 1 := c_27
      refine lv_aload_n hx hb dX1_take_30 rfl (lv_at hl 0 rfl) ?_
      refine lv_iload_n hx hb dX1_take_31 rfl (lv_at hl 1 rfl) ?_
      refine ct_callV (As := [.int x]) (rest := []) ⟨hx, hb, hml, hown, hts⟩ (k_R_takeBeforePart l D h k tx ln rd wh cm oF oL oE sp dp sta pF pL pE nm nx np fi la em x (by omega) (by omega)) (cwV 1 hts (gV lw_in t_162 t_164 t_2 t_24 t_165) rfl rfl rfl (by decide +kernel) ⟨Nat.le_of_ble_eq_true rfl, Nat.le_of_ble_eq_true rfl⟩) 2 rfl rfl hK hP hD hS hA rfl hl.1 rfl (Nat.le_of_ble_eq_true rfl) dX1_take_32 ⟨Nat.zero_le _, Nat.zero_le _⟩ (fun H locs hP hD hS => ?_)
      refine W.eq (g2 := F0 m 35 ls [.int ((r_before (oF, oL, oE, sp, dp, sta, pF, pL, pE) (nm, nx, np, fi, la, em) x).2.2)]) rfl ?_
      have hP : va_P D vwCl (wD h k tx ln rd wh cm (r_before (oF, oL, oE, sp, dp, sta, pF, pL, pE) (nm, nx, np, fi, la, em) x).1 (r_before (oF, oL, oE, sp, dp, sta, pF, pL, pE) (nm, nx, np, fi, la, em) x).2.1) H := hP
      have hD : va_D A (wD h k tx ln rd wh cm (r_before (oF, oL, oE, sp, dp, sta, pF, pL, pE) (nm, nx, np, fi, la, em) x).1 (r_before (oF, oL, oE, sp, dp, sta, pF, pL, pE) (nm, nx, np, fi, la, em) x).2.1) := hD
      have e_35 : r_take (oF, oL, oE, sp, dp, sta, pF, pL, pE) (nm, nx, np, fi, la, em) x = r_before (oF, oL, oE, sp, dp, sta, pF, pL, pE) (nm, nx, np, fi, la, em) x := by simp [r_take, r_blank, r_isSign_k, c_4, c_27]
      exact ct_endi hx hb hr hlocks rfl hP hD hS (by rw [e_35]) (by rw [e_35]) dX1_take_35
  · have c_4 : sta = 0 := c_4
    refine lv_iload_n hx hb dX1_take_7 rfl (lv_at hl 1 rfl) ?_
    refine lv_bipush (v := 40) hx hb dX1_take_8 (by decide) ?_
    refine lv_icmp_ne (tgt := 20) hx hb dX1_take_10 (by decide) (fun c_10 => ?_) (fun c_10 => ?_)
    · have c_10 : ¬ x = 40 := c_10
      refine lv_iconst (v := 1) hx hb dX1_take_20 (by decide) ?_
      have e_21 : r_take (oF, oL, oE, sp, dp, sta, pF, pL, pE) (nm, nx, np, fi, la, em) x = ((oF, oL, oE, sp, dp, sta, pF, pL, pE), (nm, nx, np, fi, la, em), 1) := by simp [r_take, r_blank, r_isSign_k, c_4, c_10]
      exact ct_endi hx hb hr hlocks rfl hP hD hS (by rw [e_21]) (by rw [e_21]) dX1_take_21
    · have c_10 : x = 40 := c_10
      refine lv_aload_n hx hb dX1_take_13 rfl (lv_at hl 0 rfl) ?_
      refine ct_callV (As := []) (rest := []) ⟨hx, hb, hml, hown, hts⟩ (k_R_open l D h k tx ln rd wh cm oF oL oE sp dp sta pF pL pE (nm, nx, np, fi, la, em)  (by omega)) (cwV 0 hts (gV lw_in t_158 t_160 t_1 t_24 t_161) rfl rfl rfl (by decide +kernel) ⟨Nat.le_of_ble_eq_true rfl, Nat.le_of_ble_eq_true rfl⟩) 2 rfl rfl hK hP hD hS hA rfl hl.1 rfl (Nat.le_of_ble_eq_true rfl) dX1_take_14 ⟨Nat.zero_le _, Nat.zero_le _⟩ (fun H locs hP hD hS => ?_)
      refine W.eq (g2 := F0 m 17 ls [.int ((r_open (oF, oL, oE, sp, dp, sta, pF, pL, pE)).2)]) rfl ?_
      have hP : va_P D vwCl (wD h k tx ln rd wh cm (r_open (oF, oL, oE, sp, dp, sta, pF, pL, pE)).1 (nm, nx, np, fi, la, em)) H := hP
      have hD : va_D A (wD h k tx ln rd wh cm (r_open (oF, oL, oE, sp, dp, sta, pF, pL, pE)).1 (nm, nx, np, fi, la, em)) := hD
      refine lv_goto (tgt := 21) hx hb dX1_take_17 (by decide) ?_
      have e_21 : r_take (oF, oL, oE, sp, dp, sta, pF, pL, pE) (nm, nx, np, fi, la, em) x = ((r_open (oF, oL, oE, sp, dp, sta, pF, pL, pE)).1, (nm, nx, np, fi, la, em), (r_open (oF, oL, oE, sp, dp, sta, pF, pL, pE)).2) := by simp [r_take, r_blank, r_isSign_k, c_4, c_10]
      exact ct_endi hx hb hr hlocks rfl hP hD hS (by rw [e_21]) (by rw [e_21]) dX1_take_21

set_option maxHeartbeats 4000000 in
set_option maxRecDepth 100000 in
theorem k_R_finish (l : Launch) (D : va_G) (h : Nat → Nat) (k : Nat → ClassId) (tx : Nat → Int32) (ln : Nat) (rd : Int64) (wh : Bool) (cm : Nat) (oF : Nat → Int64) (oL : Nat → Int64) (oE : Nat → Bool) (sp : Nat → Int32) (dp : Nat) (sta : Int32) (pF : Int64) (pL : Int64) (pE : Bool) (nm : Nat → Int32) (nx : Nat → Int64) (np : Nat) (fi : Int64) (la : Int64) (em : Bool)  (hdp : dp ≤ 12) :
    Ct l yX1_finish wsX1_finish (rmN 0) D vwCl (tyD k) [.ref (h 2)] (wD h k tx ln rd wh cm (oF, oL, oE, sp, dp, sta, pF, pL, pE) (nm, nx, np, fi, la, em)) (wD h k tx ln rd wh cm (oF, oL, oE, sp, dp, sta, pF, pL, pE) ((r_fin (oF, oL, oE, sp, dp, sta, pF, pL, pE) (nm, nx, np, fi, la, em)).1)) (some (.int (bI (r_fin (oF, oL, oE, sp, dp, sta, pF, pL, pE) (nm, nx, np, fi, la, em)).2))) := by
  refine Ct.of (cc := cX1_finish) (maxL := 1) (ret := (some .boolean)) (lv := [(0, .ref (h 2))]) (by decide) rfl (Nat.le_of_ble_eq_true rfl) rfl ?_
  intro p e s m below meth c A ls hx hb hr hml hts hown hlocks hK hP hD hS hA hl
  refine lv_aload_n hx hb dX1_finish_0 rfl (lv_at hl 0 rfl) ?_
  refine va_get (D := D) (ci := 1) (v := .int (nI dp)) (C := RX1) (T := TX1) (N := 10) hx hb hts (fun w h => lw_in w (inX1 w h)) hown hK hP 2 rfl rfl 5 (by decide) (hts _ (lw_in _ t_85)) (fun _ h9 => h9) rfl dX1_finish_1 ?_
  refine lv_if_gt (tgt := 14) hx hb dX1_finish_4 (by decide) (fun c_4 => ?_) (fun c_4 => ?_)
  · have c_4 : 0 < dp := (nI_ltI (a := 0) (b := dp) (by omega) (by omega)).mp c_4
    refine lv_iconst (v := 0) hx hb dX1_finish_14 (by decide) ?_
    have e_15 : r_fin (oF, oL, oE, sp, dp, sta, pF, pL, pE) (nm, nx, np, fi, la, em) = ((nm, nx, np, fi, la, em), false) := by simp [r_fin, c_4, Nat.not_le.mpr c_4]
    exact ct_endi hx hb hr hlocks rfl hP hD hS (by rw [e_15]) (by rw [e_15]; rfl) dX1_finish_15
  · have c_4 : dp ≤ 0 := Nat.le_of_not_lt (fun z => c_4 ((nI_ltI (a := 0) (b := dp) (by omega) (by omega)).mpr z))
    refine lv_aload_n hx hb dX1_finish_7 rfl (lv_at hl 0 rfl) ?_
    refine va_get (D := D) (ci := 1) (v := .int sta) (C := RX1) (T := TX1) (N := 10) hx hb hts (fun w h => lw_in w (inX1 w h)) hown hK hP 2 rfl rfl 6 (by decide) (hts _ (lw_in _ t_86)) (fun _ h9 => h9) rfl dX1_finish_8 ?_
    refine lv_if_ne (tgt := 16) hx hb dX1_finish_11 (by decide) (fun c_11 => ?_) (fun c_11 => ?_)
    · have c_11 : ¬ sta = 0 := c_11
      refine lv_aload_n hx hb dX1_finish_16 rfl (lv_at hl 0 rfl) ?_
      refine va_get (D := D) (ci := 1) (v := .ref (h 7)) (C := RX1) (T := TX1) (N := 10) hx hb hts (fun w h => lw_in w (inX1 w h)) hown hK hP 2 rfl rfl 0 (by decide) (hts _ (lw_in _ t_79)) (fun _ h9 => h9) rfl dX1_finish_17 ?_
      refine lv_aload_n hx hb dX1_finish_20 rfl (lv_at hl 0 rfl) ?_
      refine va_get (D := D) (ci := 1) (v := .long pF) (C := RX1) (T := TX1) (N := 10) hx hb hts (fun w h => lw_in w (inX1 w h)) hown hK hP 2 rfl rfl 7 (by decide) (hts _ (lw_in _ t_87)) (fun _ h9 => h9) rfl dX1_finish_21 ?_
      refine va_put (D := D) (ci := 0) (v := .long pF) (ty := .long) (C := RX0) (T := TX0) (N := 6) hx hb hts (fun w h => lw_in w (inX0 w h)) tyX0 tyX0_ok nmX0 hown hK hP hD hS 7 rfl rfl 3 (by decide) (hts _ (lw_in _ t_55)) (fun _ h9 => h9) rfl (by decide +kernel) rfl rfl (Nat.le_of_ble_eq_true rfl) dX1_finish_24 (fun H locs hP hD hS => ?_)
      have hP : va_P D vwCl (wD h k tx ln rd wh cm (oF, oL, oE, sp, dp, sta, pF, pL, pE) (nm, nx, np, pF, la, em)) H := hP
      have hD : va_D A (wD h k tx ln rd wh cm (oF, oL, oE, sp, dp, sta, pF, pL, pE) (nm, nx, np, pF, la, em)) := hD
      refine lv_aload_n hx hb dX1_finish_27 rfl (lv_at hl 0 rfl) ?_
      refine va_get (D := D) (ci := 1) (v := .ref (h 7)) (C := RX1) (T := TX1) (N := 10) hx hb hts (fun w h => lw_in w (inX1 w h)) hown hK hP 2 rfl rfl 0 (by decide) (hts _ (lw_in _ t_79)) (fun _ h9 => h9) rfl dX1_finish_28 ?_
      refine lv_aload_n hx hb dX1_finish_31 rfl (lv_at hl 0 rfl) ?_
      refine va_get (D := D) (ci := 1) (v := .long pL) (C := RX1) (T := TX1) (N := 10) hx hb hts (fun w h => lw_in w (inX1 w h)) hown hK hP 2 rfl rfl 8 (by decide) (hts _ (lw_in _ t_88)) (fun _ h9 => h9) rfl dX1_finish_32 ?_
      refine va_put (D := D) (ci := 0) (v := .long pL) (ty := .long) (C := RX0) (T := TX0) (N := 6) hx hb hts (fun w h => lw_in w (inX0 w h)) tyX0 tyX0_ok nmX0 hown hK hP hD hS 7 rfl rfl 4 (by decide) (hts _ (lw_in _ t_58)) (fun _ h9 => h9) rfl (by decide +kernel) rfl rfl (Nat.le_of_ble_eq_true rfl) dX1_finish_35 (fun H locs hP hD hS => ?_)
      have hP : va_P D vwCl (wD h k tx ln rd wh cm (oF, oL, oE, sp, dp, sta, pF, pL, pE) (nm, nx, np, pF, pL, em)) H := hP
      have hD : va_D A (wD h k tx ln rd wh cm (oF, oL, oE, sp, dp, sta, pF, pL, pE) (nm, nx, np, pF, pL, em)) := hD
      refine lv_aload_n hx hb dX1_finish_38 rfl (lv_at hl 0 rfl) ?_
      refine va_get (D := D) (ci := 1) (v := .ref (h 7)) (C := RX1) (T := TX1) (N := 10) hx hb hts (fun w h => lw_in w (inX1 w h)) hown hK hP 2 rfl rfl 0 (by decide) (hts _ (lw_in _ t_79)) (fun _ h9 => h9) rfl dX1_finish_39 ?_
      refine lv_aload_n hx hb dX1_finish_42 rfl (lv_at hl 0 rfl) ?_
      refine va_get (D := D) (ci := 1) (v := .int (bI pE)) (C := RX1) (T := TX1) (N := 10) hx hb hts (fun w h => lw_in w (inX1 w h)) hown hK hP 2 rfl rfl 9 (by decide) (hts _ (lw_in _ t_89)) (fun _ h9 => h9) rfl dX1_finish_43 ?_
      refine va_put (D := D) (ci := 0) (v := .int (bI pE)) (ty := .boolean) (C := RX0) (T := TX0) (N := 6) hx hb hts (fun w h => lw_in w (inX0 w h)) tyX0 tyX0_ok nmX0 hown hK hP hD hS 7 rfl rfl 5 (by decide) (hts _ (lw_in _ t_61)) (fun _ h9 => h9) rfl (by decide +kernel) (bI_narrow _) (bI_fits _) (Nat.le_of_ble_eq_true rfl) dX1_finish_46 (fun H locs hP hD hS => ?_)
      have hP : va_P D vwCl (wD h k tx ln rd wh cm (oF, oL, oE, sp, dp, sta, pF, pL, pE) (nm, nx, np, pF, pL, pE)) H := hP
      have hD : va_D A (wD h k tx ln rd wh cm (oF, oL, oE, sp, dp, sta, pF, pL, pE) (nm, nx, np, pF, pL, pE)) := hD
      refine lv_iconst (v := 1) hx hb dX1_finish_49 (by decide) ?_
      have e_50 : r_fin (oF, oL, oE, sp, dp, sta, pF, pL, pE) (nm, nx, np, fi, la, em) = ((nm, nx, np, pF, pL, pE), true) := by simp [r_fin, c_4, Nat.not_lt.mpr c_4, c_11]
      exact ct_endi hx hb hr hlocks rfl hP hD hS (by rw [e_50]) (by rw [e_50]; rfl) dX1_finish_50
    · have c_11 : sta = 0 := c_11
      refine lv_iconst (v := 0) hx hb dX1_finish_14 (by decide) ?_
      have e_15 : r_fin (oF, oL, oE, sp, dp, sta, pF, pL, pE) (nm, nx, np, fi, la, em) = ((nm, nx, np, fi, la, em), false) := by simp [r_fin, c_4, Nat.not_lt.mpr c_4, c_11]
      exact ct_endi hx hb hr hlocks rfl hP hD hS (by rw [e_15]) (by rw [e_15]; rfl) dX1_finish_15

theorem k_R_begin_o (l : Launch) (D : va_G) (h : Nat → Nat) (k : Nat → ClassId) (tx : Nat → Int32) (ln : Nat) (rd : Int64) (wh : Bool) (cm : Nat) (R : RS) (M : MS)  (hnp : M.2.2.1 ≤ 60) :
    Ct l yX1_begin wsX1_begin (rmN 1) D vwCl (tyD k) [.ref (h 2)] (wD h k tx ln rd wh cm R M) (wD h k tx ln rd wh cm (r_begin R) (m_clear M)) none := by
  obtain ⟨oF, oL, oE, sp, dp, sta, pF, pL, pE⟩ := R
  obtain ⟨nm, nx, np, fi, la, em⟩ := M
  exact k_R_begin l D h k tx ln rd wh cm oF oL oE sp dp sta pF pL pE nm nx np fi la em  hnp

theorem k_R_take_o (l : Launch) (D : va_G) (h : Nat → Nat) (k : Nat → ClassId) (tx : Nat → Int32) (ln : Nat) (rd : Int64) (wh : Bool) (cm : Nat) (R : RS) (M : MS) (x : Int32) (hnp : M.2.2.1 ≤ 60) (hdp : R.2.2.2.2.1 ≤ 12) :
    Ct l yX1_take wsX1_take (rmN 4) D vwCl (tyD k) [.ref (h 2), .int x] (wD h k tx ln rd wh cm R M) (wD h k tx ln rd wh cm ((r_take R M x).1) ((r_take R M x).2.1)) (some (.int ((r_take R M x).2.2))) := by
  obtain ⟨oF, oL, oE, sp, dp, sta, pF, pL, pE⟩ := R
  obtain ⟨nm, nx, np, fi, la, em⟩ := M
  exact k_R_take l D h k tx ln rd wh cm oF oL oE sp dp sta pF pL pE nm nx np fi la em x hnp hdp

theorem k_R_finish_o (l : Launch) (D : va_G) (h : Nat → Nat) (k : Nat → ClassId) (tx : Nat → Int32) (ln : Nat) (rd : Int64) (wh : Bool) (cm : Nat) (R : RS) (M : MS)  (hdp : R.2.2.2.2.1 ≤ 12) :
    Ct l yX1_finish wsX1_finish (rmN 0) D vwCl (tyD k) [.ref (h 2)] (wD h k tx ln rd wh cm R M) (wD h k tx ln rd wh cm R ((r_fin R M).1)) (some (.int (bI (r_fin R M).2))) := by
  obtain ⟨oF, oL, oE, sp, dp, sta, pF, pL, pE⟩ := R
  obtain ⟨nm, nx, np, fi, la, em⟩ := M
  exact k_R_finish l D h k tx ln rd wh cm oF oL oE sp dp sta pF pL pE nm nx np fi la em  hdp
end
section
/-! The methods of the class: desk (laid by program) -/
set_option maxHeartbeats 4000000 in
set_option maxRecDepth 100000 in
theorem k_D_startRow (l : Launch) (D : va_G) (h : Nat → Nat) (k : Nat → ClassId) (tx : Nat → Int32) (ln : Nat) (rd : Int64) (wh : Bool) (cm : Nat) (R : RS) (nm : Nat → Int32) (nx : Nat → Int64) (np : Nat) (fi : Int64) (la : Int64) (em : Bool)   :
    Ct l yX2_startRow wsX2_startRow (rmN 0) D vwCl (tyD k) [.ref (h 0)] (wD h k tx ln rd wh cm R (nm, nx, np, fi, la, em)) (wD h k tx ln fi em 0 R (nm, nx, np, fi, la, em)) none := by
  refine Ct.of (cc := cX2_startRow) (maxL := 1) (ret := none) (lv := [(0, .ref (h 0))]) (by decide) rfl (Nat.le_of_ble_eq_true rfl) rfl ?_
  intro p e s m below meth c A ls hx hb hr hml hts hown hlocks hK hP hD hS hA hl
  refine lv_aload_n hx hb dX2_startRow_0 rfl (lv_at hl 0 rfl) ?_
  refine lv_aload_n hx hb dX2_startRow_1 rfl (lv_at hl 0 rfl) ?_
  refine va_get (D := D) (ci := 2) (v := .ref (h 7)) (C := RX2) (T := TX2) (N := 7) hx hb hts (fun w h => lw_in w (inX2 w h)) hown hK hP 0 rfl rfl 3 (by decide) (hts _ (lw_in _ t_115)) (fun _ h9 => h9) rfl dX2_startRow_2 ?_
  refine va_get (D := D) (ci := 0) (v := .long fi) (C := RX0) (T := TX0) (N := 6) hx hb hts (fun w h => lw_in w (inX0 w h)) hown hK hP 7 rfl rfl 3 (by decide) (hts _ (lw_in _ t_56)) (fun _ h9 => h9) rfl dX2_startRow_5 ?_
  refine va_put (D := D) (ci := 2) (v := .long fi) (ty := .long) (C := RX2) (T := TX2) (N := 7) hx hb hts (fun w h => lw_in w (inX2 w h)) tyX2 tyX2_ok nmX2 hown hK hP hD hS 0 rfl rfl 4 (by decide) (hts _ (lw_in _ t_116)) (fun _ h9 => h9) rfl (by decide +kernel) rfl rfl (Nat.le_of_ble_eq_true rfl) dX2_startRow_8 (fun H locs hP hD hS => ?_)
  have hP : va_P D vwCl (wD h k tx ln fi wh cm R (nm, nx, np, fi, la, em)) H := hP
  have hD : va_D A (wD h k tx ln fi wh cm R (nm, nx, np, fi, la, em)) := hD
  refine lv_aload_n hx hb dX2_startRow_11 rfl (lv_at hl 0 rfl) ?_
  refine lv_aload_n hx hb dX2_startRow_12 rfl (lv_at hl 0 rfl) ?_
  refine va_get (D := D) (ci := 2) (v := .ref (h 7)) (C := RX2) (T := TX2) (N := 7) hx hb hts (fun w h => lw_in w (inX2 w h)) hown hK hP 0 rfl rfl 3 (by decide) (hts _ (lw_in _ t_115)) (fun _ h9 => h9) rfl dX2_startRow_13 ?_
  refine va_get (D := D) (ci := 0) (v := .int (bI em)) (C := RX0) (T := TX0) (N := 6) hx hb hts (fun w h => lw_in w (inX0 w h)) hown hK hP 7 rfl rfl 5 (by decide) (hts _ (lw_in _ t_62)) (fun _ h9 => h9) rfl dX2_startRow_16 ?_
  refine va_put (D := D) (ci := 2) (v := .int (bI em)) (ty := .boolean) (C := RX2) (T := TX2) (N := 7) hx hb hts (fun w h => lw_in w (inX2 w h)) tyX2 tyX2_ok nmX2 hown hK hP hD hS 0 rfl rfl 5 (by decide) (hts _ (lw_in _ t_117)) (fun _ h9 => h9) rfl (by decide +kernel) (bI_narrow _) (bI_fits _) (Nat.le_of_ble_eq_true rfl) dX2_startRow_19 (fun H locs hP hD hS => ?_)
  have hP : va_P D vwCl (wD h k tx ln fi em cm R (nm, nx, np, fi, la, em)) H := hP
  have hD : va_D A (wD h k tx ln fi em cm R (nm, nx, np, fi, la, em)) := hD
  refine lv_aload_n hx hb dX2_startRow_22 rfl (lv_at hl 0 rfl) ?_
  refine lv_iconst (v := 0) hx hb dX2_startRow_23 (by decide) ?_
  refine lv_eqi (show 0 = nI 0 from rfl) ?_
  refine va_put (D := D) (ci := 2) (v := .int (nI 0)) (ty := .int) (C := RX2) (T := TX2) (N := 7) hx hb hts (fun w h => lw_in w (inX2 w h)) tyX2 tyX2_ok nmX2 hown hK hP hD hS 0 rfl rfl 6 (by decide) (hts _ (lw_in _ t_118)) (fun _ h9 => h9) rfl (by decide +kernel) rfl rfl (Nat.le_of_ble_eq_true rfl) dX2_startRow_24 (fun H locs hP hD hS => ?_)
  have hP : va_P D vwCl (wD h k tx ln fi em 0 R (nm, nx, np, fi, la, em)) H := hP
  have hD : va_D A (wD h k tx ln fi em 0 R (nm, nx, np, fi, la, em)) := hD
  exact ct_endv hx hb hr hlocks hP hD hS rfl rfl dX2_startRow_27

theorem k_D_startRow_o (l : Launch) (D : va_G) (h : Nat → Nat) (k : Nat → ClassId) (tx : Nat → Int32) (ln : Nat) (rd : Int64) (wh : Bool) (cm : Nat) (R : RS) (M : MS) :
    Ct l yX2_startRow wsX2_startRow (rmN 0) D vwCl (tyD k) [.ref (h 0)] (wD h k tx ln rd wh cm R M) (wD h k tx ln M.2.2.2.1 M.2.2.2.2.2 0 R M) none := by
  obtain ⟨nm, nx, np, fi, la, em⟩ := M
  exact k_D_startRow l D h k tx ln rd wh cm R nm nx np fi la em

set_option maxHeartbeats 4000000 in
set_option maxRecDepth 100000 in
theorem k_D_isEmpty (l : Launch) (D : va_G) (h : Nat → Nat) (k : Nat → ClassId) (tx : Nat → Int32) (ln : Nat) (rd : Int64) (wh : Bool) (cm : Nat) (R : RS) (nm : Nat → Int32) (nx : Nat → Int64) (np : Nat) (fi : Int64) (la : Int64) (em : Bool)   :
    Ct l yX2_isEmpty wsX2_isEmpty (rmN 0) D vwCl (tyD k) [.ref (h 0)] (wD h k tx ln rd wh cm R (nm, nx, np, fi, la, em)) (wD h k tx ln rd wh cm R (nm, nx, np, fi, la, em)) (some (.int (bI em))) := by
  refine Ct.of (cc := cX2_isEmpty) (maxL := 1) (ret := (some .boolean)) (lv := [(0, .ref (h 0))]) (by decide) rfl (Nat.le_of_ble_eq_true rfl) rfl ?_
  intro p e s m below meth c A ls hx hb hr hml hts hown hlocks hK hP hD hS hA hl
  refine lv_aload_n hx hb dX2_isEmpty_0 rfl (lv_at hl 0 rfl) ?_
  refine va_get (D := D) (ci := 2) (v := .ref (h 7)) (C := RX2) (T := TX2) (N := 7) hx hb hts (fun w h => lw_in w (inX2 w h)) hown hK hP 0 rfl rfl 3 (by decide) (hts _ (lw_in _ t_115)) (fun _ h9 => h9) rfl dX2_isEmpty_1 ?_
  refine va_get (D := D) (ci := 0) (v := .int (bI em)) (C := RX0) (T := TX0) (N := 6) hx hb hts (fun w h => lw_in w (inX0 w h)) hown hK hP 7 rfl rfl 5 (by decide) (hts _ (lw_in _ t_62)) (fun _ h9 => h9) rfl dX2_isEmpty_4 ?_
  exact ct_endi hx hb hr hlocks (bI_narrow _) hP hD hS rfl rfl dX2_isEmpty_7

set_option maxHeartbeats 4000000 in
set_option maxRecDepth 100000 in
theorem k_D_first (l : Launch) (D : va_G) (h : Nat → Nat) (k : Nat → ClassId) (tx : Nat → Int32) (ln : Nat) (rd : Int64) (wh : Bool) (cm : Nat) (R : RS) (nm : Nat → Int32) (nx : Nat → Int64) (np : Nat) (fi : Int64) (la : Int64) (em : Bool)   :
    Ct l yX2_first wsX2_first (rmN 0) D vwCl (tyD k) [.ref (h 0)] (wD h k tx ln rd wh cm R (nm, nx, np, fi, la, em)) (wD h k tx ln rd wh cm R (nm, nx, np, fi, la, em)) (some (.long fi)) := by
  refine Ct.of (cc := cX2_first) (maxL := 1) (ret := (some .long)) (lv := [(0, .ref (h 0))]) (by decide) rfl (Nat.le_of_ble_eq_true rfl) rfl ?_
  intro p e s m below meth c A ls hx hb hr hml hts hown hlocks hK hP hD hS hA hl
  refine lv_aload_n hx hb dX2_first_0 rfl (lv_at hl 0 rfl) ?_
  refine va_get (D := D) (ci := 2) (v := .ref (h 7)) (C := RX2) (T := TX2) (N := 7) hx hb hts (fun w h => lw_in w (inX2 w h)) hown hK hP 0 rfl rfl 3 (by decide) (hts _ (lw_in _ t_115)) (fun _ h9 => h9) rfl dX2_first_1 ?_
  refine va_get (D := D) (ci := 0) (v := .long fi) (C := RX0) (T := TX0) (N := 6) hx hb hts (fun w h => lw_in w (inX0 w h)) hown hK hP 7 rfl rfl 3 (by decide) (hts _ (lw_in _ t_56)) (fun _ h9 => h9) rfl dX2_first_4 ?_
  exact ct_endl hx hb hr hlocks hP hD hS rfl rfl dX2_first_7

set_option maxHeartbeats 4000000 in
set_option maxRecDepth 100000 in
theorem k_D_last (l : Launch) (D : va_G) (h : Nat → Nat) (k : Nat → ClassId) (tx : Nat → Int32) (ln : Nat) (rd : Int64) (wh : Bool) (cm : Nat) (R : RS) (nm : Nat → Int32) (nx : Nat → Int64) (np : Nat) (fi : Int64) (la : Int64) (em : Bool)   :
    Ct l yX2_last wsX2_last (rmN 0) D vwCl (tyD k) [.ref (h 0)] (wD h k tx ln rd wh cm R (nm, nx, np, fi, la, em)) (wD h k tx ln rd wh cm R (nm, nx, np, fi, la, em)) (some (.long la)) := by
  refine Ct.of (cc := cX2_last) (maxL := 1) (ret := (some .long)) (lv := [(0, .ref (h 0))]) (by decide) rfl (Nat.le_of_ble_eq_true rfl) rfl ?_
  intro p e s m below meth c A ls hx hb hr hml hts hown hlocks hK hP hD hS hA hl
  refine lv_aload_n hx hb dX2_last_0 rfl (lv_at hl 0 rfl) ?_
  refine va_get (D := D) (ci := 2) (v := .ref (h 7)) (C := RX2) (T := TX2) (N := 7) hx hb hts (fun w h => lw_in w (inX2 w h)) hown hK hP 0 rfl rfl 3 (by decide) (hts _ (lw_in _ t_115)) (fun _ h9 => h9) rfl dX2_last_1 ?_
  refine va_get (D := D) (ci := 0) (v := .long la) (C := RX0) (T := TX0) (N := 6) hx hb hts (fun w h => lw_in w (inX0 w h)) hown hK hP 7 rfl rfl 4 (by decide) (hts _ (lw_in _ t_59)) (fun _ h9 => h9) rfl dX2_last_4 ?_
  exact ct_endl hx hb hr hlocks hP hD hS rfl rfl dX2_last_7

set_option maxHeartbeats 4000000 in
set_option maxRecDepth 100000 in
theorem k_D_isWhole (l : Launch) (D : va_G) (h : Nat → Nat) (k : Nat → ClassId) (tx : Nat → Int32) (ln : Nat) (rd : Int64) (wh : Bool) (cm : Nat) (R : RS) (M : MS)   :
    Ct l yX2_isWhole wsX2_isWhole (rmN 0) D vwCl (tyD k) [.ref (h 0)] (wD h k tx ln rd wh cm R M) (wD h k tx ln rd wh cm R M) (some (.int (bI wh))) := by
  refine Ct.of (cc := cX2_isWhole) (maxL := 1) (ret := (some .boolean)) (lv := [(0, .ref (h 0))]) (by decide) rfl (Nat.le_of_ble_eq_true rfl) rfl ?_
  intro p e s m below meth c A ls hx hb hr hml hts hown hlocks hK hP hD hS hA hl
  refine lv_aload_n hx hb dX2_isWhole_0 rfl (lv_at hl 0 rfl) ?_
  refine va_get (D := D) (ci := 2) (v := .int (bI wh)) (C := RX2) (T := TX2) (N := 7) hx hb hts (fun w h => lw_in w (inX2 w h)) hown hK hP 0 rfl rfl 5 (by decide) (hts _ (lw_in _ t_117)) (fun _ h9 => h9) rfl dX2_isWhole_1 ?_
  exact ct_endi hx hb hr hlocks (bI_narrow _) hP hD hS rfl rfl dX2_isWhole_4

set_option maxHeartbeats 4000000 in
set_option maxRecDepth 100000 in
theorem k_D_competing (l : Launch) (D : va_G) (h : Nat → Nat) (k : Nat → ClassId) (tx : Nat → Int32) (ln : Nat) (rd : Int64) (wh : Bool) (cm : Nat) (R : RS) (nm : Nat → Int32) (nx : Nat → Int64) (np : Nat) (fi : Int64) (la : Int64) (em : Bool)  (hnp : np ≤ 60) :
    Ct l yX2_competing wsX2_competing (rmN 3) D vwCl (tyD k) [.ref (h 0)] (wD h k tx ln rd wh cm R (nm, nx, np, fi, la, em)) (wD h k tx ln rd wh cm R (nm, nx, np, fi, la, em)) (some (.int (cpF nm nx np fi))) := by
  refine Ct.of (cc := cX2_competing) (maxL := 1) (ret := (some .int)) (lv := [(0, .ref (h 0))]) (by decide) rfl (Nat.le_of_ble_eq_true rfl) rfl ?_
  intro p e s m below meth c A ls hx hb hr hml hts hown hlocks hK hP hD hS hA hl
  refine lv_aload_n hx hb dX2_competing_0 rfl (lv_at hl 0 rfl) ?_
  refine va_get (D := D) (ci := 2) (v := .ref (h 7)) (C := RX2) (T := TX2) (N := 7) hx hb hts (fun w h => lw_in w (inX2 w h)) hown hK hP 0 rfl rfl 3 (by decide) (hts _ (lw_in _ t_115)) (fun _ h9 => h9) rfl dX2_competing_1 ?_
  refine ct_callV (As := []) (rest := []) ⟨hx, hb, hml, hown, hts⟩ (k_M_competingNames l D h k tx ln rd wh cm R nm nx np fi la em  (by omega)) (cwV 0 hts (gV lw_in t_218 t_219 t_220 t_25 t_221) rfl rfl rfl (by decide +kernel) ⟨Nat.le_of_ble_eq_true rfl, Nat.le_of_ble_eq_true rfl⟩) 7 rfl rfl hK hP hD hS hA rfl hl.1 rfl (Nat.le_of_ble_eq_true rfl) dX2_competing_4 ⟨Nat.zero_le _, Nat.zero_le _⟩ (fun H locs hP hD hS => ?_)
  refine W.eq (g2 := F0 m 7 ls [.int (cpF nm nx np fi)]) rfl ?_
  exact ct_endi hx hb hr hlocks rfl hP hD hS rfl rfl dX2_competing_7

set_option maxHeartbeats 4000000 in
set_option maxRecDepth 100000 in
theorem k_D_isClear (l : Launch) (D : va_G) (h : Nat → Nat) (k : Nat → ClassId) (tx : Nat → Int32) (ln : Nat) (rd : Int64) (wh : Bool) (cm : Nat) (R : RS) (nm : Nat → Int32) (nx : Nat → Int64) (np : Nat) (fi : Int64) (la : Int64) (em : Bool)  (hnp : np ≤ 60) :
    Ct l yX2_isClear wsX2_isClear (rmN 3) D vwCl (tyD k) [.ref (h 0)] (wD h k tx ln rd wh cm R (nm, nx, np, fi, la, em)) (wD h k tx ln rd wh cm R (nm, nx, np, fi, la, em)) (some (.int (bI (decide (0 < np) && decide (cpF nm nx np fi = 0))))) := by
  refine Ct.of (cc := cX2_isClear) (maxL := 1) (ret := (some .boolean)) (lv := [(0, .ref (h 0))]) (by decide) rfl (Nat.le_of_ble_eq_true rfl) rfl ?_
  intro p e s m below meth c A ls hx hb hr hml hts hown hlocks hK hP hD hS hA hl
  refine lv_aload_n hx hb dX2_isClear_0 rfl (lv_at hl 0 rfl) ?_
  refine va_get (D := D) (ci := 2) (v := .ref (h 7)) (C := RX2) (T := TX2) (N := 7) hx hb hts (fun w h => lw_in w (inX2 w h)) hown hK hP 0 rfl rfl 3 (by decide) (hts _ (lw_in _ t_115)) (fun _ h9 => h9) rfl dX2_isClear_1 ?_
  refine va_get (D := D) (ci := 0) (v := .int (nI np)) (C := RX0) (T := TX0) (N := 6) hx hb hts (fun w h => lw_in w (inX0 w h)) hown hK hP 7 rfl rfl 2 (by decide) (hts _ (lw_in _ t_52)) (fun _ h9 => h9) rfl dX2_isClear_4 ?_
  refine lv_if_le (tgt := 24) hx hb dX2_isClear_7 (by decide) (fun c_7 => ?_) (fun c_7 => ?_)
  · have c_7 : np ≤ 0 := (nI_leI (a := np) (b := 0) (by omega) (by omega)).mp c_7
    refine lv_iconst (v := 0) hx hb dX2_isClear_24 (by decide) ?_
    exact ct_endi hx hb hr hlocks rfl hP hD hS rfl (by simp [bI, c_7, Nat.not_lt.mpr c_7]) dX2_isClear_25
  · have c_7 : 0 < np := Nat.lt_of_not_le (fun z => c_7 ((nI_leI (a := np) (b := 0) (by omega) (by omega)).mpr z))
    refine lv_aload_n hx hb dX2_isClear_10 rfl (lv_at hl 0 rfl) ?_
    refine va_get (D := D) (ci := 2) (v := .ref (h 7)) (C := RX2) (T := TX2) (N := 7) hx hb hts (fun w h => lw_in w (inX2 w h)) hown hK hP 0 rfl rfl 3 (by decide) (hts _ (lw_in _ t_115)) (fun _ h9 => h9) rfl dX2_isClear_11 ?_
    refine ct_callV (As := []) (rest := []) ⟨hx, hb, hml, hown, hts⟩ (k_M_competingNames l D h k tx ln rd wh cm R nm nx np fi la em  (by omega)) (cwV 0 hts (gV lw_in t_218 t_219 t_220 t_25 t_221) rfl rfl rfl (by decide +kernel) ⟨Nat.le_of_ble_eq_true rfl, Nat.le_of_ble_eq_true rfl⟩) 7 rfl rfl hK hP hD hS hA rfl hl.1 rfl (Nat.le_of_ble_eq_true rfl) dX2_isClear_14 ⟨Nat.zero_le _, Nat.zero_le _⟩ (fun H locs hP hD hS => ?_)
    refine W.eq (g2 := F0 m 17 ls [.int (cpF nm nx np fi)]) rfl ?_
    refine lv_if_ne (tgt := 24) hx hb dX2_isClear_17 (by decide) (fun c_17 => ?_) (fun c_17 => ?_)
    · have c_17 : ¬ (cpF nm nx np fi) = 0 := c_17
      refine lv_iconst (v := 0) hx hb dX2_isClear_24 (by decide) ?_
      exact ct_endi hx hb hr hlocks rfl hP hD hS rfl (by simp [bI, c_7, Nat.not_le.mpr c_7, c_17]) dX2_isClear_25
    · have c_17 : (cpF nm nx np fi) = 0 := c_17
      refine lv_iconst (v := 1) hx hb dX2_isClear_20 (by decide) ?_
      refine lv_goto (tgt := 25) hx hb dX2_isClear_21 (by decide) ?_
      exact ct_endi hx hb hr hlocks rfl hP hD hS rfl (by simp [bI, c_7, Nat.not_le.mpr c_7, c_17]) dX2_isClear_25

set_option maxHeartbeats 4000000 in
set_option maxRecDepth 100000 in
theorem k_D_next (l : Launch) (D : va_G) (h : Nat → Nat) (k : Nat → ClassId) (tx : Nat → Int32) (ln : Nat) (rd : Int64) (wh : Bool) (cm : Nat) (R : RS) (nm : Nat → Int32) (nx : Nat → Int64) (np : Nat) (fi : Int64) (la : Int64) (em : Bool) (x : Int32) (hnp : np ≤ 60) :
    Ct l yX2_next wsX2_next (rmN 1) D vwCl (tyD k) [.ref (h 0), .int x] (wD h k tx ln rd wh cm R (nm, nx, np, fi, la, em)) (wD h k tx ln rd wh cm R (nm, nx, np, fi, la, em)) (some (.long (d_next nx np x))) := by
  refine Ct.of (cc := cX2_next) (maxL := 2) (ret := (some .long)) (lv := [(0, .ref (h 0)), (1, .int x)]) (by decide) rfl (Nat.le_of_ble_eq_true rfl) rfl ?_
  intro p e s m below meth c A ls hx hb hr hml hts hown hlocks hK hP hD hS hA hl
  refine lv_aload_n hx hb dX2_next_0 rfl (lv_at hl 0 rfl) ?_
  refine va_get (D := D) (ci := 2) (v := .ref (h 7)) (C := RX2) (T := TX2) (N := 7) hx hb hts (fun w h => lw_in w (inX2 w h)) hown hK hP 0 rfl rfl 3 (by decide) (hts _ (lw_in _ t_115)) (fun _ h9 => h9) rfl dX2_next_1 ?_
  refine lv_iload_n hx hb dX2_next_4 rfl (lv_at hl 1 rfl) ?_
  refine ct_callV (As := [.int x]) (rest := []) ⟨hx, hb, hml, hown, hts⟩ (k_M_has l D h k tx ln rd wh cm R nm nx np fi la em x) (cwV 1 hts (gV lw_in t_242 t_243 t_244 t_25 t_245) rfl rfl rfl (by decide +kernel) ⟨Nat.le_of_ble_eq_true rfl, Nat.le_of_ble_eq_true rfl⟩) 7 rfl rfl hK hP hD hS hA rfl hl.1 rfl (Nat.le_of_ble_eq_true rfl) dX2_next_5 ⟨Nat.zero_le _, Nat.zero_le _⟩ (fun H locs hP hD hS => ?_)
  refine W.eq (g2 := F0 m 8 ls [.int (bI (m_has np x))]) rfl ?_
  refine lv_if_eq (tgt := 23) hx hb dX2_next_8 (by decide) (fun c_8 => ?_) (fun c_8 => ?_)
  · have c_8 : (m_has np x) = false := (bI_eq0 _).mp c_8
    refine lv_lconst (v := 0) hx hb dX2_next_23 (by decide) ?_
    exact ct_endl hx hb hr hlocks hP hD hS rfl (by simp [d_next, c_8]) dX2_next_24
  · have c_8 : (m_has np x) = true := (bI_ne0 _).mp c_8
    have e_x := c_8
    obtain ⟨j, hj, rfl⟩ := m_has_nat hnp c_8
    refine lv_aload_n hx hb dX2_next_11 rfl (lv_at hl 0 rfl) ?_
    refine va_get (D := D) (ci := 2) (v := .ref (h 7)) (C := RX2) (T := TX2) (N := 7) hx hb hts (fun w h => lw_in w (inX2 w h)) hown hK hP 0 rfl rfl 3 (by decide) (hts _ (lw_in _ t_115)) (fun _ h9 => h9) rfl dX2_next_12 ?_
    refine va_get (D := D) (ci := 0) (v := .ref (h 9)) (C := RX0) (T := TX0) (N := 6) hx hb hts (fun w h => lw_in w (inX0 w h)) hown hK hP 7 rfl rfl 1 (by decide) (hts _ (lw_in _ t_50)) (fun _ h9 => h9) rfl dX2_next_15 ?_
    refine lv_iload_n hx hb dX2_next_18 rfl (lv_at hl 1 rfl) ?_
    refine wx_lald hx hb hK hP 9 6 rfl rfl (i := j) (by omega) (by decide) dX2_next_19 ?_
    refine lv_goto (tgt := 24) hx hb dX2_next_20 (by decide) ?_
    exact ct_endl hx hb hr hlocks hP hD hS rfl (by rw [d_next, if_pos e_x, nI_clamp (by omega)]) dX2_next_24

set_option maxHeartbeats 4000000 in
set_option maxRecDepth 100000 in
theorem k_D_name (l : Launch) (D : va_G) (h : Nat → Nat) (k : Nat → ClassId) (tx : Nat → Int32) (ln : Nat) (rd : Int64) (wh : Bool) (cm : Nat) (R : RS) (nm : Nat → Int32) (nx : Nat → Int64) (np : Nat) (fi : Int64) (la : Int64) (em : Bool) (x : Int32) (hnp : np ≤ 60) :
    Ct l yX2_name wsX2_name (rmN 1) D vwCl (tyD k) [.ref (h 0), .int x] (wD h k tx ln rd wh cm R (nm, nx, np, fi, la, em)) (wD h k tx ln rd wh cm R (nm, nx, np, fi, la, em)) (some (.int (d_name nm np x))) := by
  refine Ct.of (cc := cX2_name) (maxL := 2) (ret := (some .int)) (lv := [(0, .ref (h 0)), (1, .int x)]) (by decide) rfl (Nat.le_of_ble_eq_true rfl) rfl ?_
  intro p e s m below meth c A ls hx hb hr hml hts hown hlocks hK hP hD hS hA hl
  refine lv_aload_n hx hb dX2_name_0 rfl (lv_at hl 0 rfl) ?_
  refine va_get (D := D) (ci := 2) (v := .ref (h 7)) (C := RX2) (T := TX2) (N := 7) hx hb hts (fun w h => lw_in w (inX2 w h)) hown hK hP 0 rfl rfl 3 (by decide) (hts _ (lw_in _ t_115)) (fun _ h9 => h9) rfl dX2_name_1 ?_
  refine lv_iload_n hx hb dX2_name_4 rfl (lv_at hl 1 rfl) ?_
  refine ct_callV (As := [.int x]) (rest := []) ⟨hx, hb, hml, hown, hts⟩ (k_M_has l D h k tx ln rd wh cm R nm nx np fi la em x) (cwV 1 hts (gV lw_in t_242 t_243 t_244 t_25 t_245) rfl rfl rfl (by decide +kernel) ⟨Nat.le_of_ble_eq_true rfl, Nat.le_of_ble_eq_true rfl⟩) 7 rfl rfl hK hP hD hS hA rfl hl.1 rfl (Nat.le_of_ble_eq_true rfl) dX2_name_5 ⟨Nat.zero_le _, Nat.zero_le _⟩ (fun H locs hP hD hS => ?_)
  refine W.eq (g2 := F0 m 8 ls [.int (bI (m_has np x))]) rfl ?_
  refine lv_if_eq (tgt := 23) hx hb dX2_name_8 (by decide) (fun c_8 => ?_) (fun c_8 => ?_)
  · have c_8 : (m_has np x) = false := (bI_eq0 _).mp c_8
    refine lv_iconst (v := -1) hx hb dX2_name_23 (by decide) ?_
    exact ct_endi hx hb hr hlocks rfl hP hD hS rfl (by simp [d_name, c_8]) dX2_name_24
  · have c_8 : (m_has np x) = true := (bI_ne0 _).mp c_8
    have e_x := c_8
    obtain ⟨j, hj, rfl⟩ := m_has_nat hnp c_8
    refine lv_aload_n hx hb dX2_name_11 rfl (lv_at hl 0 rfl) ?_
    refine va_get (D := D) (ci := 2) (v := .ref (h 7)) (C := RX2) (T := TX2) (N := 7) hx hb hts (fun w h => lw_in w (inX2 w h)) hown hK hP 0 rfl rfl 3 (by decide) (hts _ (lw_in _ t_115)) (fun _ h9 => h9) rfl dX2_name_12 ?_
    refine va_get (D := D) (ci := 0) (v := .ref (h 8)) (C := RX0) (T := TX0) (N := 6) hx hb hts (fun w h => lw_in w (inX0 w h)) hown hK hP 7 rfl rfl 0 (by decide) (hts _ (lw_in _ t_48)) (fun _ h9 => h9) rfl dX2_name_15 ?_
    refine lv_iload_n hx hb dX2_name_18 rfl (lv_at hl 1 rfl) ?_
    refine wx_iald hx hb hK hP 8 5 rfl rfl (i := j) (by omega) (by decide) dX2_name_19 ?_
    refine lv_goto (tgt := 24) hx hb dX2_name_20 (by decide) ?_
    exact ct_endi hx hb hr hlocks rfl hP hD hS rfl (by rw [d_name, if_pos e_x, nI_clamp (by omega)]) dX2_name_24

set_option maxHeartbeats 4000000 in
set_option maxRecDepth 100000 in
theorem k_D_come (l : Launch) (D : va_G) (h : Nat → Nat) (k : Nat → ClassId) (tx : Nat → Int32) (ln : Nat) (rd : Int64) (wh : Bool) (cm : Nat) (R : RS) (nm : Nat → Int32) (nx : Nat → Int64) (np : Nat) (fi : Int64) (la : Int64) (em : Bool) (x : Int32) (hnp : np ≤ 60) :
    Ct l yX2_come wsX2_come (rmN 2) D vwCl (tyD k) [.ref (h 0), .int x] (wD h k tx ln rd wh cm R (nm, nx, np, fi, la, em)) (wD h k tx ln (if pnL x rd nm np 0 0 = 0 then rd else nbL (pnL x rd nm np 0 0) nx np 0 0) (if pnL x rd nm np 0 0 = 0 then wh else decide (¬ (pnL x rd nm np 0 0 &&& la) = 0)) (if pnL x rd nm np 0 0 = 0 then cm else cm + 1) R (nm, nx, np, fi, la, em)) (some (.int (bI (decide (¬ pnL x rd nm np 0 0 = 0))))) := by
  refine Ct.of (cc := cX2_come) (maxL := 4) (ret := (some .boolean)) (lv := [(0, .ref (h 0)), (1, .int x)]) (by decide) rfl (Nat.le_of_ble_eq_true rfl) rfl ?_
  intro p e s m below meth c A ls hx hb hr hml hts hown hlocks hK hP hD hS hA hl
  refine lv_aload_n hx hb dX2_come_0 rfl (lv_at hl 0 rfl) ?_
  refine va_get (D := D) (ci := 2) (v := .ref (h 7)) (C := RX2) (T := TX2) (N := 7) hx hb hts (fun w h => lw_in w (inX2 w h)) hown hK hP 0 rfl rfl 3 (by decide) (hts _ (lw_in _ t_115)) (fun _ h9 => h9) rfl dX2_come_1 ?_
  refine lv_iload_n hx hb dX2_come_4 rfl (lv_at hl 1 rfl) ?_
  refine lv_aload_n hx hb dX2_come_5 rfl (lv_at hl 0 rfl) ?_
  refine va_get (D := D) (ci := 2) (v := .long rd) (C := RX2) (T := TX2) (N := 7) hx hb hts (fun w h => lw_in w (inX2 w h)) hown hK hP 0 rfl rfl 4 (by decide) (hts _ (lw_in _ t_116)) (fun _ h9 => h9) rfl dX2_come_6 ?_
  refine ct_callV (As := [.int x, .long rd]) (rest := []) ⟨hx, hb, hml, hown, hts⟩ (k_M_placesNamed l D h k tx ln rd wh cm R nm nx np fi la em x rd (by omega)) (cwV 2 hts (gV lw_in t_258 t_259 t_260 t_25 t_261) rfl rfl rfl (by decide +kernel) ⟨Nat.le_of_ble_eq_true rfl, Nat.le_of_ble_eq_true rfl⟩) 7 rfl rfl hK hP hD hS hA rfl hl.1 rfl (Nat.le_of_ble_eq_true rfl) dX2_come_9 ⟨Nat.zero_le _, Nat.zero_le _⟩ (fun H locs hP hD hS => ?_)
  refine W.eq (g2 := F0 m 12 ls [.long (pnL x rd nm np 0 0)]) rfl ?_
  refine lv_lstore_n (lv' := [(2, .long (pnL x rd nm np 0 0)), (0, .ref (h 0)), (1, .int x)]) hx hb dX2_come_12 rfl hl (by decide) rfl (fun ls hl => ?_)
  refine lv_lload_n hx hb dX2_come_13 rfl (lv_at hl 0 rfl) ?_
  refine lv_lconst (v := 0) hx hb dX2_come_14 (by decide) ?_
  refine W.lcmp hx hb dX2_come_15 ?_
  refine lv_if_ne (tgt := 21) hx hb dX2_come_16 (by decide) (fun c_16 => ?_) (fun c_16 => ?_)
  · have c_16 : ¬ (pnL x rd nm np 0 0) = 0 := fun z => c_16 ((lg_cmp_eq _ _).mpr z)
    refine lv_aload_n hx hb dX2_come_21 rfl (lv_at hl 1 rfl) ?_
    refine lv_aload_n hx hb dX2_come_22 rfl (lv_at hl 1 rfl) ?_
    refine va_get (D := D) (ci := 2) (v := .ref (h 7)) (C := RX2) (T := TX2) (N := 7) hx hb hts (fun w h => lw_in w (inX2 w h)) hown hK hP 0 rfl rfl 3 (by decide) (hts _ (lw_in _ t_115)) (fun _ h9 => h9) rfl dX2_come_23 ?_
    refine lv_lload_n hx hb dX2_come_26 rfl (lv_at hl 0 rfl) ?_
    refine ct_callV (As := [.long (pnL x rd nm np 0 0)]) (rest := [.ref (h 0)]) ⟨hx, hb, hml, hown, hts⟩ (k_M_nextBehindAny l D h k tx ln rd wh cm R nm nx np fi la em (pnL x rd nm np 0 0) (by omega)) (cwV 1 hts (gV lw_in t_262 t_263 t_264 t_25 t_265) rfl rfl rfl (by decide +kernel) ⟨Nat.le_of_ble_eq_true rfl, Nat.le_of_ble_eq_true rfl⟩) 7 rfl rfl hK hP hD hS hA rfl hl.1 rfl (Nat.le_of_ble_eq_true rfl) dX2_come_27 ⟨Nat.zero_le _, Nat.zero_le _⟩ (fun H locs hP hD hS => ?_)
    refine W.eq (g2 := F0 m 30 ls [.long (nbL (pnL x rd nm np 0 0) nx np 0 0), .ref (h 0)]) rfl ?_
    refine va_put (D := D) (ci := 2) (v := .long (nbL (pnL x rd nm np 0 0) nx np 0 0)) (ty := .long) (C := RX2) (T := TX2) (N := 7) hx hb hts (fun w h => lw_in w (inX2 w h)) tyX2 tyX2_ok nmX2 hown hK hP hD hS 0 rfl rfl 4 (by decide) (hts _ (lw_in _ t_116)) (fun _ h9 => h9) rfl (by decide +kernel) rfl rfl (Nat.le_of_ble_eq_true rfl) dX2_come_30 (fun H locs hP hD hS => ?_)
    have hP : va_P D vwCl (wD h k tx ln (nbL (pnL x rd nm np 0 0) nx np 0 0) wh cm R (nm, nx, np, fi, la, em)) H := hP
    have hD : va_D A (wD h k tx ln (nbL (pnL x rd nm np 0 0) nx np 0 0) wh cm R (nm, nx, np, fi, la, em)) := hD
    refine lv_aload_n hx hb dX2_come_33 rfl (lv_at hl 1 rfl) ?_
    refine lv_lload_n hx hb dX2_come_34 rfl (lv_at hl 0 rfl) ?_
    refine lv_aload_n hx hb dX2_come_35 rfl (lv_at hl 1 rfl) ?_
    refine va_get (D := D) (ci := 2) (v := .ref (h 7)) (C := RX2) (T := TX2) (N := 7) hx hb hts (fun w h => lw_in w (inX2 w h)) hown hK hP 0 rfl rfl 3 (by decide) (hts _ (lw_in _ t_115)) (fun _ h9 => h9) rfl dX2_come_36 ?_
    refine va_get (D := D) (ci := 0) (v := .long la) (C := RX0) (T := TX0) (N := 6) hx hb hts (fun w h => lw_in w (inX0 w h)) hown hK hP 7 rfl rfl 4 (by decide) (hts _ (lw_in _ t_59)) (fun _ h9 => h9) rfl dX2_come_39 ?_
    refine lv_land hx hb dX2_come_42 ?_
    refine lv_lconst (v := 0) hx hb dX2_come_43 (by decide) ?_
    refine W.lcmp hx hb dX2_come_44 ?_
    refine lv_if_eq (tgt := 52) hx hb dX2_come_45 (by decide) (fun c_45 => ?_) (fun c_45 => ?_)
    · have c_45 : ((pnL x rd nm np 0 0) &&& la) = 0 := (lg_cmp_eq _ _).mp c_45
      refine lv_iconst (v := 0) hx hb dX2_come_52 (by decide) ?_
      refine lv_eqi (show 0 = bI false from rfl) ?_
      refine va_put (D := D) (ci := 2) (v := .int (bI false)) (ty := .boolean) (C := RX2) (T := TX2) (N := 7) hx hb hts (fun w h => lw_in w (inX2 w h)) tyX2 tyX2_ok nmX2 hown hK hP hD hS 0 rfl rfl 5 (by decide) (hts _ (lw_in _ t_117)) (fun _ h9 => h9) rfl (by decide +kernel) (bI_narrow _) (bI_fits _) (Nat.le_of_ble_eq_true rfl) dX2_come_53 (fun H locs hP hD hS => ?_)
      have hP : va_P D vwCl (wD h k tx ln (nbL (pnL x rd nm np 0 0) nx np 0 0) false cm R (nm, nx, np, fi, la, em)) H := hP
      have hD : va_D A (wD h k tx ln (nbL (pnL x rd nm np 0 0) nx np 0 0) false cm R (nm, nx, np, fi, la, em)) := hD
      refine lv_aload_n hx hb dX2_come_56 rfl (lv_at hl 1 rfl) ?_
      refine lv_dup hx hb dX2_come_57 rfl ?_
      refine va_get (D := D) (ci := 2) (v := .int (nI cm)) (C := RX2) (T := TX2) (N := 7) hx hb hts (fun w h => lw_in w (inX2 w h)) hown hK hP 0 rfl rfl 6 (by decide) (hts _ (lw_in _ t_118)) (fun _ h9 => h9) rfl dX2_come_58 ?_
      refine lv_iconst (v := 1) hx hb dX2_come_61 (by decide) ?_
      refine lv_iadd hx hb dX2_come_62 ?_
      refine lv_eqi (show (nI cm + 1) = nI (cm + 1) from nI_1 _) ?_
      refine va_put (D := D) (ci := 2) (v := .int (nI (cm + 1))) (ty := .int) (C := RX2) (T := TX2) (N := 7) hx hb hts (fun w h => lw_in w (inX2 w h)) tyX2 tyX2_ok nmX2 hown hK hP hD hS 0 rfl rfl 6 (by decide) (hts _ (lw_in _ t_118)) (fun _ h9 => h9) rfl (by decide +kernel) rfl rfl (Nat.le_of_ble_eq_true rfl) dX2_come_63 (fun H locs hP hD hS => ?_)
      have hP : va_P D vwCl (wD h k tx ln (nbL (pnL x rd nm np 0 0) nx np 0 0) false (cm + 1) R (nm, nx, np, fi, la, em)) H := hP
      have hD : va_D A (wD h k tx ln (nbL (pnL x rd nm np 0 0) nx np 0 0) false (cm + 1) R (nm, nx, np, fi, la, em)) := hD
      refine lv_iconst (v := 1) hx hb dX2_come_66 (by decide) ?_
      exact ct_endi hx hb hr hlocks rfl hP hD hS (by simp [c_16, c_45]) (by simp [bI, c_16]) dX2_come_67
    · have c_45 : ¬ ((pnL x rd nm np 0 0) &&& la) = 0 := fun z => c_45 ((lg_cmp_eq _ _).mpr z)
      refine lv_iconst (v := 1) hx hb dX2_come_48 (by decide) ?_
      refine lv_goto (tgt := 53) hx hb dX2_come_49 (by decide) ?_
      refine lv_eqi (show 1 = bI true from rfl) ?_
      refine va_put (D := D) (ci := 2) (v := .int (bI true)) (ty := .boolean) (C := RX2) (T := TX2) (N := 7) hx hb hts (fun w h => lw_in w (inX2 w h)) tyX2 tyX2_ok nmX2 hown hK hP hD hS 0 rfl rfl 5 (by decide) (hts _ (lw_in _ t_117)) (fun _ h9 => h9) rfl (by decide +kernel) (bI_narrow _) (bI_fits _) (Nat.le_of_ble_eq_true rfl) dX2_come_53 (fun H locs hP hD hS => ?_)
      have hP : va_P D vwCl (wD h k tx ln (nbL (pnL x rd nm np 0 0) nx np 0 0) true cm R (nm, nx, np, fi, la, em)) H := hP
      have hD : va_D A (wD h k tx ln (nbL (pnL x rd nm np 0 0) nx np 0 0) true cm R (nm, nx, np, fi, la, em)) := hD
      refine lv_aload_n hx hb dX2_come_56 rfl (lv_at hl 1 rfl) ?_
      refine lv_dup hx hb dX2_come_57 rfl ?_
      refine va_get (D := D) (ci := 2) (v := .int (nI cm)) (C := RX2) (T := TX2) (N := 7) hx hb hts (fun w h => lw_in w (inX2 w h)) hown hK hP 0 rfl rfl 6 (by decide) (hts _ (lw_in _ t_118)) (fun _ h9 => h9) rfl dX2_come_58 ?_
      refine lv_iconst (v := 1) hx hb dX2_come_61 (by decide) ?_
      refine lv_iadd hx hb dX2_come_62 ?_
      refine lv_eqi (show (nI cm + 1) = nI (cm + 1) from nI_1 _) ?_
      refine va_put (D := D) (ci := 2) (v := .int (nI (cm + 1))) (ty := .int) (C := RX2) (T := TX2) (N := 7) hx hb hts (fun w h => lw_in w (inX2 w h)) tyX2 tyX2_ok nmX2 hown hK hP hD hS 0 rfl rfl 6 (by decide) (hts _ (lw_in _ t_118)) (fun _ h9 => h9) rfl (by decide +kernel) rfl rfl (Nat.le_of_ble_eq_true rfl) dX2_come_63 (fun H locs hP hD hS => ?_)
      have hP : va_P D vwCl (wD h k tx ln (nbL (pnL x rd nm np 0 0) nx np 0 0) true (cm + 1) R (nm, nx, np, fi, la, em)) H := hP
      have hD : va_D A (wD h k tx ln (nbL (pnL x rd nm np 0 0) nx np 0 0) true (cm + 1) R (nm, nx, np, fi, la, em)) := hD
      refine lv_iconst (v := 1) hx hb dX2_come_66 (by decide) ?_
      exact ct_endi hx hb hr hlocks rfl hP hD hS (by simp [c_16, c_45]) (by simp [bI, c_16]) dX2_come_67
  · have c_16 : (pnL x rd nm np 0 0) = 0 := (lg_cmp_eq _ _).mp c_16
    refine lv_iconst (v := 0) hx hb dX2_come_19 (by decide) ?_
    exact ct_endi hx hb hr hlocks rfl hP hD hS (by simp [c_16]) (by simp [bI, c_16]) dX2_come_20

set_option maxHeartbeats 4000000 in
set_option maxRecDepth 100000 in
theorem k_D_may (l : Launch) (D : va_G) (h : Nat → Nat) (k : Nat → ClassId) (tx : Nat → Int32) (ln : Nat) (rd : Int64) (wh : Bool) (cm : Nat) (R : RS) (nm : Nat → Int32) (nx : Nat → Int64) (np : Nat) (fi : Int64) (la : Int64) (em : Bool)  (hnp : np ≤ 60) :
    Ct l yX2_may wsX2_may (rmN 2) D vwCl (tyD k) [.ref (h 0)] (wD h k tx ln rd wh cm R (nm, nx, np, fi, la, em)) (wD h k tx ln rd wh cm R (nm, nx, np, fi, la, em)) (some (.int (noL rd nm np 0 0))) := by
  refine Ct.of (cc := cX2_may) (maxL := 1) (ret := (some .int)) (lv := [(0, .ref (h 0))]) (by decide) rfl (Nat.le_of_ble_eq_true rfl) rfl ?_
  intro p e s m below meth c A ls hx hb hr hml hts hown hlocks hK hP hD hS hA hl
  refine lv_aload_n hx hb dX2_may_0 rfl (lv_at hl 0 rfl) ?_
  refine va_get (D := D) (ci := 2) (v := .ref (h 7)) (C := RX2) (T := TX2) (N := 7) hx hb hts (fun w h => lw_in w (inX2 w h)) hown hK hP 0 rfl rfl 3 (by decide) (hts _ (lw_in _ t_115)) (fun _ h9 => h9) rfl dX2_may_1 ?_
  refine lv_aload_n hx hb dX2_may_4 rfl (lv_at hl 0 rfl) ?_
  refine va_get (D := D) (ci := 2) (v := .long rd) (C := RX2) (T := TX2) (N := 7) hx hb hts (fun w h => lw_in w (inX2 w h)) hown hK hP 0 rfl rfl 4 (by decide) (hts _ (lw_in _ t_116)) (fun _ h9 => h9) rfl dX2_may_5 ?_
  refine ct_callV (As := [.long rd]) (rest := []) ⟨hx, hb, hml, hown, hts⟩ (k_M_namesOf l D h k tx ln rd wh cm R nm nx np fi la em rd (by omega)) (cwV 1 hts (gV lw_in t_274 t_275 t_276 t_25 t_277) rfl rfl rfl (by decide +kernel) ⟨Nat.le_of_ble_eq_true rfl, Nat.le_of_ble_eq_true rfl⟩) 7 rfl rfl hK hP hD hS hA rfl hl.1 rfl (Nat.le_of_ble_eq_true rfl) dX2_may_8 ⟨Nat.zero_le _, Nat.zero_le _⟩ (fun H locs hP hD hS => ?_)
  refine W.eq (g2 := F0 m 11 ls [.int (noL rd nm np 0 0)]) rfl ?_
  exact ct_endi hx hb hr hlocks rfl hP hD hS rfl rfl dX2_may_11

set_option maxHeartbeats 4000000 in
set_option maxRecDepth 100000 in
theorem k_D_again (l : Launch) (D : va_G) (h : Nat → Nat) (k : Nat → ClassId) (tx : Nat → Int32) (ln : Nat) (rd : Int64) (wh : Bool) (cm : Nat) (R : RS) (nm : Nat → Int32) (nx : Nat → Int64) (np : Nat) (fi : Int64) (la : Int64) (em : Bool)   :
    Ct l yX2_again wsX2_again (rmN 1) D vwCl (tyD k) [.ref (h 0)] (wD h k tx ln rd wh cm R (nm, nx, np, fi, la, em)) (wD h k tx ln fi em 0 R (nm, nx, np, fi, la, em)) (some (.int (nI cm))) := by
  refine Ct.of (cc := cX2_again) (maxL := 2) (ret := (some .int)) (lv := [(0, .ref (h 0))]) (by decide) rfl (Nat.le_of_ble_eq_true rfl) rfl ?_
  intro p e s m below meth c A ls hx hb hr hml hts hown hlocks hK hP hD hS hA hl
  refine lv_aload_n hx hb dX2_again_0 rfl (lv_at hl 0 rfl) ?_
  refine va_get (D := D) (ci := 2) (v := .int (nI cm)) (C := RX2) (T := TX2) (N := 7) hx hb hts (fun w h => lw_in w (inX2 w h)) hown hK hP 0 rfl rfl 6 (by decide) (hts _ (lw_in _ t_118)) (fun _ h9 => h9) rfl dX2_again_1 ?_
  refine lv_istore_n (lv' := [(1, .int (nI cm)), (0, .ref (h 0))]) hx hb dX2_again_4 rfl hl (by decide) rfl (fun ls hl => ?_)
  refine lv_aload_n hx hb dX2_again_5 rfl (lv_at hl 1 rfl) ?_
  refine ct_callV (As := []) (rest := []) ⟨hx, hb, hml, hown, hts⟩ (k_D_startRow l D h k tx ln rd wh cm R nm nx np fi la em) (cwV 0 hts (gV lw_in t_210 t_212 t_8 t_23 t_213) rfl rfl rfl (by decide +kernel) ⟨Nat.le_of_ble_eq_true rfl, Nat.le_of_ble_eq_true rfl⟩) 0 rfl rfl hK hP hD hS hA rfl hl.1 rfl (Nat.le_of_ble_eq_true rfl) dX2_again_6 ⟨Nat.zero_le _, Nat.zero_le _⟩ (fun H locs hP hD hS => ?_)
  refine W.eq (g2 := F0 m 9 ls []) rfl ?_
  have hP : va_P D vwCl (wD h k tx ln fi em 0 R (nm, nx, np, fi, la, em)) H := hP
  have hD : va_D A (wD h k tx ln fi em 0 R (nm, nx, np, fi, la, em)) := hD
  refine lv_iload_n hx hb dX2_again_9 rfl (lv_at hl 0 rfl) ?_
  exact ct_endi hx hb hr hlocks rfl hP hD hS rfl rfl dX2_again_10

set_option maxHeartbeats 4000000 in
set_option maxRecDepth 100000 in
theorem k_D_put (l : Launch) (D : va_G) (h : Nat → Nat) (k : Nat → ClassId) (tx : Nat → Int32) (ln : Nat) (rd : Int64) (wh : Bool) (cm : Nat) (R : RS) (M : MS) (v : Int64) (x : Int32) (hln : ln ≤ 300) :
    Ct l yX2_put wsX2_put (rmN 0) D vwCl (tyD k) [.ref (h 0), .long v, .int x] (wD h k tx ln rd wh cm R M) (wD h k (d_put tx ln v x).1 (d_put tx ln v x).2.1 rd wh cm R M) (some (.int (bI (d_put tx ln v x).2.2))) := by
  refine Ct.of (cc := cX2_put) (maxL := 5) (ret := (some .boolean)) (lv := [(0, .ref (h 0)), (1, .long v), (3, .int x)]) (by decide) rfl (Nat.le_of_ble_eq_true rfl) rfl ?_
  intro p e s m below meth c A ls hx hb hr hml hts hown hlocks hK hP hD hS hA hl
  refine lv_iload_n hx hb dX2_put_0 rfl (lv_at hl 2 rfl) ?_
  refine lv_iconst (v := 1) hx hb dX2_put_1 (by decide) ?_
  refine lv_icmp_lt (tgt := 23) hx hb dX2_put_2 (by decide) (fun c_2 => ?_) (fun c_2 => ?_)
  · have c_2 : x < 1 := c_2
    refine lv_iconst (v := 0) hx hb dX2_put_23 (by decide) ?_
    have e_24 : d_put tx ln v x = (tx, ln, false) := by unfold d_put; rw [if_pos c_2]
    exact ct_endi hx hb hr hlocks rfl hP hD hS (by rw [e_24]) (by rw [e_24]; rfl) dX2_put_24
  · have c_2 : ¬ x < 1 := c_2
    refine lv_iload_n hx hb dX2_put_5 rfl (lv_at hl 2 rfl) ?_
    refine lv_bipush (v := 8) hx hb dX2_put_6 (by decide) ?_
    refine lv_icmp_gt (tgt := 23) hx hb dX2_put_8 (by decide) (fun c_8 => ?_) (fun c_8 => ?_)
    · have c_8 : 8 < x := c_8
      refine lv_iconst (v := 0) hx hb dX2_put_23 (by decide) ?_
      have e_24 : d_put tx ln v x = (tx, ln, false) := by unfold d_put; rw [if_neg c_2, if_pos c_8]
      exact ct_endi hx hb hr hlocks rfl hP hD hS (by rw [e_24]) (by rw [e_24]; rfl) dX2_put_24
    · have c_8 : ¬ 8 < x := c_8
      obtain ⟨q, hq1, hq8, rfl⟩ : ∃ q : Nat, 1 ≤ q ∧ q ≤ 8 ∧ x = nI q := p_count c_2 c_8
      refine lv_aload_n hx hb dX2_put_11 rfl (lv_at hl 0 rfl) ?_
      refine va_get (D := D) (ci := 2) (v := .int (nI ln)) (C := RX2) (T := TX2) (N := 7) hx hb hts (fun w h => lw_in w (inX2 w h)) hown hK hP 0 rfl rfl 1 (by decide) (hts _ (lw_in _ t_113)) (fun _ h9 => h9) rfl dX2_put_12 ?_
      refine lv_iload_n hx hb dX2_put_15 rfl (lv_at hl 2 rfl) ?_
      refine lv_iadd hx hb dX2_put_16 ?_
      refine lv_eqi (show (nI ln + nI q) = nI (ln + q) from nI_add _ _) ?_
      refine lv_sipush (v := 300) hx hb dX2_put_17 (by decide) ?_
      refine lv_icmp_le (tgt := 25) hx hb dX2_put_20 (by decide) (fun c_20 => ?_) (fun c_20 => ?_)
      · have c_20 : (ln + q) ≤ 300 := (nI_leI (a := (ln + q)) (b := 300) (by omega) (by omega)).mp c_20
        refine lv_iload_n hx hb dX2_put_25 rfl (lv_at hl 2 rfl) ?_
        refine lv_iconst (v := 1) hx hb dX2_put_26 (by decide) ?_
        refine lv_isub hx hb dX2_put_27 ?_
        refine lv_istore (lv' := [(4, .int (nI q - 1)), (0, .ref (h 0)), (1, .long v), (3, .int (nI q))]) hx hb dX2_put_28 hl (by decide) rfl (fun ls hl => ?_)
        have loop : ∀ (n : Nat) (tx1 : Nat → Int32) (ln1 : Nat), ln1 + n ≤ 300 → ln1 + n = ln + q → ptL v n ln1 tx1 = ptL v q ln tx → ∀ (H : Heap) (locs : List Loc), va_P D vwCl (wD h k tx1 ln1 rd wh cm R M) H → va_D A (wD h k tx1 ln1 rd wh cm R M) → va_S A s.heap H locs → ∀ ls : Array Slot, lv_has ls 5 [(4, .int (nI n - 1)), (0, .ref (h 0)), (1, .long v), (3, .int (nI q))] →
            W p l e (rmN 0) s m ([.ref (h 0), .long v, .int (nI q)] : List Value).toArray below meth c H locs 0 0 (MQ below (CtQ D vwCl A (wD h k (d_put tx ln v (nI q)).1 (d_put tx ln v (nI q)).2.1 rd wh cm R M) (some (.int (bI (d_put tx ln v (nI q)).2.2)))) ([.ref (h 0), .long v, .int (nI q)] : List Value).toArray s 0 0 A) (F0 m 30 ls []) := by
          intro n
          induction n with
          | zero =>
            intro tx1 ln1 hi hln he H locs hP hD hS ls hl
            refine lv_iload hx hb dX2_put_30 (lv_at hl 0 rfl) ?_
            refine lv_if_lt (tgt := 69) hx hb dX2_put_32 (by decide) (fun c_32 => ?_) (fun c_32 => ?_)
            · have c_32 : (nI 0 - 1) < 0 := c_32
              refine lv_iconst (v := 1) hx hb dX2_put_69 (by decide) ?_
              have e_69 : d_put tx ln v (nI q) = (ptL v q ln tx, ln + q, true) := by unfold d_put; rw [if_neg c_2, if_neg c_8, nI_clamp (by omega), if_neg (by omega)]
              have e_70 : ln1 = ln + q := by omega
              exact ct_endi hx hb hr hlocks rfl hP hD hS (by rw [e_69, ← he, ← e_70]; rfl) (by rw [e_69]; rfl) dX2_put_70
            · have c_32 : ¬ (nI 0 - 1) < 0 := c_32
              exact absurd (by decide) c_32
          | succ n ih =>
            intro tx1 ln1 hi hln he H locs hP hD hS ls hl
            rw [nI_pred n] at hl
            refine lv_iload hx hb dX2_put_30 (lv_at hl 0 rfl) ?_
            refine lv_if_lt (tgt := 69) hx hb dX2_put_32 (by decide) (fun c_32 => ?_) (fun c_32 => ?_)
            · have c_32 : n < 0 := (nI_ltI (a := n) (b := 0) (by omega) (by omega)).mp c_32
              exact absurd c_32 (Nat.not_lt_zero _)
            · have c_32 : 0 ≤ n := Nat.le_of_not_lt (fun z => c_32 ((nI_ltI (a := n) (b := 0) (by omega) (by omega)).mpr z))
              refine lv_aload_n hx hb dX2_put_35 rfl (lv_at hl 1 rfl) ?_
              refine va_get (D := D) (ci := 2) (v := .ref (h 1)) (C := RX2) (T := TX2) (N := 7) hx hb hts (fun w h => lw_in w (inX2 w h)) hown hK hP 0 rfl rfl 0 (by decide) (hts _ (lw_in _ t_112)) (fun _ h9 => h9) rfl dX2_put_36 ?_
              refine lv_aload_n hx hb dX2_put_39 rfl (lv_at hl 1 rfl) ?_
              refine va_get (D := D) (ci := 2) (v := .int (nI ln1)) (C := RX2) (T := TX2) (N := 7) hx hb hts (fun w h => lw_in w (inX2 w h)) hown hK hP 0 rfl rfl 1 (by decide) (hts _ (lw_in _ t_113)) (fun _ h9 => h9) rfl dX2_put_40 ?_
              refine lv_lload_n hx hb dX2_put_43 rfl (lv_at hl 2 rfl) ?_
              refine lv_bipush (v := 8) hx hb dX2_put_44 (by decide) ?_
              refine lv_iload hx hb dX2_put_46 (lv_at hl 0 rfl) ?_
              refine lv_imul hx hb dX2_put_48 ?_
              refine lv_lushr (v := (v.toUInt64 >>> ((8 * nI n).toInt64.toUInt64 &&& Int64.toUInt64 63)).toInt64) hx hb dX2_put_49 rfl ?_
              refine lv_l2i (v := ((v.toUInt64 >>> ((8 * nI n).toInt64.toUInt64 &&& Int64.toUInt64 63)).toInt64).toInt32) hx hb dX2_put_50 rfl ?_
              refine lv_i2b (v := (((v.toUInt64 >>> ((8 * nI n).toInt64.toUInt64 &&& Int64.toUInt64 63)).toInt64).toInt32).toInt8.toInt32) hx hb dX2_put_51 rfl ?_
              refine wx_bast hx hb hK hP hD hS 1 0 rfl rfl (i := ln1) (by omega) (by decide) dX2_put_52 (fun H locs hP hD hS => ?_)
              have hP : va_P D vwCl (wD h k (upd tx1 ln1 (((((v.toUInt64 >>> ((8 * nI n).toInt64.toUInt64 &&& Int64.toUInt64 63)).toInt64).toInt32).toInt8.toInt32).toInt8.toInt32)) ln1 rd wh cm R M) H := hP
              have hD : va_D A (wD h k (upd tx1 ln1 (((((v.toUInt64 >>> ((8 * nI n).toInt64.toUInt64 &&& Int64.toUInt64 63)).toInt64).toInt32).toInt8.toInt32).toInt8.toInt32)) ln1 rd wh cm R M) := hD
              refine lv_aload_n hx hb dX2_put_53 rfl (lv_at hl 1 rfl) ?_
              refine lv_dup hx hb dX2_put_54 rfl ?_
              refine va_get (D := D) (ci := 2) (v := .int (nI ln1)) (C := RX2) (T := TX2) (N := 7) hx hb hts (fun w h => lw_in w (inX2 w h)) hown hK hP 0 rfl rfl 1 (by decide) (hts _ (lw_in _ t_113)) (fun _ h9 => h9) rfl dX2_put_55 ?_
              refine lv_iconst (v := 1) hx hb dX2_put_58 (by decide) ?_
              refine lv_iadd hx hb dX2_put_59 ?_
              refine lv_eqi (show (nI ln1 + 1) = nI (ln1 + 1) from nI_1 _) ?_
              refine va_put (D := D) (ci := 2) (v := .int (nI (ln1 + 1))) (ty := .int) (C := RX2) (T := TX2) (N := 7) hx hb hts (fun w h => lw_in w (inX2 w h)) tyX2 tyX2_ok nmX2 hown hK hP hD hS 0 rfl rfl 1 (by decide) (hts _ (lw_in _ t_113)) (fun _ h9 => h9) rfl (by decide +kernel) rfl rfl (Nat.le_of_ble_eq_true rfl) dX2_put_60 (fun H locs hP hD hS => ?_)
              have hP : va_P D vwCl (wD h k (upd tx1 ln1 (((((v.toUInt64 >>> ((8 * nI n).toInt64.toUInt64 &&& Int64.toUInt64 63)).toInt64).toInt32).toInt8.toInt32).toInt8.toInt32)) (ln1 + 1) rd wh cm R M) H := hP
              have hD : va_D A (wD h k (upd tx1 ln1 (((((v.toUInt64 >>> ((8 * nI n).toInt64.toUInt64 &&& Int64.toUInt64 63)).toInt64).toInt32).toInt8.toInt32).toInt8.toInt32)) (ln1 + 1) rd wh cm R M) := hD
              refine lv_iinc (v := (nI n - 1)) (lv' := [(4, .int (nI n - 1)), (0, .ref (h 0)), (1, .long v), (3, .int (nI q))]) hx hb dX2_put_63 hl (k := 0) rfl (i_m1 _) (by decide) rfl (fun ls hl => ?_)
              refine lv_goto (tgt := 30) hx hb dX2_put_66 (by decide) ?_
              exact ih (upd tx1 ln1 (((((v.toUInt64 >>> ((8 * nI n).toInt64.toUInt64 &&& Int64.toUInt64 63)).toInt64).toInt32).toInt8.toInt32).toInt8.toInt32)) (ln1 + 1) (by omega) (by omega) (by rw [← he, ptL, byteOf]) _ _ hP hD hS _ (lv_sub hl [0, 1, 2, 3] rfl)
        exact loop q tx ln (by omega) rfl rfl _ _ hP hD hS _ (lv_sub hl [0, 1, 2, 3] rfl)
      · have c_20 : 300 < (ln + q) := Nat.lt_of_not_le (fun z => c_20 ((nI_leI (a := (ln + q)) (b := 300) (by omega) (by omega)).mpr z))
        refine lv_iconst (v := 0) hx hb dX2_put_23 (by decide) ?_
        have e_24 : d_put tx ln v (nI q) = (tx, ln, false) := by unfold d_put; rw [if_neg c_2, if_neg c_8, nI_clamp (by omega), if_pos (by omega)]
        exact ct_endi hx hb hr hlocks rfl hP hD hS (by rw [e_24]) (by rw [e_24]; rfl) dX2_put_24

theorem k_M_clear_o (l : Launch) (D : va_G) (h : Nat → Nat) (k : Nat → ClassId) (tx : Nat → Int32) (ln : Nat) (rd : Int64) (wh : Bool) (cm : Nat) (R : RS) (M : MS) :
    Ct l yX0_clear wsX0_clear (rmN 0) D vwCl (tyD k) [.ref (h 7)] (wD h k tx ln rd wh cm R M) (wD h k tx ln rd wh cm R (m_clear M)) none := by
  obtain ⟨nm, nx, np, fi, la, em⟩ := M
  exact k_M_clear l D h k tx ln rd wh cm R nm nx np fi la em
end
section
/-! The methods of the class: read (laid by program) -/
set_option maxHeartbeats 4000000 in
set_option maxRecDepth 100000 in
theorem k_D_readText (l : Launch) (D : va_G) (h : Nat → Nat) (k : Nat → ClassId) (tx : Nat → Int32) (ln : Nat) (rd : Int64) (wh : Bool) (cm : Nat) (R : RS) (M : MS)  (hln : ln ≤ 300) (hnp : M.2.2.1 ≤ 60) :
    Ct l yX2_readText wsX2_readText (rmN 5) D vwCl (tyD k) [.ref (h 0)] (wD h k tx ln rd wh cm R M) (wD h k tx ln rd wh cm (d_text tx ln R M).1 (d_text tx ln R M).2.1) (some (.int ((d_text tx ln R M).2.2))) := by
  refine Ct.of (cc := cX2_readText) (maxL := 3) (ret := (some .int)) (lv := [(0, .ref (h 0))]) (by decide) rfl (Nat.le_of_ble_eq_true rfl) rfl ?_
  intro p e s m below meth c A ls hx hb hr hml hts hown hlocks hK hP hD hS hA hl
  have loop : ∀ (n : Nat) (i : Nat) (R1 : RS) (M1 : MS), i + n = ln → R1.2.2.2.2.1 ≤ 12 → M1.2.2.1 ≤ 60 → rdL tx ln n i R1 M1 = d_text tx ln R M → ∀ (H : Heap) (locs : List Loc), va_P D vwCl (wD h k tx ln rd wh cm R1 M1) H → va_D A (wD h k tx ln rd wh cm R1 M1) → va_S A s.heap H locs → ∀ ls : Array Slot, lv_has ls 3 [(1, .int (nI i)), (0, .ref (h 0))] →
      W p l e (rmN 5) s m ([.ref (h 0)] : List Value).toArray below meth c H locs 0 0 (MQ below (CtQ D vwCl A (wD h k tx ln rd wh cm (d_text tx ln R M).1 (d_text tx ln R M).2.1) (some (.int ((d_text tx ln R M).2.2)))) ([.ref (h 0)] : List Value).toArray s 0 0 A) (F0 m 9 ls []) := by
    intro n
    induction n with
    | zero =>
      intro i R1 M1 hi hdp1 hnp1 he H locs hP hD hS ls hl
      refine lv_iload_n hx hb dX2_readText_9 rfl (lv_at hl 0 rfl) ?_
      refine lv_aload_n hx hb dX2_readText_10 rfl (lv_at hl 1 rfl) ?_
      refine va_get (D := D) (ci := 2) (v := .int (nI ln)) (C := RX2) (T := TX2) (N := 7) hx hb hts (fun w h => lw_in w (inX2 w h)) hown hK hP 0 rfl rfl 1 (by decide) (hts _ (lw_in _ t_113)) (fun _ h9 => h9) rfl dX2_readText_11 ?_
      refine lv_icmp_ge (tgt := 57) hx hb dX2_readText_14 (by decide) (fun c_14 => ?_) (fun c_14 => ?_)
      · have c_14 : ln ≤ i := (nI_leI (a := ln) (b := i) (by omega) (by omega)).mp c_14
        refine lv_aload_n hx hb dX2_readText_57 rfl (lv_at hl 1 rfl) ?_
        refine va_get (D := D) (ci := 2) (v := .ref (h 2)) (C := RX2) (T := TX2) (N := 7) hx hb hts (fun w h => lw_in w (inX2 w h)) hown hK hP 0 rfl rfl 2 (by decide) (hts _ (lw_in _ t_114)) (fun _ h9 => h9) rfl dX2_readText_58 ?_
        refine ct_callV (As := []) (rest := []) ⟨hx, hb, hml, hown, hts⟩ (k_R_finish_o l D h k tx ln rd wh cm R1 M1 hdp1) (cwV 0 hts (gV lw_in t_205 t_206 t_207 t_24 t_208) rfl rfl rfl (by decide +kernel) ⟨Nat.le_of_ble_eq_true rfl, Nat.le_of_ble_eq_true rfl⟩) 2 rfl rfl hK hP hD hS hA rfl hl.1 rfl (Nat.le_of_ble_eq_true rfl) dX2_readText_61 ⟨Nat.zero_le _, Nat.zero_le _⟩ (fun H locs hP hD hS => ?_)
        refine W.eq (g2 := F0 m 64 ls [.int (bI (r_fin R1 M1).2)]) rfl ?_
        have hP : va_P D vwCl (wD h k tx ln rd wh cm R1 ((r_fin R1 M1).1)) H := hP
        have hD : va_D A (wD h k tx ln rd wh cm R1 ((r_fin R1 M1).1)) := hD
        refine lv_if_eq (tgt := 77) hx hb dX2_readText_64 (by decide) (fun c_64 => ?_) (fun c_64 => ?_)
        · have c_64 : ((r_fin R1 M1).2) = false := (bI_eq0 _).mp c_64
          refine lv_iconst (v := -1) hx hb dX2_readText_77 (by decide) ?_
          refine lv_aload_n hx hb dX2_readText_78 rfl (lv_at hl 1 rfl) ?_
          refine va_get (D := D) (ci := 2) (v := .int (nI ln)) (C := RX2) (T := TX2) (N := 7) hx hb hts (fun w h => lw_in w (inX2 w h)) hown hK hP 0 rfl rfl 1 (by decide) (hts _ (lw_in _ t_113)) (fun _ h9 => h9) rfl dX2_readText_79 ?_
          refine lv_isub hx hb dX2_readText_82 ?_
          have e_83 : d_text tx ln R M = (R1, (r_fin R1 M1).1, ((-1) - nI ln)) := by rw [← he, rdL, if_neg (bF c_64)]
          exact ct_endi hx hb hr hlocks rfl hP hD hS (by rw [e_83]) (by rw [e_83]) dX2_readText_83
        · have c_64 : ((r_fin R1 M1).2) = true := (bI_ne0 _).mp c_64
          refine lv_aload_n hx hb dX2_readText_67 rfl (lv_at hl 1 rfl) ?_
          refine va_get (D := D) (ci := 2) (v := .ref (h 7)) (C := RX2) (T := TX2) (N := 7) hx hb hts (fun w h => lw_in w (inX2 w h)) hown hK hP 0 rfl rfl 3 (by decide) (hts _ (lw_in _ t_115)) (fun _ h9 => h9) rfl dX2_readText_68 ?_
          refine va_get (D := D) (ci := 0) (v := .int (nI (((r_fin R1 M1).1).2.2.1))) (C := RX0) (T := TX0) (N := 6) hx hb hts (fun w h => lw_in w (inX0 w h)) hown hK hP 7 rfl rfl 2 (by decide) (hts _ (lw_in _ t_52)) (fun _ h9 => h9) rfl dX2_readText_71 ?_
          refine lv_goto (tgt := 83) hx hb dX2_readText_74 (by decide) ?_
          have e_83 : d_text tx ln R M = (R1, (r_fin R1 M1).1, nI (((r_fin R1 M1).1).2.2.1)) := by rw [← he, rdL, if_pos c_64]
          exact ct_endi hx hb hr hlocks rfl hP hD hS (by rw [e_83]) (by rw [e_83]) dX2_readText_83
      · have c_14 : i < ln := Nat.lt_of_not_le (fun z => c_14 ((nI_leI (a := ln) (b := i) (by omega) (by omega)).mpr z))
        exact absurd c_14 (by omega)
    | succ n ih =>
      intro i R1 M1 hi hdp1 hnp1 he H locs hP hD hS ls hl
      refine lv_iload_n hx hb dX2_readText_9 rfl (lv_at hl 0 rfl) ?_
      refine lv_aload_n hx hb dX2_readText_10 rfl (lv_at hl 1 rfl) ?_
      refine va_get (D := D) (ci := 2) (v := .int (nI ln)) (C := RX2) (T := TX2) (N := 7) hx hb hts (fun w h => lw_in w (inX2 w h)) hown hK hP 0 rfl rfl 1 (by decide) (hts _ (lw_in _ t_113)) (fun _ h9 => h9) rfl dX2_readText_11 ?_
      refine lv_icmp_ge (tgt := 57) hx hb dX2_readText_14 (by decide) (fun c_14 => ?_) (fun c_14 => ?_)
      · have c_14 : ln ≤ i := (nI_leI (a := ln) (b := i) (by omega) (by omega)).mp c_14
        exact absurd c_14 (by omega)
      · have c_14 : i < ln := Nat.lt_of_not_le (fun z => c_14 ((nI_leI (a := ln) (b := i) (by omega) (by omega)).mpr z))
        refine lv_aload_n hx hb dX2_readText_17 rfl (lv_at hl 1 rfl) ?_
        refine va_get (D := D) (ci := 2) (v := .ref (h 2)) (C := RX2) (T := TX2) (N := 7) hx hb hts (fun w h => lw_in w (inX2 w h)) hown hK hP 0 rfl rfl 2 (by decide) (hts _ (lw_in _ t_114)) (fun _ h9 => h9) rfl dX2_readText_18 ?_
        refine lv_aload_n hx hb dX2_readText_21 rfl (lv_at hl 1 rfl) ?_
        refine va_get (D := D) (ci := 2) (v := .ref (h 1)) (C := RX2) (T := TX2) (N := 7) hx hb hts (fun w h => lw_in w (inX2 w h)) hown hK hP 0 rfl rfl 0 (by decide) (hts _ (lw_in _ t_112)) (fun _ h9 => h9) rfl dX2_readText_22 ?_
        refine lv_iload_n hx hb dX2_readText_25 rfl (lv_at hl 0 rfl) ?_
        refine wx_bald hx hb hK hP 1 0 rfl rfl (i := i) (by omega) (by decide) dX2_readText_26 ?_
        refine ct_callV (As := [.int (tx i)]) (rest := []) ⟨hx, hb, hml, hown, hts⟩ (k_R_take_o l D h k tx ln rd wh cm R1 M1 (tx i) hnp1 hdp1) (cwV 1 hts (gV lw_in t_154 t_155 t_156 t_24 t_157) rfl rfl rfl (by decide +kernel) ⟨Nat.le_of_ble_eq_true rfl, Nat.le_of_ble_eq_true rfl⟩) 2 rfl rfl hK hP hD hS hA rfl hl.1 rfl (Nat.le_of_ble_eq_true rfl) dX2_readText_27 ⟨Nat.zero_le _, Nat.zero_le _⟩ (fun H locs hP hD hS => ?_)
        refine W.eq (g2 := F0 m 30 ls [.int ((r_take R1 M1 (tx i)).2.2)]) rfl ?_
        have hP : va_P D vwCl (wD h k tx ln rd wh cm ((r_take R1 M1 (tx i)).1) ((r_take R1 M1 (tx i)).2.1)) H := hP
        have hD : va_D A (wD h k tx ln rd wh cm ((r_take R1 M1 (tx i)).1) ((r_take R1 M1 (tx i)).2.1)) := hD
        have hok := r_take_ok R1 M1 (tx i) hdp1 hnp1
        generalize hT : r_take R1 M1 (tx i) = T3 at hP hD hok ⊢
        obtain ⟨R3, M3, v3⟩ := T3
        have hP : va_P D vwCl (wD h k tx ln rd wh cm R3 M3) H := hP
        have hD : va_D A (wD h k tx ln rd wh cm R3 M3) := hD
        refine W.eq (g2 := F0 m 30 ls [.int v3]) rfl ?_
        refine lv_istore_n (lv' := [(2, .int v3), (1, .int (nI i)), (0, .ref (h 0))]) hx hb dX2_readText_30 rfl hl (by decide) rfl (fun ls hl => ?_)
        refine lv_iload_n hx hb dX2_readText_31 rfl (lv_at hl 0 rfl) ?_
        refine lv_iconst (v := 1) hx hb dX2_readText_32 (by decide) ?_
        refine lv_icmp_ne (tgt := 40) hx hb dX2_readText_33 (by decide) (fun c_33 => ?_) (fun c_33 => ?_)
        · have c_33 : ¬ v3 = 1 := c_33
          refine lv_iload_n hx hb dX2_readText_40 rfl (lv_at hl 0 rfl) ?_
          refine lv_iconst (v := 2) hx hb dX2_readText_41 (by decide) ?_
          refine lv_icmp_ne (tgt := 51) hx hb dX2_readText_42 (by decide) (fun c_42 => ?_) (fun c_42 => ?_)
          · have c_42 : ¬ v3 = 2 := c_42
            refine lv_iinc (v := nI (i + 1)) (lv' := [(1, .int (nI (i + 1))), (2, .int v3), (0, .ref (h 0))]) hx hb dX2_readText_51 hl (k := 1) rfl (nI_1 _) (by decide) rfl (fun ls hl => ?_)
            refine lv_goto (tgt := 9) hx hb dX2_readText_54 (by decide) ?_
            exact ih (i + 1) R3 M3 (by omega) hok.1 hok.2 (by rw [← he, rdL, hT, if_neg c_33, if_neg c_42]) _ _ hP hD hS _ (lv_sub hl [0, 2] rfl)
          · have c_42 : v3 = 2 := c_42
            refine lv_sipush (v := -1000) hx hb dX2_readText_45 (by decide) ?_
            refine lv_iload_n hx hb dX2_readText_48 rfl (lv_at hl 1 rfl) ?_
            refine lv_isub hx hb dX2_readText_49 ?_
            have e_50 : d_text tx ln R M = (R3, M3, ((-1000) - nI i)) := by rw [← he, rdL, hT, if_neg c_33, if_pos c_42]
            exact ct_endi hx hb hr hlocks rfl hP hD hS (by rw [e_50]) (by rw [e_50]) dX2_readText_50
        · have c_33 : v3 = 1 := c_33
          refine lv_iconst (v := -1) hx hb dX2_readText_36 (by decide) ?_
          refine lv_iload_n hx hb dX2_readText_37 rfl (lv_at hl 1 rfl) ?_
          refine lv_isub hx hb dX2_readText_38 ?_
          have e_39 : d_text tx ln R M = (R3, M3, ((-1) - nI i)) := by rw [← he, rdL, hT, if_pos c_33]
          exact ct_endi hx hb hr hlocks rfl hP hD hS (by rw [e_39]) (by rw [e_39]) dX2_readText_39
  refine lv_aload_n hx hb dX2_readText_0 rfl (lv_at hl 0 rfl) ?_
  refine va_get (D := D) (ci := 2) (v := .ref (h 2)) (C := RX2) (T := TX2) (N := 7) hx hb hts (fun w h => lw_in w (inX2 w h)) hown hK hP 0 rfl rfl 2 (by decide) (hts _ (lw_in _ t_114)) (fun _ h9 => h9) rfl dX2_readText_1 ?_
  refine ct_callV (As := []) (rest := []) ⟨hx, hb, hml, hown, hts⟩ (k_R_begin_o l D h k tx ln rd wh cm R M (by omega)) (cwV 0 hts (gV lw_in t_146 t_147 t_148 t_24 t_149) rfl rfl rfl (by decide +kernel) ⟨Nat.le_of_ble_eq_true rfl, Nat.le_of_ble_eq_true rfl⟩) 2 rfl rfl hK hP hD hS hA rfl hl.1 rfl (Nat.le_of_ble_eq_true rfl) dX2_readText_4 ⟨Nat.zero_le _, Nat.zero_le _⟩ (fun H locs hP hD hS => ?_)
  refine W.eq (g2 := F0 m 7 ls []) rfl ?_
  have hP : va_P D vwCl (wD h k tx ln rd wh cm (r_begin R) (m_clear M)) H := hP
  have hD : va_D A (wD h k tx ln rd wh cm (r_begin R) (m_clear M)) := hD
  refine lv_iconst (v := 0) hx hb dX2_readText_7 (by decide) ?_
  refine lv_istore_n (lv' := [(1, .int 0), (0, .ref (h 0))]) hx hb dX2_readText_8 rfl hl (by decide) rfl (fun ls hl => ?_)
  exact loop ln 0 (r_begin R) (m_clear M) (by omega) (r_begin_ok R) (m_clear_ok M) rfl _ _ hP hD hS _ (lv_sub hl [0, 1] rfl)

set_option maxHeartbeats 4000000 in
set_option maxRecDepth 100000 in
theorem k_D_read (l : Launch) (D : va_G) (h : Nat → Nat) (k : Nat → ClassId) (tx : Nat → Int32) (ln : Nat) (rd : Int64) (wh : Bool) (cm : Nat) (R : RS) (M : MS)  (hln : ln ≤ 300) (hnp : M.2.2.1 ≤ 60) :
    Ct l yX2_read wsX2_read (rmN 6) D vwCl (tyD k) [.ref (h 0)] (wD h k tx ln rd wh cm R M) (wD h k tx 0 (d_read tx ln R M).2.1.2.2.2.1 (d_read tx ln R M).2.1.2.2.2.2.2 0 (d_read tx ln R M).1 (d_read tx ln R M).2.1) (some (.int ((d_read tx ln R M).2.2))) := by
  refine Ct.of (cc := cX2_read) (maxL := 2) (ret := (some .int)) (lv := [(0, .ref (h 0))]) (by decide) rfl (Nat.le_of_ble_eq_true rfl) rfl ?_
  intro p e s m below meth c A ls hx hb hr hml hts hown hlocks hK hP hD hS hA hl
  refine lv_aload_n hx hb dX2_read_0 rfl (lv_at hl 0 rfl) ?_
  refine ct_callV (As := []) (rest := []) ⟨hx, hb, hml, hown, hts⟩ (k_D_readText l D h k tx ln rd wh cm R M hln hnp) (cwV 0 hts (gV lw_in t_142 t_144 t_0 t_23 t_145) rfl rfl rfl (by decide +kernel) ⟨Nat.le_of_ble_eq_true rfl, Nat.le_of_ble_eq_true rfl⟩) 0 rfl rfl hK hP hD hS hA rfl hl.1 rfl (Nat.le_of_ble_eq_true rfl) dX2_read_1 ⟨Nat.zero_le _, Nat.zero_le _⟩ (fun H locs hP hD hS => ?_)
  refine W.eq (g2 := F0 m 4 ls [.int ((d_text tx ln R M).2.2)]) rfl ?_
  have hP : va_P D vwCl (wD h k tx ln rd wh cm ((d_text tx ln R M).1) ((d_text tx ln R M).2.1)) H := hP
  have hD : va_D A (wD h k tx ln rd wh cm ((d_text tx ln R M).1) ((d_text tx ln R M).2.1)) := hD
  generalize hT : d_text tx ln R M = T3 at hP hD ⊢
  obtain ⟨R3, M3, v3⟩ := T3
  have hP : va_P D vwCl (wD h k tx ln rd wh cm R3 M3) H := hP
  have hD : va_D A (wD h k tx ln rd wh cm R3 M3) := hD
  refine W.eq (g2 := F0 m 4 ls [.int v3]) rfl ?_
  refine lv_istore_n (lv' := [(1, .int v3), (0, .ref (h 0))]) hx hb dX2_read_4 rfl hl (by decide) rfl (fun ls hl => ?_)
  refine lv_iload_n hx hb dX2_read_5 rfl (lv_at hl 0 rfl) ?_
  refine lv_if_ge (tgt := 16) hx hb dX2_read_6 (by decide) (fun c_6 => ?_) (fun c_6 => ?_)
  · have c_6 : 0 ≤ v3 := c_6
    refine lv_aload_n hx hb dX2_read_16 rfl (lv_at hl 1 rfl) ?_
    refine lv_iconst (v := 0) hx hb dX2_read_17 (by decide) ?_
    refine lv_eqi (show 0 = nI 0 from rfl) ?_
    refine va_put (D := D) (ci := 2) (v := .int (nI 0)) (ty := .int) (C := RX2) (T := TX2) (N := 7) hx hb hts (fun w h => lw_in w (inX2 w h)) tyX2 tyX2_ok nmX2 hown hK hP hD hS 0 rfl rfl 1 (by decide) (hts _ (lw_in _ t_113)) (fun _ h9 => h9) rfl (by decide +kernel) rfl rfl (Nat.le_of_ble_eq_true rfl) dX2_read_18 (fun H locs hP hD hS => ?_)
    have hP : va_P D vwCl (wD h k tx 0 rd wh cm R3 M3) H := hP
    have hD : va_D A (wD h k tx 0 rd wh cm R3 M3) := hD
    refine lv_aload_n hx hb dX2_read_21 rfl (lv_at hl 1 rfl) ?_
    refine ct_callV (As := []) (rest := []) ⟨hx, hb, hml, hown, hts⟩ (k_D_startRow_o l D h k tx 0 rd wh cm R3 M3) (cwV 0 hts (gV lw_in t_210 t_212 t_8 t_23 t_213) rfl rfl rfl (by decide +kernel) ⟨Nat.le_of_ble_eq_true rfl, Nat.le_of_ble_eq_true rfl⟩) 0 rfl rfl hK hP hD hS hA rfl hl.1 rfl (Nat.le_of_ble_eq_true rfl) dX2_read_22 ⟨Nat.zero_le _, Nat.zero_le _⟩ (fun H locs hP hD hS => ?_)
    refine W.eq (g2 := F0 m 25 ls []) rfl ?_
    have hP : va_P D vwCl (wD h k tx 0 M3.2.2.2.1 M3.2.2.2.2.2 0 R3 M3) H := hP
    have hD : va_D A (wD h k tx 0 M3.2.2.2.1 M3.2.2.2.2.2 0 R3 M3) := hD
    refine lv_iload_n hx hb dX2_read_25 rfl (lv_at hl 0 rfl) ?_
    have e_26 : d_read tx ln R M = (R3, M3, v3) := by unfold d_read; rw [hT, if_pos c_6]
    exact ct_endi hx hb hr hlocks rfl hP hD hS (by rw [e_26]) (by rw [e_26]) dX2_read_26
  · have c_6 : ¬ 0 ≤ v3 := c_6
    refine lv_aload_n hx hb dX2_read_9 rfl (lv_at hl 1 rfl) ?_
    refine va_get (D := D) (ci := 2) (v := .ref (h 7)) (C := RX2) (T := TX2) (N := 7) hx hb hts (fun w h => lw_in w (inX2 w h)) hown hK hP 0 rfl rfl 3 (by decide) (hts _ (lw_in _ t_115)) (fun _ h9 => h9) rfl dX2_read_10 ?_
    refine ct_callV (As := []) (rest := []) ⟨hx, hb, hml, hown, hts⟩ (k_M_clear_o l D h k tx ln rd wh cm R3 M3) (cwV 0 hts (gV lw_in t_209 t_151 t_152 t_25 t_153) rfl rfl rfl (by decide +kernel) ⟨Nat.le_of_ble_eq_true rfl, Nat.le_of_ble_eq_true rfl⟩) 7 rfl rfl hK hP hD hS hA rfl hl.1 rfl (Nat.le_of_ble_eq_true rfl) dX2_read_13 ⟨Nat.zero_le _, Nat.zero_le _⟩ (fun H locs hP hD hS => ?_)
    refine W.eq (g2 := F0 m 16 ls []) rfl ?_
    have hP : va_P D vwCl (wD h k tx ln rd wh cm R3 (m_clear M3)) H := hP
    have hD : va_D A (wD h k tx ln rd wh cm R3 (m_clear M3)) := hD
    refine lv_aload_n hx hb dX2_read_16 rfl (lv_at hl 1 rfl) ?_
    refine lv_iconst (v := 0) hx hb dX2_read_17 (by decide) ?_
    refine lv_eqi (show 0 = nI 0 from rfl) ?_
    refine va_put (D := D) (ci := 2) (v := .int (nI 0)) (ty := .int) (C := RX2) (T := TX2) (N := 7) hx hb hts (fun w h => lw_in w (inX2 w h)) tyX2 tyX2_ok nmX2 hown hK hP hD hS 0 rfl rfl 1 (by decide) (hts _ (lw_in _ t_113)) (fun _ h9 => h9) rfl (by decide +kernel) rfl rfl (Nat.le_of_ble_eq_true rfl) dX2_read_18 (fun H locs hP hD hS => ?_)
    have hP : va_P D vwCl (wD h k tx 0 rd wh cm R3 (m_clear M3)) H := hP
    have hD : va_D A (wD h k tx 0 rd wh cm R3 (m_clear M3)) := hD
    refine lv_aload_n hx hb dX2_read_21 rfl (lv_at hl 1 rfl) ?_
    refine ct_callV (As := []) (rest := []) ⟨hx, hb, hml, hown, hts⟩ (k_D_startRow_o l D h k tx 0 rd wh cm R3 (m_clear M3)) (cwV 0 hts (gV lw_in t_210 t_212 t_8 t_23 t_213) rfl rfl rfl (by decide +kernel) ⟨Nat.le_of_ble_eq_true rfl, Nat.le_of_ble_eq_true rfl⟩) 0 rfl rfl hK hP hD hS hA rfl hl.1 rfl (Nat.le_of_ble_eq_true rfl) dX2_read_22 ⟨Nat.zero_le _, Nat.zero_le _⟩ (fun H locs hP hD hS => ?_)
    refine W.eq (g2 := F0 m 25 ls []) rfl ?_
    have hP : va_P D vwCl (wD h k tx 0 ((m_clear M3).2.2.2.1) ((m_clear M3).2.2.2.2.2) 0 R3 (m_clear M3)) H := hP
    have hD : va_D A (wD h k tx 0 ((m_clear M3).2.2.2.1) ((m_clear M3).2.2.2.2.2) 0 R3 (m_clear M3)) := hD
    refine lv_iload_n hx hb dX2_read_25 rfl (lv_at hl 0 rfl) ?_
    have e_26 : d_read tx ln R M = (R3, m_clear M3, v3) := by unfold d_read; rw [hT, if_neg c_6]
    exact ct_endi hx hb hr hlocks rfl hP hD hS (by rw [e_26]) (by rw [e_26]) dX2_read_26
end
section
/-! The constructors of the class (laid by program) -/
set_option maxHeartbeats 4000000 in
set_option maxRecDepth 100000 in
theorem k_X0_init (l : Launch) (D : va_G) (h0 : Nat) : CtN l yX0_init wsX0_init { frames := 1, cells := 2, slots := 120, locals := 40 } D vwCl [.ref h0] [(h0, .inr (0, [.null, .null, .int 0, .long 0, .long 0, .int 0]))] 2 120
    (fun w1 t1 => ∃ (q7 q15 : Nat) (ca7 ca15 : ClassId), w1 = [(h0, .inr (0, [.ref q7, .ref q15, .int 0, .long 0, .long 0, .int 0])), (q7, .inl (ca7, 60, .inl (fun _ => 0))), (q15, .inl (ca15, 60, .inr (.inl (fun _ => 0))))] ∧ t1 = [(ca7, .int), (ca15, .long)]) := by
  refine CtN.of (cc := cX0_init) (maxL := 1) (lv := [(0, .ref h0)]) (by decide) rfl (Nat.le_of_ble_eq_true rfl) rfl ?_
  intro p e s m below meth c A ls hx hb hr hml hts hown hlocks hin hK hP hD hS hA hl
  refine lv_aload_n hx hb dX0_init_0 rfl (lv_at hl 0 rfl) ?_
  refine W.objInit hx hb hown (hts _ (lw_in _ t_46)) (hts _ (lw_in _ t_33)) (hts _ (lw_in _ t_34)) rfl (by rw [hml]; exact hl.1) rfl dX0_init_1 (Nat.le_of_ble_eq_true rfl) (Nat.le_of_ble_eq_true rfl) ?_
  refine W.eq (g2 := F0 m 4 ls []) rfl ?_
  refine lv_aload_n hx hb dX0_init_4 rfl (lv_at hl 0 rfl) ?_
  refine lv_bipush (v := 60) hx hb dX0_init_5 (by decide) ?_
  refine va_newa (D := D) (atype := .int) (a0 := (60, .inl (fun _ => 0))) (N' := 60) (ty := .int) hx hb (hts _ (lw_in _ t_77)) rfl hK hP hD hS hA (fun cA => rfl) (by decide) (by decide) (by decide) (Nat.le_of_ble_eq_true rfl) (Nat.le_of_ble_eq_true rfl) dX0_init_7 (fun q7 ca7 H hK hP hD hS => ?_)
  have hP : va_P D vwCl [(h0, .inr (0, [.null, .null, .int 0, .long 0, .long 0, .int 0])), (q7, .inl (ca7, 60, .inl (fun _ => 0)))] H := hP
  have hD : va_D A [(h0, .inr (0, [.null, .null, .int 0, .long 0, .long 0, .int 0])), (q7, .inl (ca7, 60, .inl (fun _ => 0)))] := hD
  have hK : va_K D vwCl [(ca7, .int)] s := hK
  refine W.widen (k := 1) (n := 60) (by decide) (by decide) ?_
  refine va_putF (D := D) (ci := 0) (v := .ref q7) (ty := .array .int) (C := RX0) (T := TX0) (N := 6) hx hb hts (fun w h => lw_in w (inX0 w h)) tyX0 tyX0_ok nmX0 hown hK hP hD hS 0 rfl rfl 0 (by decide) (hts _ (lw_in _ t_47)) (fun _ h9 => h9) rfl hin rfl (by decide +kernel) rfl rfl (Nat.le_of_ble_eq_true rfl) dX0_init_9 (fun H locs hP hD hS => ?_)
  have hP : va_P D vwCl [(h0, .inr (0, [.ref q7, .null, .int 0, .long 0, .long 0, .int 0])), (q7, .inl (ca7, 60, .inl (fun _ => 0)))] H := hP
  have hD : va_D A [(h0, .inr (0, [.ref q7, .null, .int 0, .long 0, .long 0, .int 0])), (q7, .inl (ca7, 60, .inl (fun _ => 0)))] := hD
  have hK : va_K D vwCl [(ca7, .int)] s := hK
  refine lv_aload_n hx hb dX0_init_12 rfl (lv_at hl 0 rfl) ?_
  refine lv_bipush (v := 60) hx hb dX0_init_13 (by decide) ?_
  refine va_newa (D := D) (atype := .long) (a0 := (60, .inr (.inl (fun _ => 0)))) (N' := 60) (ty := .long) hx hb (hts _ (lw_in _ t_78)) rfl hK hP hD hS hA (fun cA => rfl) (by decide) (by decide) (by decide) (Nat.le_of_ble_eq_true rfl) (Nat.le_of_ble_eq_true rfl) dX0_init_15 (fun q15 ca15 H hK hP hD hS => ?_)
  have hP : va_P D vwCl [(h0, .inr (0, [.ref q7, .null, .int 0, .long 0, .long 0, .int 0])), (q7, .inl (ca7, 60, .inl (fun _ => 0))), (q15, .inl (ca15, 60, .inr (.inl (fun _ => 0))))] H := hP
  have hD : va_D A [(h0, .inr (0, [.ref q7, .null, .int 0, .long 0, .long 0, .int 0])), (q7, .inl (ca7, 60, .inl (fun _ => 0))), (q15, .inl (ca15, 60, .inr (.inl (fun _ => 0))))] := hD
  have hK : va_K D vwCl [(ca7, .int), (ca15, .long)] s := hK
  refine W.widen (k := 2) (n := 120) (by decide) (by decide) ?_
  refine va_putF (D := D) (ci := 0) (v := .ref q15) (ty := .array .long) (C := RX0) (T := TX0) (N := 6) hx hb hts (fun w h => lw_in w (inX0 w h)) tyX0 tyX0_ok nmX0 hown hK hP hD hS 0 rfl rfl 1 (by decide) (hts _ (lw_in _ t_49)) (fun _ h9 => h9) rfl hin rfl (by decide +kernel) rfl rfl (Nat.le_of_ble_eq_true rfl) dX0_init_17 (fun H locs hP hD hS => ?_)
  have hP : va_P D vwCl [(h0, .inr (0, [.ref q7, .ref q15, .int 0, .long 0, .long 0, .int 0])), (q7, .inl (ca7, 60, .inl (fun _ => 0))), (q15, .inl (ca15, 60, .inr (.inl (fun _ => 0))))] H := hP
  have hD : va_D A [(h0, .inr (0, [.ref q7, .ref q15, .int 0, .long 0, .long 0, .int 0])), (q7, .inl (ca7, 60, .inl (fun _ => 0))), (q15, .inl (ca15, 60, .inr (.inl (fun _ => 0))))] := hD
  have hK : va_K D vwCl [(ca7, .int), (ca15, .long)] s := hK
  exact ctn_end hx hb hr hlocks hK hP hD hS ⟨q7, q15, ca7, ca15, rfl, rfl⟩ dX0_init_20
set_option maxHeartbeats 4000000 in
set_option maxRecDepth 100000 in
theorem k_X1_init (l : Launch) (D : va_G) (h0 : Nat) : CtN l yX1_init wsX1_init { frames := 2, cells := 7, slots := 174, locals := 80 } D vwCl [.ref h0] [(h0, .inr (1, [.null, .null, .null, .null, .null, .int 0, .int 0, .long 0, .long 0, .int 0]))] 7 174
    (fun w1 t1 => ∃ (q5 z9_q7 z9_q15 q18 q26 q34 q42 : Nat) (z9_ca7 z9_ca15 ca18 ca26 ca34 ca42 : ClassId), w1 = [(h0, .inr (1, [.ref q5, .ref q18, .ref q26, .ref q34, .ref q42, .int 0, .int 0, .long 0, .long 0, .int 0])), (q5, .inr (0, [.ref z9_q7, .ref z9_q15, .int 0, .long 0, .long 0, .int 0])), (z9_q7, .inl (z9_ca7, 60, .inl (fun _ => 0))), (z9_q15, .inl (z9_ca15, 60, .inr (.inl (fun _ => 0)))), (q18, .inl (ca18, 12, .inr (.inl (fun _ => 0)))), (q26, .inl (ca26, 12, .inr (.inl (fun _ => 0)))), (q34, .inl (ca34, 12, .inl (fun _ => 0))), (q42, .inl (ca42, 12, .inl (fun _ => 0)))] ∧ t1 = [(z9_ca7, .int), (z9_ca15, .long), (ca18, .long), (ca26, .long), (ca34, .boolean), (ca42, .int)]) := by
  refine CtN.of (cc := cX1_init) (maxL := 1) (lv := [(0, .ref h0)]) (by decide) rfl (Nat.le_of_ble_eq_true rfl) rfl ?_
  intro p e s m below meth c A ls hx hb hr hml hts hown hlocks hin hK hP hD hS hA hl
  refine lv_aload_n hx hb dX1_init_0 rfl (lv_at hl 0 rfl) ?_
  refine W.objInit hx hb hown (hts _ (lw_in _ t_40)) (hts _ (lw_in _ t_33)) (hts _ (lw_in _ t_34)) rfl (by rw [hml]; exact hl.1) rfl dX1_init_1 (Nat.le_of_ble_eq_true rfl) (Nat.le_of_ble_eq_true rfl) ?_
  refine W.eq (g2 := F0 m 4 ls []) rfl ?_
  refine lv_aload_n hx hb dX1_init_4 rfl (lv_at hl 0 rfl) ?_
  refine va_new (D := D) (ci := 0) (fs := [.null, .null, .int 0, .long 0, .long 0, .int 0]) (C := RX0) (T := TX0) (N := 6) hx hb hts (fun w h => lw_in w (inX0 w h)) tyX0 tyX0_ok hown (hts _ (lw_in _ t_41)) (hts _ (lw_in _ t_42)) (hts _ (lw_in _ t_25)) hK hP hD hS hA rfl (fun j hj => by rcases (show j = 0 ∨ j = 1 ∨ j = 2 ∨ j = 3 ∨ j = 4 ∨ j = 5 by omega) with rfl | rfl | rfl | rfl | rfl | rfl <;> rfl) (Nat.le_of_ble_eq_true rfl) (Nat.le_of_ble_eq_true rfl) dX1_init_5 (fun q5 H hP hD hS => ?_)
  have hP : va_P D vwCl [(h0, .inr (1, [.null, .null, .null, .null, .null, .int 0, .int 0, .long 0, .long 0, .int 0])), (q5, .inr (0, [.null, .null, .int 0, .long 0, .long 0, .int 0]))] H := hP
  have hD : va_D A [(h0, .inr (1, [.null, .null, .null, .null, .null, .int 0, .int 0, .long 0, .long 0, .int 0])), (q5, .inr (0, [.null, .null, .int 0, .long 0, .long 0, .int 0]))] := hD
  have hK : va_K D vwCl [] s := hK
  refine W.widen (k := 1) (n := 6) (by decide) (by decide) ?_
  refine lv_dup hx hb dX1_init_8 rfl ?_
  refine ctn_call (As := []) (rest := [.ref q5, .ref h0]) (wr := [(h0, .inr (1, [.null, .null, .null, .null, .null, .int 0, .int 0, .long 0, .long 0, .int 0]))]) ⟨hx, hb, hml, hown, hts⟩ (k_X0_init l D q5) (cwI 0 hts (gW lw_in t_45) rfl rfl rfl (hts _ (lw_in _ t_25)) (hts _ (lw_in _ t_43)) (hts _ (lw_in _ t_44)) rfl (by decide +kernel) ⟨Nat.le_of_ble_eq_true rfl, Nat.le_of_ble_eq_true rfl⟩) hK hP hD hS hA [1] [0] rfl rfl (by decide) (by decide) (by decide) rfl hl.1 rfl (Nat.le_of_ble_eq_true rfl) dX1_init_9 ⟨Nat.le_of_ble_eq_true rfl, Nat.le_of_ble_eq_true rfl⟩ (fun H locs w1 t1 hpo hK hP hD hS => ?_)
  obtain ⟨z9_q7, z9_q15, z9_ca7, z9_ca15, rfl, rfl⟩ := hpo
  have hP : va_P D vwCl [(h0, .inr (1, [.null, .null, .null, .null, .null, .int 0, .int 0, .long 0, .long 0, .int 0])), (q5, .inr (0, [.ref z9_q7, .ref z9_q15, .int 0, .long 0, .long 0, .int 0])), (z9_q7, .inl (z9_ca7, 60, .inl (fun _ => 0))), (z9_q15, .inl (z9_ca15, 60, .inr (.inl (fun _ => 0))))] H := hP
  have hD : va_D A [(h0, .inr (1, [.null, .null, .null, .null, .null, .int 0, .int 0, .long 0, .long 0, .int 0])), (q5, .inr (0, [.ref z9_q7, .ref z9_q15, .int 0, .long 0, .long 0, .int 0])), (z9_q7, .inl (z9_ca7, 60, .inl (fun _ => 0))), (z9_q15, .inl (z9_ca15, 60, .inr (.inl (fun _ => 0))))] := hD
  have hK : va_K D vwCl [(z9_ca7, .int), (z9_ca15, .long)] s := hK
  refine W.widen (k := 3) (n := 126) (by decide) (by decide) ?_
  refine va_putF (D := D) (ci := 1) (v := .ref q5) (ty := .object "ModelDesk$Model") (C := RX1) (T := TX1) (N := 10) hx hb hts (fun w h => lw_in w (inX1 w h)) tyX1 tyX1_ok nmX1 hown hK hP hD hS 0 rfl rfl 0 (by decide) (hts _ (lw_in _ t_79)) (fun _ h9 => h9) rfl hin rfl (by decide +kernel) rfl rfl (Nat.le_of_ble_eq_true rfl) dX1_init_12 (fun H locs hP hD hS => ?_)
  have hP : va_P D vwCl [(h0, .inr (1, [.ref q5, .null, .null, .null, .null, .int 0, .int 0, .long 0, .long 0, .int 0])), (q5, .inr (0, [.ref z9_q7, .ref z9_q15, .int 0, .long 0, .long 0, .int 0])), (z9_q7, .inl (z9_ca7, 60, .inl (fun _ => 0))), (z9_q15, .inl (z9_ca15, 60, .inr (.inl (fun _ => 0))))] H := hP
  have hD : va_D A [(h0, .inr (1, [.ref q5, .null, .null, .null, .null, .int 0, .int 0, .long 0, .long 0, .int 0])), (q5, .inr (0, [.ref z9_q7, .ref z9_q15, .int 0, .long 0, .long 0, .int 0])), (z9_q7, .inl (z9_ca7, 60, .inl (fun _ => 0))), (z9_q15, .inl (z9_ca15, 60, .inr (.inl (fun _ => 0))))] := hD
  have hK : va_K D vwCl [(z9_ca7, .int), (z9_ca15, .long)] s := hK
  refine lv_aload_n hx hb dX1_init_15 rfl (lv_at hl 0 rfl) ?_
  refine lv_bipush (v := 12) hx hb dX1_init_16 (by decide) ?_
  refine va_newa (D := D) (atype := .long) (a0 := (12, .inr (.inl (fun _ => 0)))) (N' := 12) (ty := .long) hx hb (hts _ (lw_in _ t_78)) rfl hK hP hD hS hA (fun cA => rfl) (by decide) (by decide) (by decide) (Nat.le_of_ble_eq_true rfl) (Nat.le_of_ble_eq_true rfl) dX1_init_18 (fun q18 ca18 H hK hP hD hS => ?_)
  have hP : va_P D vwCl [(h0, .inr (1, [.ref q5, .null, .null, .null, .null, .int 0, .int 0, .long 0, .long 0, .int 0])), (q5, .inr (0, [.ref z9_q7, .ref z9_q15, .int 0, .long 0, .long 0, .int 0])), (z9_q7, .inl (z9_ca7, 60, .inl (fun _ => 0))), (z9_q15, .inl (z9_ca15, 60, .inr (.inl (fun _ => 0)))), (q18, .inl (ca18, 12, .inr (.inl (fun _ => 0))))] H := hP
  have hD : va_D A [(h0, .inr (1, [.ref q5, .null, .null, .null, .null, .int 0, .int 0, .long 0, .long 0, .int 0])), (q5, .inr (0, [.ref z9_q7, .ref z9_q15, .int 0, .long 0, .long 0, .int 0])), (z9_q7, .inl (z9_ca7, 60, .inl (fun _ => 0))), (z9_q15, .inl (z9_ca15, 60, .inr (.inl (fun _ => 0)))), (q18, .inl (ca18, 12, .inr (.inl (fun _ => 0))))] := hD
  have hK : va_K D vwCl [(z9_ca7, .int), (z9_ca15, .long), (ca18, .long)] s := hK
  refine W.widen (k := 4) (n := 138) (by decide) (by decide) ?_
  refine va_putF (D := D) (ci := 1) (v := .ref q18) (ty := .array .long) (C := RX1) (T := TX1) (N := 10) hx hb hts (fun w h => lw_in w (inX1 w h)) tyX1 tyX1_ok nmX1 hown hK hP hD hS 0 rfl rfl 1 (by decide) (hts _ (lw_in _ t_81)) (fun _ h9 => h9) rfl hin rfl (by decide +kernel) rfl rfl (Nat.le_of_ble_eq_true rfl) dX1_init_20 (fun H locs hP hD hS => ?_)
  have hP : va_P D vwCl [(h0, .inr (1, [.ref q5, .ref q18, .null, .null, .null, .int 0, .int 0, .long 0, .long 0, .int 0])), (q5, .inr (0, [.ref z9_q7, .ref z9_q15, .int 0, .long 0, .long 0, .int 0])), (z9_q7, .inl (z9_ca7, 60, .inl (fun _ => 0))), (z9_q15, .inl (z9_ca15, 60, .inr (.inl (fun _ => 0)))), (q18, .inl (ca18, 12, .inr (.inl (fun _ => 0))))] H := hP
  have hD : va_D A [(h0, .inr (1, [.ref q5, .ref q18, .null, .null, .null, .int 0, .int 0, .long 0, .long 0, .int 0])), (q5, .inr (0, [.ref z9_q7, .ref z9_q15, .int 0, .long 0, .long 0, .int 0])), (z9_q7, .inl (z9_ca7, 60, .inl (fun _ => 0))), (z9_q15, .inl (z9_ca15, 60, .inr (.inl (fun _ => 0)))), (q18, .inl (ca18, 12, .inr (.inl (fun _ => 0))))] := hD
  have hK : va_K D vwCl [(z9_ca7, .int), (z9_ca15, .long), (ca18, .long)] s := hK
  refine lv_aload_n hx hb dX1_init_23 rfl (lv_at hl 0 rfl) ?_
  refine lv_bipush (v := 12) hx hb dX1_init_24 (by decide) ?_
  refine va_newa (D := D) (atype := .long) (a0 := (12, .inr (.inl (fun _ => 0)))) (N' := 12) (ty := .long) hx hb (hts _ (lw_in _ t_78)) rfl hK hP hD hS hA (fun cA => rfl) (by decide) (by decide) (by decide) (Nat.le_of_ble_eq_true rfl) (Nat.le_of_ble_eq_true rfl) dX1_init_26 (fun q26 ca26 H hK hP hD hS => ?_)
  have hP : va_P D vwCl [(h0, .inr (1, [.ref q5, .ref q18, .null, .null, .null, .int 0, .int 0, .long 0, .long 0, .int 0])), (q5, .inr (0, [.ref z9_q7, .ref z9_q15, .int 0, .long 0, .long 0, .int 0])), (z9_q7, .inl (z9_ca7, 60, .inl (fun _ => 0))), (z9_q15, .inl (z9_ca15, 60, .inr (.inl (fun _ => 0)))), (q18, .inl (ca18, 12, .inr (.inl (fun _ => 0)))), (q26, .inl (ca26, 12, .inr (.inl (fun _ => 0))))] H := hP
  have hD : va_D A [(h0, .inr (1, [.ref q5, .ref q18, .null, .null, .null, .int 0, .int 0, .long 0, .long 0, .int 0])), (q5, .inr (0, [.ref z9_q7, .ref z9_q15, .int 0, .long 0, .long 0, .int 0])), (z9_q7, .inl (z9_ca7, 60, .inl (fun _ => 0))), (z9_q15, .inl (z9_ca15, 60, .inr (.inl (fun _ => 0)))), (q18, .inl (ca18, 12, .inr (.inl (fun _ => 0)))), (q26, .inl (ca26, 12, .inr (.inl (fun _ => 0))))] := hD
  have hK : va_K D vwCl [(z9_ca7, .int), (z9_ca15, .long), (ca18, .long), (ca26, .long)] s := hK
  refine W.widen (k := 5) (n := 150) (by decide) (by decide) ?_
  refine va_putF (D := D) (ci := 1) (v := .ref q26) (ty := .array .long) (C := RX1) (T := TX1) (N := 10) hx hb hts (fun w h => lw_in w (inX1 w h)) tyX1 tyX1_ok nmX1 hown hK hP hD hS 0 rfl rfl 2 (by decide) (hts _ (lw_in _ t_82)) (fun _ h9 => h9) rfl hin rfl (by decide +kernel) rfl rfl (Nat.le_of_ble_eq_true rfl) dX1_init_28 (fun H locs hP hD hS => ?_)
  have hP : va_P D vwCl [(h0, .inr (1, [.ref q5, .ref q18, .ref q26, .null, .null, .int 0, .int 0, .long 0, .long 0, .int 0])), (q5, .inr (0, [.ref z9_q7, .ref z9_q15, .int 0, .long 0, .long 0, .int 0])), (z9_q7, .inl (z9_ca7, 60, .inl (fun _ => 0))), (z9_q15, .inl (z9_ca15, 60, .inr (.inl (fun _ => 0)))), (q18, .inl (ca18, 12, .inr (.inl (fun _ => 0)))), (q26, .inl (ca26, 12, .inr (.inl (fun _ => 0))))] H := hP
  have hD : va_D A [(h0, .inr (1, [.ref q5, .ref q18, .ref q26, .null, .null, .int 0, .int 0, .long 0, .long 0, .int 0])), (q5, .inr (0, [.ref z9_q7, .ref z9_q15, .int 0, .long 0, .long 0, .int 0])), (z9_q7, .inl (z9_ca7, 60, .inl (fun _ => 0))), (z9_q15, .inl (z9_ca15, 60, .inr (.inl (fun _ => 0)))), (q18, .inl (ca18, 12, .inr (.inl (fun _ => 0)))), (q26, .inl (ca26, 12, .inr (.inl (fun _ => 0))))] := hD
  have hK : va_K D vwCl [(z9_ca7, .int), (z9_ca15, .long), (ca18, .long), (ca26, .long)] s := hK
  refine lv_aload_n hx hb dX1_init_31 rfl (lv_at hl 0 rfl) ?_
  refine lv_bipush (v := 12) hx hb dX1_init_32 (by decide) ?_
  refine va_newa (D := D) (atype := .boolean) (a0 := (12, .inl (fun _ => 0))) (N' := 12) (ty := .boolean) hx hb (hts _ (lw_in _ t_111)) rfl hK hP hD hS hA (fun cA => rfl) (by decide) (by decide) (by decide) (Nat.le_of_ble_eq_true rfl) (Nat.le_of_ble_eq_true rfl) dX1_init_34 (fun q34 ca34 H hK hP hD hS => ?_)
  have hP : va_P D vwCl [(h0, .inr (1, [.ref q5, .ref q18, .ref q26, .null, .null, .int 0, .int 0, .long 0, .long 0, .int 0])), (q5, .inr (0, [.ref z9_q7, .ref z9_q15, .int 0, .long 0, .long 0, .int 0])), (z9_q7, .inl (z9_ca7, 60, .inl (fun _ => 0))), (z9_q15, .inl (z9_ca15, 60, .inr (.inl (fun _ => 0)))), (q18, .inl (ca18, 12, .inr (.inl (fun _ => 0)))), (q26, .inl (ca26, 12, .inr (.inl (fun _ => 0)))), (q34, .inl (ca34, 12, .inl (fun _ => 0)))] H := hP
  have hD : va_D A [(h0, .inr (1, [.ref q5, .ref q18, .ref q26, .null, .null, .int 0, .int 0, .long 0, .long 0, .int 0])), (q5, .inr (0, [.ref z9_q7, .ref z9_q15, .int 0, .long 0, .long 0, .int 0])), (z9_q7, .inl (z9_ca7, 60, .inl (fun _ => 0))), (z9_q15, .inl (z9_ca15, 60, .inr (.inl (fun _ => 0)))), (q18, .inl (ca18, 12, .inr (.inl (fun _ => 0)))), (q26, .inl (ca26, 12, .inr (.inl (fun _ => 0)))), (q34, .inl (ca34, 12, .inl (fun _ => 0)))] := hD
  have hK : va_K D vwCl [(z9_ca7, .int), (z9_ca15, .long), (ca18, .long), (ca26, .long), (ca34, .boolean)] s := hK
  refine W.widen (k := 6) (n := 162) (by decide) (by decide) ?_
  refine va_putF (D := D) (ci := 1) (v := .ref q34) (ty := .array .boolean) (C := RX1) (T := TX1) (N := 10) hx hb hts (fun w h => lw_in w (inX1 w h)) tyX1 tyX1_ok nmX1 hown hK hP hD hS 0 rfl rfl 3 (by decide) (hts _ (lw_in _ t_83)) (fun _ h9 => h9) rfl hin rfl (by decide +kernel) rfl rfl (Nat.le_of_ble_eq_true rfl) dX1_init_36 (fun H locs hP hD hS => ?_)
  have hP : va_P D vwCl [(h0, .inr (1, [.ref q5, .ref q18, .ref q26, .ref q34, .null, .int 0, .int 0, .long 0, .long 0, .int 0])), (q5, .inr (0, [.ref z9_q7, .ref z9_q15, .int 0, .long 0, .long 0, .int 0])), (z9_q7, .inl (z9_ca7, 60, .inl (fun _ => 0))), (z9_q15, .inl (z9_ca15, 60, .inr (.inl (fun _ => 0)))), (q18, .inl (ca18, 12, .inr (.inl (fun _ => 0)))), (q26, .inl (ca26, 12, .inr (.inl (fun _ => 0)))), (q34, .inl (ca34, 12, .inl (fun _ => 0)))] H := hP
  have hD : va_D A [(h0, .inr (1, [.ref q5, .ref q18, .ref q26, .ref q34, .null, .int 0, .int 0, .long 0, .long 0, .int 0])), (q5, .inr (0, [.ref z9_q7, .ref z9_q15, .int 0, .long 0, .long 0, .int 0])), (z9_q7, .inl (z9_ca7, 60, .inl (fun _ => 0))), (z9_q15, .inl (z9_ca15, 60, .inr (.inl (fun _ => 0)))), (q18, .inl (ca18, 12, .inr (.inl (fun _ => 0)))), (q26, .inl (ca26, 12, .inr (.inl (fun _ => 0)))), (q34, .inl (ca34, 12, .inl (fun _ => 0)))] := hD
  have hK : va_K D vwCl [(z9_ca7, .int), (z9_ca15, .long), (ca18, .long), (ca26, .long), (ca34, .boolean)] s := hK
  refine lv_aload_n hx hb dX1_init_39 rfl (lv_at hl 0 rfl) ?_
  refine lv_bipush (v := 12) hx hb dX1_init_40 (by decide) ?_
  refine va_newa (D := D) (atype := .int) (a0 := (12, .inl (fun _ => 0))) (N' := 12) (ty := .int) hx hb (hts _ (lw_in _ t_77)) rfl hK hP hD hS hA (fun cA => rfl) (by decide) (by decide) (by decide) (Nat.le_of_ble_eq_true rfl) (Nat.le_of_ble_eq_true rfl) dX1_init_42 (fun q42 ca42 H hK hP hD hS => ?_)
  have hP : va_P D vwCl [(h0, .inr (1, [.ref q5, .ref q18, .ref q26, .ref q34, .null, .int 0, .int 0, .long 0, .long 0, .int 0])), (q5, .inr (0, [.ref z9_q7, .ref z9_q15, .int 0, .long 0, .long 0, .int 0])), (z9_q7, .inl (z9_ca7, 60, .inl (fun _ => 0))), (z9_q15, .inl (z9_ca15, 60, .inr (.inl (fun _ => 0)))), (q18, .inl (ca18, 12, .inr (.inl (fun _ => 0)))), (q26, .inl (ca26, 12, .inr (.inl (fun _ => 0)))), (q34, .inl (ca34, 12, .inl (fun _ => 0))), (q42, .inl (ca42, 12, .inl (fun _ => 0)))] H := hP
  have hD : va_D A [(h0, .inr (1, [.ref q5, .ref q18, .ref q26, .ref q34, .null, .int 0, .int 0, .long 0, .long 0, .int 0])), (q5, .inr (0, [.ref z9_q7, .ref z9_q15, .int 0, .long 0, .long 0, .int 0])), (z9_q7, .inl (z9_ca7, 60, .inl (fun _ => 0))), (z9_q15, .inl (z9_ca15, 60, .inr (.inl (fun _ => 0)))), (q18, .inl (ca18, 12, .inr (.inl (fun _ => 0)))), (q26, .inl (ca26, 12, .inr (.inl (fun _ => 0)))), (q34, .inl (ca34, 12, .inl (fun _ => 0))), (q42, .inl (ca42, 12, .inl (fun _ => 0)))] := hD
  have hK : va_K D vwCl [(z9_ca7, .int), (z9_ca15, .long), (ca18, .long), (ca26, .long), (ca34, .boolean), (ca42, .int)] s := hK
  refine W.widen (k := 7) (n := 174) (by decide) (by decide) ?_
  refine va_putF (D := D) (ci := 1) (v := .ref q42) (ty := .array .int) (C := RX1) (T := TX1) (N := 10) hx hb hts (fun w h => lw_in w (inX1 w h)) tyX1 tyX1_ok nmX1 hown hK hP hD hS 0 rfl rfl 4 (by decide) (hts _ (lw_in _ t_84)) (fun _ h9 => h9) rfl hin rfl (by decide +kernel) rfl rfl (Nat.le_of_ble_eq_true rfl) dX1_init_44 (fun H locs hP hD hS => ?_)
  have hP : va_P D vwCl [(h0, .inr (1, [.ref q5, .ref q18, .ref q26, .ref q34, .ref q42, .int 0, .int 0, .long 0, .long 0, .int 0])), (q5, .inr (0, [.ref z9_q7, .ref z9_q15, .int 0, .long 0, .long 0, .int 0])), (z9_q7, .inl (z9_ca7, 60, .inl (fun _ => 0))), (z9_q15, .inl (z9_ca15, 60, .inr (.inl (fun _ => 0)))), (q18, .inl (ca18, 12, .inr (.inl (fun _ => 0)))), (q26, .inl (ca26, 12, .inr (.inl (fun _ => 0)))), (q34, .inl (ca34, 12, .inl (fun _ => 0))), (q42, .inl (ca42, 12, .inl (fun _ => 0)))] H := hP
  have hD : va_D A [(h0, .inr (1, [.ref q5, .ref q18, .ref q26, .ref q34, .ref q42, .int 0, .int 0, .long 0, .long 0, .int 0])), (q5, .inr (0, [.ref z9_q7, .ref z9_q15, .int 0, .long 0, .long 0, .int 0])), (z9_q7, .inl (z9_ca7, 60, .inl (fun _ => 0))), (z9_q15, .inl (z9_ca15, 60, .inr (.inl (fun _ => 0)))), (q18, .inl (ca18, 12, .inr (.inl (fun _ => 0)))), (q26, .inl (ca26, 12, .inr (.inl (fun _ => 0)))), (q34, .inl (ca34, 12, .inl (fun _ => 0))), (q42, .inl (ca42, 12, .inl (fun _ => 0)))] := hD
  have hK : va_K D vwCl [(z9_ca7, .int), (z9_ca15, .long), (ca18, .long), (ca26, .long), (ca34, .boolean), (ca42, .int)] s := hK
  exact ctn_end hx hb hr hlocks hK hP hD hS ⟨q5, z9_q7, z9_q15, q18, q26, q34, q42, z9_ca7, z9_ca15, ca18, ca26, ca34, ca42, rfl, rfl⟩ dX1_init_47
set_option maxHeartbeats 4000000 in
set_option maxRecDepth 100000 in
theorem k_X2_init (l : Launch) (D : va_G) (h0 : Nat) : CtN l yX2_init wsX2_init { frames := 3, cells := 9, slots := 484, locals := 120 } D vwCl [.ref h0] [(h0, .inr (2, [.null, .int 0, .null, .null, .long 0, .int 0, .int 0]))] 9 484
    (fun w1 t1 => ∃ (q8 q14 z18_q5 z18_z9_q7 z18_z9_q15 z18_q18 z18_q26 z18_q34 z18_q42 : Nat) (ca8 z18_z9_ca7 z18_z9_ca15 z18_ca18 z18_ca26 z18_ca34 z18_ca42 : ClassId), w1 = [(h0, .inr (2, [.ref q8, .int 0, .ref q14, .ref z18_q5, .long 0, .int 0, .int 0])), (q8, .inl (ca8, 300, .inl (fun _ => 0))), (q14, .inr (1, [.ref z18_q5, .ref z18_q18, .ref z18_q26, .ref z18_q34, .ref z18_q42, .int 0, .int 0, .long 0, .long 0, .int 0])), (z18_q5, .inr (0, [.ref z18_z9_q7, .ref z18_z9_q15, .int 0, .long 0, .long 0, .int 0])), (z18_z9_q7, .inl (z18_z9_ca7, 60, .inl (fun _ => 0))), (z18_z9_q15, .inl (z18_z9_ca15, 60, .inr (.inl (fun _ => 0)))), (z18_q18, .inl (z18_ca18, 12, .inr (.inl (fun _ => 0)))), (z18_q26, .inl (z18_ca26, 12, .inr (.inl (fun _ => 0)))), (z18_q34, .inl (z18_ca34, 12, .inl (fun _ => 0))), (z18_q42, .inl (z18_ca42, 12, .inl (fun _ => 0)))] ∧ t1 = [(ca8, .byte), (z18_z9_ca7, .int), (z18_z9_ca15, .long), (z18_ca18, .long), (z18_ca26, .long), (z18_ca34, .boolean), (z18_ca42, .int)]) := by
  refine CtN.of (cc := cX2_init) (maxL := 1) (lv := [(0, .ref h0)]) (by decide) rfl (Nat.le_of_ble_eq_true rfl) rfl ?_
  intro p e s m below meth c A ls hx hb hr hml hts hown hlocks hin hK hP hD hS hA hl
  refine lv_aload_n hx hb dX2_init_0 rfl (lv_at hl 0 rfl) ?_
  refine W.objInit hx hb hown (hts _ (lw_in _ t_32)) (hts _ (lw_in _ t_33)) (hts _ (lw_in _ t_34)) rfl (by rw [hml]; exact hl.1) rfl dX2_init_1 (Nat.le_of_ble_eq_true rfl) (Nat.le_of_ble_eq_true rfl) ?_
  refine W.eq (g2 := F0 m 4 ls []) rfl ?_
  refine lv_aload_n hx hb dX2_init_4 rfl (lv_at hl 0 rfl) ?_
  refine lv_sipush (v := 300) hx hb dX2_init_5 (by decide) ?_
  refine va_newa (D := D) (atype := .byte) (a0 := (300, .inl (fun _ => 0))) (N' := 300) (ty := .byte) hx hb (hts _ (lw_in _ t_76)) rfl hK hP hD hS hA (fun cA => rfl) (by decide) (by decide) (by decide) (Nat.le_of_ble_eq_true rfl) (Nat.le_of_ble_eq_true rfl) dX2_init_8 (fun q8 ca8 H hK hP hD hS => ?_)
  have hP : va_P D vwCl [(h0, .inr (2, [.null, .int 0, .null, .null, .long 0, .int 0, .int 0])), (q8, .inl (ca8, 300, .inl (fun _ => 0)))] H := hP
  have hD : va_D A [(h0, .inr (2, [.null, .int 0, .null, .null, .long 0, .int 0, .int 0])), (q8, .inl (ca8, 300, .inl (fun _ => 0)))] := hD
  have hK : va_K D vwCl [(ca8, .byte)] s := hK
  refine W.widen (k := 1) (n := 300) (by decide) (by decide) ?_
  refine va_putF (D := D) (ci := 2) (v := .ref q8) (ty := .array .byte) (C := RX2) (T := TX2) (N := 7) hx hb hts (fun w h => lw_in w (inX2 w h)) tyX2 tyX2_ok nmX2 hown hK hP hD hS 0 rfl rfl 0 (by decide) (hts _ (lw_in _ t_112)) (fun _ h9 => h9) rfl hin rfl (by decide +kernel) rfl rfl (Nat.le_of_ble_eq_true rfl) dX2_init_10 (fun H locs hP hD hS => ?_)
  have hP : va_P D vwCl [(h0, .inr (2, [.ref q8, .int 0, .null, .null, .long 0, .int 0, .int 0])), (q8, .inl (ca8, 300, .inl (fun _ => 0)))] H := hP
  have hD : va_D A [(h0, .inr (2, [.ref q8, .int 0, .null, .null, .long 0, .int 0, .int 0])), (q8, .inl (ca8, 300, .inl (fun _ => 0)))] := hD
  have hK : va_K D vwCl [(ca8, .byte)] s := hK
  refine lv_aload_n hx hb dX2_init_13 rfl (lv_at hl 0 rfl) ?_
  refine va_new (D := D) (ci := 1) (fs := [.null, .null, .null, .null, .null, .int 0, .int 0, .long 0, .long 0, .int 0]) (C := RX1) (T := TX1) (N := 10) hx hb hts (fun w h => lw_in w (inX1 w h)) tyX1 tyX1_ok hown (hts _ (lw_in _ t_35)) (hts _ (lw_in _ t_36)) (hts _ (lw_in _ t_24)) hK hP hD hS hA rfl (fun j hj => by rcases (show j = 0 ∨ j = 1 ∨ j = 2 ∨ j = 3 ∨ j = 4 ∨ j = 5 ∨ j = 6 ∨ j = 7 ∨ j = 8 ∨ j = 9 by omega) with rfl | rfl | rfl | rfl | rfl | rfl | rfl | rfl | rfl | rfl <;> rfl) (Nat.le_of_ble_eq_true rfl) (Nat.le_of_ble_eq_true rfl) dX2_init_14 (fun q14 H hP hD hS => ?_)
  have hP : va_P D vwCl [(h0, .inr (2, [.ref q8, .int 0, .null, .null, .long 0, .int 0, .int 0])), (q8, .inl (ca8, 300, .inl (fun _ => 0))), (q14, .inr (1, [.null, .null, .null, .null, .null, .int 0, .int 0, .long 0, .long 0, .int 0]))] H := hP
  have hD : va_D A [(h0, .inr (2, [.ref q8, .int 0, .null, .null, .long 0, .int 0, .int 0])), (q8, .inl (ca8, 300, .inl (fun _ => 0))), (q14, .inr (1, [.null, .null, .null, .null, .null, .int 0, .int 0, .long 0, .long 0, .int 0]))] := hD
  have hK : va_K D vwCl [(ca8, .byte)] s := hK
  refine W.widen (k := 2) (n := 310) (by decide) (by decide) ?_
  refine lv_dup hx hb dX2_init_17 rfl ?_
  refine ctn_call (As := []) (rest := [.ref q14, .ref h0]) (wr := [(h0, .inr (2, [.ref q8, .int 0, .null, .null, .long 0, .int 0, .int 0])), (q8, .inl (ca8, 300, .inl (fun _ => 0)))]) ⟨hx, hb, hml, hown, hts⟩ (k_X1_init l D q14) (cwI 0 hts (gW lw_in t_39) rfl rfl rfl (hts _ (lw_in _ t_24)) (hts _ (lw_in _ t_37)) (hts _ (lw_in _ t_38)) rfl (by decide +kernel) ⟨Nat.le_of_ble_eq_true rfl, Nat.le_of_ble_eq_true rfl⟩) hK hP hD hS hA [2] [0, 1] rfl rfl (by decide) (by decide) (by decide) rfl hl.1 rfl (Nat.le_of_ble_eq_true rfl) dX2_init_18 ⟨Nat.le_of_ble_eq_true rfl, Nat.le_of_ble_eq_true rfl⟩ (fun H locs w1 t1 hpo hK hP hD hS => ?_)
  obtain ⟨z18_q5, z18_z9_q7, z18_z9_q15, z18_q18, z18_q26, z18_q34, z18_q42, z18_z9_ca7, z18_z9_ca15, z18_ca18, z18_ca26, z18_ca34, z18_ca42, rfl, rfl⟩ := hpo
  have hP : va_P D vwCl [(h0, .inr (2, [.ref q8, .int 0, .null, .null, .long 0, .int 0, .int 0])), (q8, .inl (ca8, 300, .inl (fun _ => 0))), (q14, .inr (1, [.ref z18_q5, .ref z18_q18, .ref z18_q26, .ref z18_q34, .ref z18_q42, .int 0, .int 0, .long 0, .long 0, .int 0])), (z18_q5, .inr (0, [.ref z18_z9_q7, .ref z18_z9_q15, .int 0, .long 0, .long 0, .int 0])), (z18_z9_q7, .inl (z18_z9_ca7, 60, .inl (fun _ => 0))), (z18_z9_q15, .inl (z18_z9_ca15, 60, .inr (.inl (fun _ => 0)))), (z18_q18, .inl (z18_ca18, 12, .inr (.inl (fun _ => 0)))), (z18_q26, .inl (z18_ca26, 12, .inr (.inl (fun _ => 0)))), (z18_q34, .inl (z18_ca34, 12, .inl (fun _ => 0))), (z18_q42, .inl (z18_ca42, 12, .inl (fun _ => 0)))] H := hP
  have hD : va_D A [(h0, .inr (2, [.ref q8, .int 0, .null, .null, .long 0, .int 0, .int 0])), (q8, .inl (ca8, 300, .inl (fun _ => 0))), (q14, .inr (1, [.ref z18_q5, .ref z18_q18, .ref z18_q26, .ref z18_q34, .ref z18_q42, .int 0, .int 0, .long 0, .long 0, .int 0])), (z18_q5, .inr (0, [.ref z18_z9_q7, .ref z18_z9_q15, .int 0, .long 0, .long 0, .int 0])), (z18_z9_q7, .inl (z18_z9_ca7, 60, .inl (fun _ => 0))), (z18_z9_q15, .inl (z18_z9_ca15, 60, .inr (.inl (fun _ => 0)))), (z18_q18, .inl (z18_ca18, 12, .inr (.inl (fun _ => 0)))), (z18_q26, .inl (z18_ca26, 12, .inr (.inl (fun _ => 0)))), (z18_q34, .inl (z18_ca34, 12, .inl (fun _ => 0))), (z18_q42, .inl (z18_ca42, 12, .inl (fun _ => 0)))] := hD
  have hK : va_K D vwCl [(ca8, .byte), (z18_z9_ca7, .int), (z18_z9_ca15, .long), (z18_ca18, .long), (z18_ca26, .long), (z18_ca34, .boolean), (z18_ca42, .int)] s := hK
  refine W.widen (k := 9) (n := 484) (by decide) (by decide) ?_
  refine va_putF (D := D) (ci := 2) (v := .ref q14) (ty := .object "ModelDesk$Reader") (C := RX2) (T := TX2) (N := 7) hx hb hts (fun w h => lw_in w (inX2 w h)) tyX2 tyX2_ok nmX2 hown hK hP hD hS 0 rfl rfl 2 (by decide) (hts _ (lw_in _ t_114)) (fun _ h9 => h9) rfl hin rfl (by decide +kernel) rfl rfl (Nat.le_of_ble_eq_true rfl) dX2_init_21 (fun H locs hP hD hS => ?_)
  have hP : va_P D vwCl [(h0, .inr (2, [.ref q8, .int 0, .ref q14, .null, .long 0, .int 0, .int 0])), (q8, .inl (ca8, 300, .inl (fun _ => 0))), (q14, .inr (1, [.ref z18_q5, .ref z18_q18, .ref z18_q26, .ref z18_q34, .ref z18_q42, .int 0, .int 0, .long 0, .long 0, .int 0])), (z18_q5, .inr (0, [.ref z18_z9_q7, .ref z18_z9_q15, .int 0, .long 0, .long 0, .int 0])), (z18_z9_q7, .inl (z18_z9_ca7, 60, .inl (fun _ => 0))), (z18_z9_q15, .inl (z18_z9_ca15, 60, .inr (.inl (fun _ => 0)))), (z18_q18, .inl (z18_ca18, 12, .inr (.inl (fun _ => 0)))), (z18_q26, .inl (z18_ca26, 12, .inr (.inl (fun _ => 0)))), (z18_q34, .inl (z18_ca34, 12, .inl (fun _ => 0))), (z18_q42, .inl (z18_ca42, 12, .inl (fun _ => 0)))] H := hP
  have hD : va_D A [(h0, .inr (2, [.ref q8, .int 0, .ref q14, .null, .long 0, .int 0, .int 0])), (q8, .inl (ca8, 300, .inl (fun _ => 0))), (q14, .inr (1, [.ref z18_q5, .ref z18_q18, .ref z18_q26, .ref z18_q34, .ref z18_q42, .int 0, .int 0, .long 0, .long 0, .int 0])), (z18_q5, .inr (0, [.ref z18_z9_q7, .ref z18_z9_q15, .int 0, .long 0, .long 0, .int 0])), (z18_z9_q7, .inl (z18_z9_ca7, 60, .inl (fun _ => 0))), (z18_z9_q15, .inl (z18_z9_ca15, 60, .inr (.inl (fun _ => 0)))), (z18_q18, .inl (z18_ca18, 12, .inr (.inl (fun _ => 0)))), (z18_q26, .inl (z18_ca26, 12, .inr (.inl (fun _ => 0)))), (z18_q34, .inl (z18_ca34, 12, .inl (fun _ => 0))), (z18_q42, .inl (z18_ca42, 12, .inl (fun _ => 0)))] := hD
  have hK : va_K D vwCl [(ca8, .byte), (z18_z9_ca7, .int), (z18_z9_ca15, .long), (z18_ca18, .long), (z18_ca26, .long), (z18_ca34, .boolean), (z18_ca42, .int)] s := hK
  refine lv_aload_n hx hb dX2_init_24 rfl (lv_at hl 0 rfl) ?_
  refine lv_aload_n hx hb dX2_init_25 rfl (lv_at hl 0 rfl) ?_
  refine va_get (D := D) (ci := 2) (v := .ref q14) (C := RX2) (T := TX2) (N := 7) hx hb hts (fun w h => lw_in w (inX2 w h)) hown hK hP 0 rfl rfl 2 (by decide) (hts _ (lw_in _ t_114)) (fun _ h9 => h9) rfl dX2_init_26 ?_
  refine va_get (D := D) (ci := 1) (v := .ref z18_q5) (C := RX1) (T := TX1) (N := 10) hx hb hts (fun w h => lw_in w (inX1 w h)) hown hK hP 2 rfl rfl 0 (by decide) (hts _ (lw_in _ t_80)) (fun _ h9 => h9) rfl dX2_init_29 ?_
  refine va_putF (D := D) (ci := 2) (v := .ref z18_q5) (ty := .object "ModelDesk$Model") (C := RX2) (T := TX2) (N := 7) hx hb hts (fun w h => lw_in w (inX2 w h)) tyX2 tyX2_ok nmX2 hown hK hP hD hS 0 rfl rfl 3 (by decide) (hts _ (lw_in _ t_115)) (fun _ h9 => h9) rfl hin rfl (by decide +kernel) rfl rfl (Nat.le_of_ble_eq_true rfl) dX2_init_32 (fun H locs hP hD hS => ?_)
  have hP : va_P D vwCl [(h0, .inr (2, [.ref q8, .int 0, .ref q14, .ref z18_q5, .long 0, .int 0, .int 0])), (q8, .inl (ca8, 300, .inl (fun _ => 0))), (q14, .inr (1, [.ref z18_q5, .ref z18_q18, .ref z18_q26, .ref z18_q34, .ref z18_q42, .int 0, .int 0, .long 0, .long 0, .int 0])), (z18_q5, .inr (0, [.ref z18_z9_q7, .ref z18_z9_q15, .int 0, .long 0, .long 0, .int 0])), (z18_z9_q7, .inl (z18_z9_ca7, 60, .inl (fun _ => 0))), (z18_z9_q15, .inl (z18_z9_ca15, 60, .inr (.inl (fun _ => 0)))), (z18_q18, .inl (z18_ca18, 12, .inr (.inl (fun _ => 0)))), (z18_q26, .inl (z18_ca26, 12, .inr (.inl (fun _ => 0)))), (z18_q34, .inl (z18_ca34, 12, .inl (fun _ => 0))), (z18_q42, .inl (z18_ca42, 12, .inl (fun _ => 0)))] H := hP
  have hD : va_D A [(h0, .inr (2, [.ref q8, .int 0, .ref q14, .ref z18_q5, .long 0, .int 0, .int 0])), (q8, .inl (ca8, 300, .inl (fun _ => 0))), (q14, .inr (1, [.ref z18_q5, .ref z18_q18, .ref z18_q26, .ref z18_q34, .ref z18_q42, .int 0, .int 0, .long 0, .long 0, .int 0])), (z18_q5, .inr (0, [.ref z18_z9_q7, .ref z18_z9_q15, .int 0, .long 0, .long 0, .int 0])), (z18_z9_q7, .inl (z18_z9_ca7, 60, .inl (fun _ => 0))), (z18_z9_q15, .inl (z18_z9_ca15, 60, .inr (.inl (fun _ => 0)))), (z18_q18, .inl (z18_ca18, 12, .inr (.inl (fun _ => 0)))), (z18_q26, .inl (z18_ca26, 12, .inr (.inl (fun _ => 0)))), (z18_q34, .inl (z18_ca34, 12, .inl (fun _ => 0))), (z18_q42, .inl (z18_ca42, 12, .inl (fun _ => 0)))] := hD
  have hK : va_K D vwCl [(ca8, .byte), (z18_z9_ca7, .int), (z18_z9_ca15, .long), (z18_ca18, .long), (z18_ca26, .long), (z18_ca34, .boolean), (z18_ca42, .int)] s := hK
  exact ctn_end hx hb hr hlocks hK hP hD hS ⟨q8, q14, z18_q5, z18_z9_q7, z18_z9_q15, z18_q18, z18_q26, z18_q34, z18_q42, ca8, z18_z9_ca7, z18_z9_ca15, z18_ca18, z18_ca26, z18_ca34, z18_ca42, rfl, rfl⟩ dX2_init_35
end
section
/-! BASE 2: arrays of pointers (-1 is none) and of counted numbers; bits by >> -/
/-- a pointer as the machine has it -/
def pI (o : Option Nat) : Int32 := match o with
  | none => -1
  | some n => nI n
theorem hB_sr (a : Int64) {i : Nat} (hi : i < 64) : ((a >>> ((nI i).toInt64 &&& 63)) &&& 1) = 1 ↔ hB a i = true := by
  have e1 : (a >>> ((nI i).toInt64 &&& 63)).toBitVec = a.toBitVec.sshiftRight i := by
    rw [wb_c i hi, Int64.toBitVec_shiftRight, wb_tb]
    rw [BitVec.sshiftRight_eq', wb_sm i hi]
    rw [BitVec.toNat_ofNat, Nat.mod_eq_of_lt (by omega)]
  have e2 : ((a >>> ((nI i).toInt64 &&& 63)) &&& 1).toBitVec = a.toBitVec.sshiftRight i &&& 1#64 := by
    rw [Int64.toBitVec_and, e1]; rfl
  have e3 : (a.toBitVec.sshiftRight i).getLsbD 0 = hB a i := by
    rw [BitVec.getLsbD_sshiftRight]
    simp [hB, hi]
  constructor
  · intro h
    have h1 := congrArg (fun z => z.toBitVec.getLsbD 0) h
    simp only [e2, BitVec.getLsbD_and, e3] at h1
    simpa using h1
  · intro h
    apply Int64.toBitVec_inj.mp
    rw [e2]
    apply BitVec.eq_of_getLsbD_eq
    intro j hj
    rw [BitVec.getLsbD_and]
    by_cases h0 : j = 0
    · subst h0
      rw [e3, h]
      rfl
    · have : (1#64).getLsbD j = false := by
        rw [BitVec.getLsbD_one]; simp [h0]
      have e4 : (1 : Int64).toBitVec = 1#64 := rfl
      rw [this, e4, this]
      simp
section CTP
variable {p : Program} {l : Launch} {e : Env} {R : Room} {s : State} {m : MethodId} {args : Array Value} {below : List Frame} {meth : Method} {c : Code} {H : Heap} {locs : List Loc} {cells slots : Nat} {Q : State → Prop}
variable {cc : ByteArray} {pc : Nat} {ls : Array Slot} {rest : List Value} {D : va_G} {cl : List vw_C} {A : Nat → Prop} {tys : List (ClassId × FieldType)} {H0 : Heap}
theorem pI_up (g : Nat → Option Nat) (i : Nat) (x : Option Nat) : upd (fun j => pI (g j)) i (pI x) = fun j => pI (va_up g i x j) := by
  funext j
  unfold upd va_up
  by_cases h : j = i <;> simp [h]
theorem nI_up (g : Nat → Nat) (i x : Nat) : upd (fun j => nI (g j)) i (nI x) = fun j => nI (va_up g i x j) := by
  funext j
  unfold upd va_up
  by_cases h : j = i <;> simp [h]
theorem wx_pald {ws : va_W} {a : Nat} (hexec : p.tables.exec = Jvm.exec) (hb : c.code = cc) (hK : va_K D cl tys s) (hP : va_P D cl ws H) (q0 t0 : Nat) {cA : ClassId} {n : Nat} {g : Nat → Option Nat} (ha : ws[q0]? = some (a, .inl (cA, n, .inl (fun j => pI (g j))))) (ht : tys[t0]? = some (cA, .int)) {i : Nat} (hi : i < n) (hn : n < 2 ^ 31) (hdg : decode cc pc = .ok (.iaload, 1))
    (kk : W p l e R s m args below meth c H locs cells slots Q (F0 m (pc + 1) ls (.int (pI (g i)) :: rest))) : W p l e R s m args below meth c H locs cells slots Q (F0 m pc ls (.int (nI i) :: .ref a :: rest)) :=
  wx_iald hexec hb hK hP q0 t0 ha ht hi hn hdg kk
theorem wx_past {ws : va_W} {a : Nat} (hexec : p.tables.exec = Jvm.exec) (hb : c.code = cc) (hK : va_K D cl tys s) (hP : va_P D cl ws H) (hD : va_D A ws) (hS : va_S A H0 H locs) (q0 t0 : Nat) {cA : ClassId} {n : Nat} {g : Nat → Option Nat} (ha : ws[q0]? = some (a, .inl (cA, n, .inl (fun j => pI (g j))))) (ht : tys[t0]? = some (cA, .int)) {i : Nat} {x : Option Nat} (hi : i < n) (hn : n < 2 ^ 31) (hdg : decode cc pc = .ok (.iastore, 1))
    (kk : ∀ (H1 : Heap) (locs1 : List Loc), va_P D cl (ws.set q0 (a, .inl (cA, n, .inl (fun j => pI (va_up g i x j))))) H1 → va_D A (ws.set q0 (a, .inl (cA, n, .inl (fun j => pI (va_up g i x j))))) → va_S A H0 H1 locs1 → W p l e R s m args below meth c H1 locs1 cells slots Q (F0 m (pc + 1) ls rest)) : W p l e R s m args below meth c H locs cells slots Q (F0 m pc ls (.int (pI x) :: .int (nI i) :: .ref a :: rest)) :=
  wx_iast hexec hb hK hP hD hS q0 t0 ha ht hi hn hdg (by rw [pI_up]; exact kk)
theorem wx_nald {ws : va_W} {a : Nat} (hexec : p.tables.exec = Jvm.exec) (hb : c.code = cc) (hK : va_K D cl tys s) (hP : va_P D cl ws H) (q0 t0 : Nat) {cA : ClassId} {n : Nat} {g : Nat → Nat} (ha : ws[q0]? = some (a, .inl (cA, n, .inl (fun j => nI (g j))))) (ht : tys[t0]? = some (cA, .int)) {i : Nat} (hi : i < n) (hn : n < 2 ^ 31) (hdg : decode cc pc = .ok (.iaload, 1))
    (kk : W p l e R s m args below meth c H locs cells slots Q (F0 m (pc + 1) ls (.int (nI (g i)) :: rest))) : W p l e R s m args below meth c H locs cells slots Q (F0 m pc ls (.int (nI i) :: .ref a :: rest)) :=
  wx_iald hexec hb hK hP q0 t0 ha ht hi hn hdg kk
theorem wx_nast {ws : va_W} {a : Nat} (hexec : p.tables.exec = Jvm.exec) (hb : c.code = cc) (hK : va_K D cl tys s) (hP : va_P D cl ws H) (hD : va_D A ws) (hS : va_S A H0 H locs) (q0 t0 : Nat) {cA : ClassId} {n : Nat} {g : Nat → Nat} (ha : ws[q0]? = some (a, .inl (cA, n, .inl (fun j => nI (g j))))) (ht : tys[t0]? = some (cA, .int)) {i x : Nat} (hi : i < n) (hn : n < 2 ^ 31) (hdg : decode cc pc = .ok (.iastore, 1))
    (kk : ∀ (H1 : Heap) (locs1 : List Loc), va_P D cl (ws.set q0 (a, .inl (cA, n, .inl (fun j => nI (va_up g i x j))))) H1 → va_D A (ws.set q0 (a, .inl (cA, n, .inl (fun j => nI (va_up g i x j))))) → va_S A H0 H1 locs1 → W p l e R s m args below meth c H1 locs1 cells slots Q (F0 m (pc + 1) ls rest)) : W p l e R s m args below meth c H locs cells slots Q (F0 m pc ls (.int (nI x) :: .int (nI i) :: .ref a :: rest)) :=
  wx_iast hexec hb hK hP hD hS q0 t0 ha ht hi hn hdg (by rw [nI_up]; exact kk)
end CTP
end
section
/-! STATE of the reference: its cells, and what its methods do, as numbers and functions -/
/-- the tree that is built: nodes, kinds, parents, before, after, missing, places, leaf, names, depth, lasts, sorts, root -/
abbrev TS : Type := Nat × (Nat → Int32) × (Nat → Option Nat) × (Nat → Option Nat) × (Nat → Option Nat) × (Nat → Bool) × Nat × (Nat → Nat) × (Nat → Int32) × Nat × (Nat → Option Nat) × (Nat → Int32) × Nat
/-- the cells of the reference: addresses h, array classes k, and what they hold -/
def wM (h : Nat → Nat) (k : Nat → ClassId) (tx : Nat → Int32) (sz : Nat) (im : Bool) (cm : Nat) (nw : Int64) (T : TS) : va_W :=
  [(h 0, .inr (3, [.ref (h 1), .int (nI sz), .int (nI T.1), .ref (h 2), .ref (h 3), .ref (h 4), .ref (h 5), .ref (h 6), .int (nI T.2.2.2.2.2.2.1), .ref (h 7), .ref (h 8), .int (bI im), .int (nI T.2.2.2.2.2.2.2.2.2.1), .ref (h 9), .ref (h 10), .int (nI T.2.2.2.2.2.2.2.2.2.2.2.2), .int (nI cm), .long nw])), (h 1, .inl (k 1, 300, .inl tx)), (h 2, .inl (k 2, 700, .inl T.2.1)), (h 3, .inl (k 3, 700, .inl (fun j => pI (T.2.2.1 j)))), (h 4, .inl (k 4, 700, .inl (fun j => pI (T.2.2.2.1 j)))), (h 5, .inl (k 5, 700, .inl (fun j => pI (T.2.2.2.2.1 j)))), (h 6, .inl (k 6, 700, .inl (fun j => bI (T.2.2.2.2.2.1 j)))), (h 7, .inl (k 7, 60, .inl (fun j => nI (T.2.2.2.2.2.2.2.1 j)))), (h 8, .inl (k 8, 60, .inl T.2.2.2.2.2.2.2.2.1)), (h 9, .inl (k 9, 12, .inl (fun j => pI (T.2.2.2.2.2.2.2.2.2.2.1 j)))), (h 10, .inl (k 10, 12, .inl T.2.2.2.2.2.2.2.2.2.2.2.1))]
abbrev tyM (k : Nat → ClassId) : List (ClassId × FieldType) := [(k 1, .int), (k 2, .int), (k 3, .int), (k 4, .int), (k 5, .int), (k 6, .boolean), (k 7, .int), (k 8, .int), (k 9, .int), (k 10, .int)]
def byteR (v : Int64) (n k : Nat) : Int32 := ((v >>> ((8 * (nI n - 1 - nI k)).toInt64 &&& 63)) &&& 255).toInt32
def ptR (v : Int64) (sz n : Nat) : Nat → Nat → (Nat → Int32) → (Nat → Int32)
  | 0, _, tx => tx
  | j + 1, k, tx => ptR v sz n j (k + 1) (upd tx (sz + k) (byteR v n k))
def e_put (tx : Nat → Int32) (sz : Nat) (v : Int64) (n : Int32) : (Nat → Int32) × Nat × Bool :=
  if n < 1 then (tx, sz, false) else if 8 < n then (tx, sz, false) else if 300 < sz + n.toNatClampNeg then (tx, sz, false) else (ptR v sz n.toNatClampNeg n.toNatClampNeg 0 tx, sz + n.toNatClampNeg, true)
def atF (tx : Nat → Int32) (sz i : Nat) : Int32 := if i < sz then tx i else -1
def nkM (x : Int32) : Bool := if x = 3 then true else if x = 4 then true else false
def t_node : TS → Int32 → TS
  | (nd, kd, pa, be, af, mi, np, lf, nm, dp, la, so, ro), x => (nd + 1, upd kd nd x, va_up pa nd none, va_up be nd none, va_up af nd none, va_up mi nd (nkM x), np, lf, nm, dp, la, so, ro)
def afA (af : Nat → Option Nat) (o : Option Nat) (n : Nat) : Nat → Option Nat := match o with
  | none => af
  | some s => va_up af s (some n)
def t_add : TS → Nat → Nat → TS
  | (nd, kd, pa, be, af, mi, np, lf, nm, dp, la, so, ro), d, n => (nd, kd, pa, va_up be n (la d), afA af (la d) n, mi, np, lf, nm, dp, va_up la d (some n), so, ro)
def sgK (c : Int32) : Int32 := if c = 63 then 3 else if c = 42 then 4 else 5
def sgM (mi : Nat → Bool) (s n : Nat) (c : Int32) : Nat → Bool := if c = 43 then va_up mi s (mi n) else mi
def t_sign : TS → Nat → Int32 → TS
  | (nd, kd, pa, be, af, mi, np, lf, nm, dp, la, so, ro), n, c => (nd + 1, upd kd nd (sgK c), va_up (va_up pa nd none) n (some nd), va_up be nd none, va_up af nd none, sgM (va_up mi nd (nkM (sgK c))) nd n c, np, lf, nm, dp, la, so, ro)
def clL (be : Nat → Option Nat) (mi : Nat → Bool) (n : Nat) : Nat → Option Nat → (Nat → Option Nat) → Bool → Bool → (Nat → Option Nat) × Bool × Bool
  | 0, _, pa, a, b => (pa, a, b)
  | _ + 1, none, pa, a, b => (pa, a, b)
  | f + 1, some p, pa, a, b => clL be mi n f (be p) (va_up pa p (some n)) (a && mi p) (b || mi p)
def clK (x : Int32) : Int32 := if x = 1 then 1 else 2
def t_close : TS → Nat → TS
  | (nd, kd, pa, be, af, mi, np, lf, nm, _, la, so, ro), d => (nd + 1, upd kd nd (clK (so d)), (clL (va_up be nd none) (va_up mi nd (nkM (clK (so d)))) nd 701 (la d) (va_up pa nd none) true false).1, va_up be nd none, va_up af nd none,
      va_up (va_up mi nd (nkM (clK (so d)))) nd (if (upd kd nd (clK (so d))) nd = 1 then (clL (va_up be nd none) (va_up mi nd (nkM (clK (so d)))) nd 701 (la d) (va_up pa nd none) true false).2.2 else (clL (va_up be nd none) (va_up mi nd (nkM (clK (so d)))) nd 701 (la d) (va_up pa nd none) true false).2.1), np, lf, nm, d, la, so, ro)
def t_open : TS → TS
  | (nd, kd, pa, be, af, mi, np, lf, nm, dp, la, so, ro) => (nd, kd, pa, be, af, mi, np, lf, nm, dp + 1, va_up la dp none, upd so dp (-1), ro)
/-- a place more: its leaf is the node n, its name x -/
def t_place : TS → Nat → Int32 → TS
  | (nd, kd, pa, be, af, mi, np, lf, nm, dp, la, so, ro), n, x => (nd, kd, pa, be, af, mi, np + 1, va_up lf np n, upd nm np x, dp, la, so, ro)
def t_sort : TS → Nat → Int32 → TS
  | (nd, kd, pa, be, af, mi, np, lf, nm, dp, la, so, ro), d, x => (nd, kd, pa, be, af, mi, np, lf, nm, dp, la, upd so d x, ro)
def t_root : TS → Nat → TS
  | (nd, kd, pa, be, af, mi, np, lf, nm, dp, la, so, _), n => (nd, kd, pa, be, af, mi, np, lf, nm, dp, la, so, n)
def skL (tx : Nat → Int32) (sz : Nat) : Nat → Nat → Nat
  | 0, i => i
  | f + 1, i => if atF tx sz i = 32 then skL tx sz f (i + 1) else i
def soK (c : Int32) : Int32 := if c = 124 then 1 else 2
/-- a part that is complete, node n, with its sign if one stands at i: the tree, the node, the place behind -/
def t_part (tx : Nat → Int32) (sz : Nat) (T : TS) (n i : Nat) : TS × Nat × Nat :=
  if r_isSign (atF tx sz i) = true then (t_sign T n (atF tx sz i), T.1, i + 1) else (T, n, i)
/-- the name at i: its node, its place, its sign, laid behind what stands in its bracket -/
def t_name (tx : Nat → Int32) (sz : Nat) (T : TS) (d i : Nat) (c : Int32) : TS × Nat :=
  (t_add (t_part tx sz (t_place (t_node T 0) T.1 (c - 97)) T.1 (i + 1)).1 d (t_part tx sz (t_place (t_node T 0) T.1 (c - 97)) T.1 (i + 1)).2.1, (t_part tx sz (t_place (t_node T 0) T.1 (c - 97)) T.1 (i + 1)).2.2)
/-- the bracket that ends at i -/
def t_end (tx : Nat → Int32) (sz : Nat) (T : TS) (d i : Nat) : TS × Nat :=
  (match d with
    | 0 => t_root (t_part tx sz (t_close T d) T.1 (i + 1)).1 (t_part tx sz (t_close T d) T.1 (i + 1)).2.1
    | d1 + 1 => t_add (t_part tx sz (t_close T d) T.1 (i + 1)).1 d1 (t_part tx sz (t_close T d) T.1 (i + 1)).2.1, (t_part tx sz (t_close T d) T.1 (i + 1)).2.2)
/-- one turn of the parser at the byte c (no blank) at i, in a bracket of the depth d + 1: it goes on (tree, place, whether a part is due), or it ends (tree, answer) -/
def t_turn (tx : Nat → Int32) (sz : Nat) (T : TS) (d i : Nat) (part : Bool) (c : Int32) : (TS × Nat × Bool) ⊕ (TS × Int32) :=
  if part = true then
    (if c = 40 then (if d + 1 = 12 then .inr (T, (-1000) - nI i) else .inl (t_open T, i + 1, true))
    else if c < 97 then .inr (T, (-1) - nI i) else if 122 < c then .inr (T, (-1) - nI i) else if T.2.2.2.2.2.2.1 = 60 then .inr (T, (-1000) - nI i)
    else .inl ((t_name tx sz T d i c).1, (t_name tx sz T d i c).2, false))
  else if c = 124 ∨ c = 44 then
    (if ¬ T.2.2.2.2.2.2.2.2.2.2.2.1 d < 0 ∧ ¬ T.2.2.2.2.2.2.2.2.2.2.2.1 d = soK c then .inr (T, (-1) - nI i) else .inl (t_sort T d (soK c), i + 1, true))
  else if c = 41 then .inl ((t_end tx sz T d i).1, (t_end tx sz T d i).2, false)
  else .inr (T, (-1) - nI i)
/-- what the parser does behind a turn -/
def t_go (k : Nat → Bool → TS → TS × Int32) (x : (TS × Nat × Bool) ⊕ (TS × Int32)) : TS × Int32 := match x with
  | .inl r => k r.2.1 r.2.2 r.1
  | .inr r => r
def paL (tx : Nat → Int32) (sz : Nat) : Nat → Nat → Bool → TS → TS × Int32
  | 0, _, _, T => (T, 0)
  | f + 1, i, part, T => if T.2.2.2.2.2.2.2.2.2.1 = 0 then (T, if i < sz then (-1) - nI i else nI T.2.2.2.2.2.2.1)
    else t_go (paL tx sz f) (t_turn tx sz T (T.2.2.2.2.2.2.2.2.2.1 - 1) (skL tx sz 301 i) part (atF tx sz (skL tx sz 301 i)))
def t_clear : TS → TS
  | (_, kd, pa, be, af, mi, _, lf, nm, _, la, so, ro) => (0, kd, pa, be, af, mi, 0, lf, nm, 0, la, so, ro)
def e_parse (tx : Nat → Int32) (sz : Nat) (T : TS) : TS × Int32 := if atF tx sz 0 = 40 then paL tx sz 302 1 true (t_open T) else (T, -1)
def t_none : TS → TS
  | (nd, kd, pa, be, af, mi, _, lf, nm, dp, la, so, ro) => (nd, kd, pa, be, af, mi, 0, lf, nm, dp, la, so, ro)
def e_read (tx : Nat → Int32) (sz : Nat) (T : TS) : TS × Bool × Int32 :=
  if (e_parse tx sz (t_clear T)).2 < 0 then (t_none (e_parse tx sz (t_clear T)).1, false, (e_parse tx sz (t_clear T)).2) else ((e_parse tx sz (t_clear T)).1, true, (e_parse tx sz (t_clear T)).2)
/-- all that stand in a chain are such as may be missing; asked in a row alone -/
def alB (k : Int32) (be : Nat → Option Nat) (mi : Nat → Bool) : Nat → Option Nat → Bool
  | 0, _ => true
  | _ + 1, none => true
  | f + 1, some s => if k = 2 then (if mi s = true then alB k be mi f (be s) else false) else true
def bgC (kd : Nat → Int32) (pa be : Nat → Option Nat) (mi : Nat → Bool) : Nat → Nat → Nat → Bool
  | 0, _, _ => false
  | f + 1, n, x => if n = x then true else match pa n with
    | none => false
    | some p => if alB (kd p) be mi 701 (be n) = true then bgC kd pa be mi f p x else false
def edC (kd : Nat → Int32) (pa af : Nat → Option Nat) (mi : Nat → Bool) : Nat → Nat → Bool
  | 0, _ => true
  | f + 1, n => match pa n with
    | none => true
    | some p => if alB (kd p) af mi 701 (af n) = true then edC kd pa af mi f p else false
def fsL (kd : Nat → Int32) (pa be : Nat → Option Nat) (mi : Nat → Bool) (lf : Nat → Nat) (x : Nat) : Nat → Nat → Int64 → Int64
  | 0, _, r => r
  | n + 1, q, r => fsL kd pa be mi lf x n (q + 1) (r ||| (if bgC kd pa be mi 701 (lf q) x = true then (1 : Int64) <<< ((nI q).toInt64 &&& 63) else 0))
def fsF (kd : Nat → Int32) (pa be : Nat → Option Nat) (mi : Nat → Bool) (np : Nat) (lf : Nat → Nat) (x : Nat) : Int64 := fsL kd pa be mi lf x np 0 0
def laL (kd : Nat → Int32) (pa af : Nat → Option Nat) (mi : Nat → Bool) (lf : Nat → Nat) : Nat → Nat → Int64 → Int64
  | 0, _, r => r
  | n + 1, q, r => laL kd pa af mi lf n (q + 1) (r ||| (if edC kd pa af mi 701 (lf q) = true then (1 : Int64) <<< ((nI q).toInt64 &&& 63) else 0))
def sbL (k : Int32) (af : Nat → Option Nat) (mi : Nat → Bool) (F : Nat → Int64) : Nat → Option Nat → Int64 → Int64 × Bool
  | 0, _, r => (r, false)
  | _ + 1, none, r => (r, false)
  | f + 1, some s, r => if k = 2 then (if mi s = true then sbL k af mi F f (af s) (r ||| F s) else (r ||| F s, true)) else (r, false)
def nxC (kd : Nat → Int32) (pa af : Nat → Option Nat) (mi : Nat → Bool) (F : Nat → Int64) : Nat → Nat → Int64 → Int64
  | 0, _, r => r
  | f + 1, n, r => match pa n with
    | none => r
    | some p => if (sbL (kd p) af mi F 701 (af n) (if kd p = 4 then r ||| F n else if kd p = 5 then r ||| F n else r)).2 = true then (sbL (kd p) af mi F 701 (af n) (if kd p = 4 then r ||| F n else if kd p = 5 then r ||| F n else r)).1
      else nxC kd pa af mi F f p (sbL (kd p) af mi F 701 (af n) (if kd p = 4 then r ||| F n else if kd p = 5 then r ||| F n else r)).1
/-- next of a place that is there -/
def nxF (kd : Nat → Int32) (pa be af : Nat → Option Nat) (mi : Nat → Bool) (np : Nat) (lf : Nat → Nat) (q : Nat) : Int64 := nxC kd pa af mi (fsF kd pa be mi np lf) 701 (lf q) 0
def e_next (kd : Nat → Int32) (pa be af : Nat → Option Nat) (mi : Nat → Bool) (np : Nat) (lf : Nat → Nat) (x : Int32) : Int64 := if x < 0 then 0 else if x < nI np then nxF kd pa be af mi np lf x.toNatClampNeg else 0
def twL (a : Int64) (nm : Nat → Int32) : Nat → Nat → Int32 → Int32 → Int32
  | 0, _, _, t => t
  | n + 1, q, o, t => twL a nm n (q + 1) (o ||| (if hB a q = true then (1 : Int32) <<< (nm q &&& 31) else 0)) (t ||| (o &&& (if hB a q = true then (1 : Int32) <<< (nm q &&& 31) else 0)))
def twF (a : Int64) (nm : Nat → Int32) (np : Nat) : Int32 := twL a nm np 0 0 0
def e_first (kd : Nat → Int32) (pa be : Nat → Option Nat) (mi : Nat → Bool) (np : Nat) (lf : Nat → Nat) (im : Bool) (ro : Nat) : Int64 := if im = true then fsF kd pa be mi np lf ro else 0
def cmL (nm : Nat → Int32) (np : Nat) (N : Nat → Int64) : Nat → Nat → Int32 → Int32
  | 0, _, r => r
  | n + 1, q, r => cmL nm np N n (q + 1) (r ||| twF (N q) nm np)
def abL (a : Int64) (N : Nat → Int64) : Nat → Nat → Int64 → Int64
  | 0, _, r => r
  | n + 1, q, r => abL a N n (q + 1) (r ||| (if hB a q = true then N q else 0))
def wiL (b : Int64) (x : Int32) (nm : Nat → Int32) : Nat → Nat → Int64 → Int64
  | 0, _, r => r
  | n + 1, q, r => wiL b x nm n (q + 1) (r ||| (if nm q = x then b &&& ((1 : Int64) <<< ((nI q).toInt64 &&& 63)) else 0))
def myL (b : Int64) (nm : Nat → Int32) : Nat → Nat → Int32 → Int32
  | 0, _, r => r
  | n + 1, q, r => myL b nm n (q + 1) (r ||| (if hB b q = true then (1 : Int32) <<< (nm q &&& 31) else 0))
/-- what the climbs of the queries need of the tree -/
def okT (nb : Nat) (pa be af : Nat → Option Nat) (np : Nat) (lf : Nat → Nat) : Prop :=
  nb ≤ 700 ∧ np ≤ 60 ∧ (∀ n p, n < nb → pa n = some p → n < p ∧ p < nb) ∧ (∀ n s, n < nb → be n = some s → s < n) ∧ (∀ n s, n < nb → af n = some s → n < s ∧ s < nb) ∧ (∀ q, q < np → lf q < nb)
theorem pI_nn {x : Nat} (h : x < 2 ^ 31) : ¬ pI (some x) < 0 := nI_pos h
theorem p_ix {np : Nat} {x : Int32} (hnp : np < 2 ^ 31) (h0 : ¬ x < 0) (h : x < nI np) : ∃ j : Nat, j < np ∧ x = nI j := by
  rcases pk_ix x (n := np) hnp with q | q | q
  · exact absurd q h0
  · exact absurd h (Int32.not_lt.mpr q)
  · exact q
theorem hB_nr {a : Int64} {i : Nat} (hi : i < 64) (h : ¬ ((a >>> ((nI i).toInt64 &&& 63)) &&& 1) = 1) : hB a i = false := by
  cases hb : hB a i with
  | false => rfl
  | true => exact absurd ((hB_sr a hi).mpr hb) h
theorem at_lt {tx : Nat → Int32} {sz i : Nat} {c : Int32} (h : atF tx sz i = c) (hc : ¬ c = -1) : i < sz := by
  by_cases hi : i < sz
  · exact hi
  · rw [atF, if_neg hi] at h
    exact absurd h.symm hc
theorem sg_lt {tx : Nat → Int32} {sz i : Nat} (h : r_isSign (atF tx sz i) = true) : i < sz := by
  by_cases hi : i < sz
  · exact hi
  · rw [atF, if_neg hi] at h
    exact absurd h (by decide)
theorem at_ge {tx : Nat → Int32} {sz i : Nat} (h : ¬ atF tx sz i < 97) : i < sz := by
  by_cases hi : i < sz
  · exact hi
  · rw [atF, if_neg hi] at h
    exact absurd (by decide) h
/-- what the parser needs of its tree at the place i of the text -/
def okP (T : TS) (i : Nat) : Prop := T.1 ≤ i ∧ T.2.2.2.2.2.2.1 ≤ 60 ∧ T.2.2.2.2.2.2.2.2.2.1 ≤ 12 ∧ (∀ v x, v < T.2.2.2.2.2.2.2.2.2.1 → T.2.2.2.2.2.2.2.2.2.2.1 v = some x → x < T.1) ∧ (∀ x y, x < T.1 → T.2.2.2.1 x = some y → y < x)
theorem okP_mono {T : TS} {i j : Nat} (h : okP T i) (hj : i ≤ j) : okP T j := ⟨Nat.le_trans h.1 hj, h.2⟩
theorem okP_open {T : TS} {i : Nat} (h : okP T i) (hd : ¬ T.2.2.2.2.2.2.2.2.2.1 = 12) : okP (t_open T) i := by
  obtain ⟨nd, kd, pa, be, af, mi, np, lf, nm, dp, la, so, ro⟩ := T
  obtain ⟨h1, h2, h3, h4, h5⟩ := h
  simp only at hd h1 h2 h3 h4 h5
  refine ⟨h1, h2, by show dp + 1 ≤ 12; omega, ?_, h5⟩
  intro v x hv hx
  simp only [t_open] at hv hx
  by_cases e : v = dp
  · subst e; rw [va_up_self] at hx; cases hx
  · rw [va_up_ne _ _ e] at hx; exact h4 v x (by omega) hx
theorem okP_sort {T : TS} {i d : Nat} {x : Int32} (h : okP T i) : okP (t_sort T d x) i := by
  obtain ⟨nd, kd, pa, be, af, mi, np, lf, nm, dp, la, so, ro⟩ := T
  exact h
theorem okP_root {T : TS} {i n : Nat} (h : okP T i) : okP (t_root T n) i := by
  obtain ⟨nd, kd, pa, be, af, mi, np, lf, nm, dp, la, so, ro⟩ := T
  exact h
theorem okP_node {T : TS} {i : Nat} {x : Int32} (h : okP T i) : okP (t_node T x) (i + 1) := by
  obtain ⟨nd, kd, pa, be, af, mi, np, lf, nm, dp, la, so, ro⟩ := T
  obtain ⟨h1, h2, h3, h4, h5⟩ := h
  simp only at h1 h2 h3 h4 h5
  refine ⟨by show nd + 1 ≤ i + 1; omega, h2, h3, fun v y hv hy => Nat.lt_succ_of_lt (h4 v y hv hy), ?_⟩
  intro z y hz hy
  simp only [t_node] at hz hy
  by_cases e : z = nd
  · subst e; rw [va_up_self] at hy; cases hy
  · rw [va_up_ne _ _ e] at hy; exact h5 z y (by omega) hy
theorem okP_place {T : TS} {i n : Nat} {x : Int32} (h : okP T i) (hp : T.2.2.2.2.2.2.1 < 60) : okP (t_place T n x) i := by
  obtain ⟨nd, kd, pa, be, af, mi, np, lf, nm, dp, la, so, ro⟩ := T
  obtain ⟨h1, h2, h3, h4, h5⟩ := h
  exact ⟨h1, hp, h3, h4, h5⟩
theorem okP_sign {T : TS} {i n : Nat} {c : Int32} (h : okP T i) : okP (t_sign T n c) (i + 1) := by
  obtain ⟨nd, kd, pa, be, af, mi, np, lf, nm, dp, la, so, ro⟩ := T
  exact okP_node (x := sgK c) h
theorem okP_part {tx : Nat → Int32} {sz : Nat} {T : TS} {i n : Nat} (h : okP T i) : okP (t_part tx sz T n i).1 (t_part tx sz T n i).2.2 := by
  unfold t_part
  split
  · exact okP_sign h
  · exact h
theorem t_part_lt {tx : Nat → Int32} {sz : Nat} {T : TS} {i n : Nat} (hn : n < T.1) : (t_part tx sz T n i).2.1 < (t_part tx sz T n i).1.1 ∧ i ≤ (t_part tx sz T n i).2.2 ∧ (i ≤ sz → (t_part tx sz T n i).2.2 ≤ sz) := by
  unfold t_part
  split
  · rename_i h
    have := sg_lt h
    obtain ⟨nd, kd, pa, be, af, mi, np, lf, nm, dp, la, so, ro⟩ := T
    exact ⟨Nat.lt_succ_self nd, Nat.le_succ i, fun _ => this⟩
  · exact ⟨hn, Nat.le_refl i, fun h => h⟩
theorem t_part_dp {tx : Nat → Int32} {sz : Nat} {T : TS} {i n : Nat} : (t_part tx sz T n i).1.2.2.2.2.2.2.2.2.2.1 = T.2.2.2.2.2.2.2.2.2.1 := by
  unfold t_part
  split
  · obtain ⟨nd, kd, pa, be, af, mi, np, lf, nm, dp, la, so, ro⟩ := T
    rfl
  · rfl
/-- a node is laid behind those of its bracket: what stands there last comes earlier -/
theorem okP_add {T : TS} {i d n : Nat} (h : okP T i) (hd : d < T.2.2.2.2.2.2.2.2.2.1) (hn : n < T.1) (hl : ∀ x, T.2.2.2.2.2.2.2.2.2.2.1 d = some x → x < n) : okP (t_add T d n) i := by
  obtain ⟨nd, kd, pa, be, af, mi, np, lf, nm, dp, la, so, ro⟩ := T
  obtain ⟨h1, h2, h3, h4, h5⟩ := h
  simp only at h1 h2 h3 h4 h5 hd hn hl
  refine ⟨h1, h2, h3, ?_, ?_⟩
  · intro v x hv hx
    simp only [t_add] at hv hx
    by_cases e : v = d
    · subst e; rw [va_up_self] at hx; cases hx; exact hn
    · rw [va_up_ne _ _ e] at hx; exact h4 v x hv hx
  · intro z y hz hy
    simp only [t_add] at hz hy
    by_cases e : z = n
    · subst e; rw [va_up_self] at hy; exact hl y hy
    · rw [va_up_ne _ _ e] at hy; exact h5 z y hz hy
theorem okP_close {T : TS} {i d : Nat} (h : okP T i) (hd : T.2.2.2.2.2.2.2.2.2.1 = d + 1) : okP (t_close T d) (i + 1) := by
  obtain ⟨nd, kd, pa, be, af, mi, np, lf, nm, dp, la, so, ro⟩ := T
  obtain ⟨h1, h2, h3, h4, h5⟩ := h
  simp only at h1 h2 h3 h4 h5 hd
  refine ⟨by show nd + 1 ≤ i + 1; omega, h2, by show d ≤ 12; omega, fun v y hv hy => Nat.lt_succ_of_lt (h4 v y (by simp only [t_close] at hv; omega) hy), ?_⟩
  intro z y hz hy
  simp only [t_close] at hz hy
  by_cases e : z = nd
  · subst e; rw [va_up_self] at hy; cases hy
  · rw [va_up_ne _ _ e] at hy; exact h5 z y (by omega) hy
end
section
/-! The methods of the reference: tree (laid by program) -/
set_option maxHeartbeats 4000000 in
set_option maxRecDepth 100000 in
theorem k_E_isSign (l : Launch) (D : va_G) (h : Nat → Nat) (k : Nat → ClassId) (tx : Nat → Int32) (sz : Nat) (im : Bool) (cm : Nat) (nw : Int64) (T : TS) (x : Int32)   :
    Ct l yX3_isSign wsX3_isSign (rmN 0) D vwCl (tyM k) [.int x] (wM h k tx sz im cm nw T) (wM h k tx sz im cm nw T) (some (.int (bI (r_isSign x)))) := by
  refine Ct.of (cc := cX3_isSign) (maxL := 1) (ret := (some .boolean)) (lv := [(0, .int x)]) (by decide) rfl (Nat.le_of_ble_eq_true rfl) rfl ?_
  intro p e s m below meth c A ls hx hb hr hml hts hown hlocks hK hP hD hS hA hl
  refine lv_iload_n hx hb dX3_isSign_0 rfl (lv_at hl 0 rfl) ?_
  refine lv_bipush (v := 63) hx hb dX3_isSign_1 (by decide) ?_
  refine lv_icmp_eq (tgt := 18) hx hb dX3_isSign_3 (by decide) (fun c_3 => ?_) (fun c_3 => ?_)
  · have c_3 : x = 63 := c_3
    refine lv_iconst (v := 1) hx hb dX3_isSign_18 (by decide) ?_
    refine lv_goto (tgt := 23) hx hb dX3_isSign_19 (by decide) ?_
    exact ct_endi hx hb hr hlocks rfl hP hD hS rfl (by simp [r_isSign, bI, c_3]) dX3_isSign_23
  · have c_3 : ¬ x = 63 := c_3
    refine lv_iload_n hx hb dX3_isSign_6 rfl (lv_at hl 0 rfl) ?_
    refine lv_bipush (v := 42) hx hb dX3_isSign_7 (by decide) ?_
    refine lv_icmp_eq (tgt := 18) hx hb dX3_isSign_9 (by decide) (fun c_9 => ?_) (fun c_9 => ?_)
    · have c_9 : x = 42 := c_9
      refine lv_iconst (v := 1) hx hb dX3_isSign_18 (by decide) ?_
      refine lv_goto (tgt := 23) hx hb dX3_isSign_19 (by decide) ?_
      exact ct_endi hx hb hr hlocks rfl hP hD hS rfl (by simp [r_isSign, bI, c_3, c_9]) dX3_isSign_23
    · have c_9 : ¬ x = 42 := c_9
      refine lv_iload_n hx hb dX3_isSign_12 rfl (lv_at hl 0 rfl) ?_
      refine lv_bipush (v := 43) hx hb dX3_isSign_13 (by decide) ?_
      refine lv_icmp_ne (tgt := 22) hx hb dX3_isSign_15 (by decide) (fun c_15 => ?_) (fun c_15 => ?_)
      · have c_15 : ¬ x = 43 := c_15
        refine lv_iconst (v := 0) hx hb dX3_isSign_22 (by decide) ?_
        exact ct_endi hx hb hr hlocks rfl hP hD hS rfl (by simp [r_isSign, bI, c_3, c_9, c_15]) dX3_isSign_23
      · have c_15 : x = 43 := c_15
        refine lv_iconst (v := 1) hx hb dX3_isSign_18 (by decide) ?_
        refine lv_goto (tgt := 23) hx hb dX3_isSign_19 (by decide) ?_
        exact ct_endi hx hb hr hlocks rfl hP hD hS rfl (by simp [r_isSign, bI, c_3, c_9, c_15]) dX3_isSign_23

set_option maxHeartbeats 4000000 in
set_option maxRecDepth 100000 in
theorem k_E_at (l : Launch) (D : va_G) (h : Nat → Nat) (k : Nat → ClassId) (tx : Nat → Int32) (sz : Nat) (im : Bool) (cm : Nat) (nw : Int64) (T : TS) (i : Nat)  (hsz : sz ≤ 300) (hi : i ≤ 400) :
    Ct l yX3_at wsX3_at (rmN 0) D vwCl (tyM k) [.ref (h 0), .int (nI i)] (wM h k tx sz im cm nw T) (wM h k tx sz im cm nw T) (some (.int (atF tx sz i))) := by
  refine Ct.of (cc := cX3_at) (maxL := 2) (ret := (some .int)) (lv := [(0, .ref (h 0)), (1, .int (nI i))]) (by decide) rfl (Nat.le_of_ble_eq_true rfl) rfl ?_
  intro p e s m below meth c A ls hx hb hr hml hts hown hlocks hK hP hD hS hA hl
  refine lv_iload_n hx hb dX3_at_0 rfl (lv_at hl 1 rfl) ?_
  refine lv_aload_n hx hb dX3_at_1 rfl (lv_at hl 0 rfl) ?_
  refine va_get (D := D) (ci := 3) (v := .int (nI sz)) (C := RX3) (T := TX3) (N := 18) hx hb hts (fun w h => lw_in w (inX3 w h)) hown hK hP 0 rfl rfl 1 (by decide) (hts _ (lw_in _ t_289)) (fun _ h9 => h9) rfl dX3_at_2 ?_
  refine lv_icmp_ge (tgt := 17) hx hb dX3_at_5 (by decide) (fun c_5 => ?_) (fun c_5 => ?_)
  · have c_5 : sz ≤ i := (nI_leI (a := sz) (b := i) (by omega) (by omega)).mp c_5
    refine lv_iconst (v := -1) hx hb dX3_at_17 (by decide) ?_
    exact ct_endi hx hb hr hlocks rfl hP hD hS rfl (by rw [atF, if_neg (Nat.not_lt.mpr c_5)]) dX3_at_18
  · have c_5 : i < sz := Nat.lt_of_not_le (fun z => c_5 ((nI_leI (a := sz) (b := i) (by omega) (by omega)).mpr z))
    refine lv_aload_n hx hb dX3_at_8 rfl (lv_at hl 0 rfl) ?_
    refine va_get (D := D) (ci := 3) (v := .ref (h 1)) (C := RX3) (T := TX3) (N := 18) hx hb hts (fun w h => lw_in w (inX3 w h)) hown hK hP 0 rfl rfl 0 (by decide) (hts _ (lw_in _ t_288)) (fun _ h9 => h9) rfl dX3_at_9 ?_
    refine lv_iload_n hx hb dX3_at_12 rfl (lv_at hl 1 rfl) ?_
    refine wx_iald hx hb hK hP 1 0 rfl rfl (i := i) (by omega) (by decide) dX3_at_13 ?_
    refine lv_goto (tgt := 18) hx hb dX3_at_14 (by decide) ?_
    exact ct_endi hx hb hr hlocks rfl hP hD hS rfl (by rw [atF, if_pos c_5]) dX3_at_18

set_option maxHeartbeats 4000000 in
set_option maxRecDepth 100000 in
theorem k_E_open (l : Launch) (D : va_G) (h : Nat → Nat) (k : Nat → ClassId) (tx : Nat → Int32) (sz : Nat) (im : Bool) (cm : Nat) (nw : Int64) (nd : Nat) (kd : Nat → Int32) (pa : Nat → Option Nat) (be : Nat → Option Nat) (af : Nat → Option Nat) (mi : Nat → Bool) (np : Nat) (lf : Nat → Nat) (nm : Nat → Int32) (dp : Nat) (la : Nat → Option Nat) (so : Nat → Int32) (ro : Nat)   (hdp : dp ≤ 12) :
    Ct l yX3_open wsX3_open (rmN 0) D vwCl (tyM k) [.ref (h 0)] (wM h k tx sz im cm nw (nd, kd, pa, be, af, mi, np, lf, nm, dp, la, so, ro)) (wM h k tx sz im cm nw (if dp = 12 then (nd, kd, pa, be, af, mi, np, lf, nm, dp, la, so, ro) else t_open (nd, kd, pa, be, af, mi, np, lf, nm, dp, la, so, ro))) (some (.int (bI (decide (¬ dp = 12))))) := by
  refine Ct.of (cc := cX3_open) (maxL := 1) (ret := (some .boolean)) (lv := [(0, .ref (h 0))]) (by decide) rfl (Nat.le_of_ble_eq_true rfl) rfl ?_
  intro p e s m below meth c A ls hx hb hr hml hts hown hlocks hK hP hD hS hA hl
  refine lv_aload_n hx hb dX3_open_0 rfl (lv_at hl 0 rfl) ?_
  refine va_get (D := D) (ci := 3) (v := .int (nI dp)) (C := RX3) (T := TX3) (N := 18) hx hb hts (fun w h => lw_in w (inX3 w h)) hown hK hP 0 rfl rfl 12 (by decide) (hts _ (lw_in _ t_300)) (fun _ h9 => h9) rfl dX3_open_1 ?_
  refine lv_bipush (v := 12) hx hb dX3_open_4 (by decide) ?_
  refine lv_icmp_ne (tgt := 11) hx hb dX3_open_6 (by decide) (fun c_6 => ?_) (fun c_6 => ?_)
  · have c_6 : ¬ dp = 12 := id (fun z => c_6 ((nI_eq (a := dp) (b := 12) (by omega) (by omega)).mpr z))
    refine lv_aload_n hx hb dX3_open_11 rfl (lv_at hl 0 rfl) ?_
    refine va_get (D := D) (ci := 3) (v := .ref (h 9)) (C := RX3) (T := TX3) (N := 18) hx hb hts (fun w h => lw_in w (inX3 w h)) hown hK hP 0 rfl rfl 13 (by decide) (hts _ (lw_in _ t_301)) (fun _ h9 => h9) rfl dX3_open_12 ?_
    refine lv_aload_n hx hb dX3_open_15 rfl (lv_at hl 0 rfl) ?_
    refine va_get (D := D) (ci := 3) (v := .int (nI dp)) (C := RX3) (T := TX3) (N := 18) hx hb hts (fun w h => lw_in w (inX3 w h)) hown hK hP 0 rfl rfl 12 (by decide) (hts _ (lw_in _ t_300)) (fun _ h9 => h9) rfl dX3_open_16 ?_
    refine lv_iconst (v := -1) hx hb dX3_open_19 (by decide) ?_
    refine wx_past (x := none) (g := la) hx hb hK hP hD hS 9 8 rfl rfl (i := dp) (by omega) (by decide) dX3_open_20 (fun H locs hP hD hS => ?_)
    have hP : va_P D vwCl (wM h k tx sz im cm nw (nd, kd, pa, be, af, mi, np, lf, nm, dp, (va_up la dp none), so, ro)) H := hP
    have hD : va_D A (wM h k tx sz im cm nw (nd, kd, pa, be, af, mi, np, lf, nm, dp, (va_up la dp none), so, ro)) := hD
    refine lv_aload_n hx hb dX3_open_21 rfl (lv_at hl 0 rfl) ?_
    refine va_get (D := D) (ci := 3) (v := .ref (h 10)) (C := RX3) (T := TX3) (N := 18) hx hb hts (fun w h => lw_in w (inX3 w h)) hown hK hP 0 rfl rfl 14 (by decide) (hts _ (lw_in _ t_302)) (fun _ h9 => h9) rfl dX3_open_22 ?_
    refine lv_aload_n hx hb dX3_open_25 rfl (lv_at hl 0 rfl) ?_
    refine va_get (D := D) (ci := 3) (v := .int (nI dp)) (C := RX3) (T := TX3) (N := 18) hx hb hts (fun w h => lw_in w (inX3 w h)) hown hK hP 0 rfl rfl 12 (by decide) (hts _ (lw_in _ t_300)) (fun _ h9 => h9) rfl dX3_open_26 ?_
    refine lv_iconst (v := -1) hx hb dX3_open_29 (by decide) ?_
    refine wx_iast hx hb hK hP hD hS 10 9 rfl rfl (i := dp) (by omega) (by decide) dX3_open_30 (fun H locs hP hD hS => ?_)
    have hP : va_P D vwCl (wM h k tx sz im cm nw (nd, kd, pa, be, af, mi, np, lf, nm, dp, (va_up la dp none), (upd so dp (-1)), ro)) H := hP
    have hD : va_D A (wM h k tx sz im cm nw (nd, kd, pa, be, af, mi, np, lf, nm, dp, (va_up la dp none), (upd so dp (-1)), ro)) := hD
    refine lv_aload_n hx hb dX3_open_31 rfl (lv_at hl 0 rfl) ?_
    refine lv_aload_n hx hb dX3_open_32 rfl (lv_at hl 0 rfl) ?_
    refine va_get (D := D) (ci := 3) (v := .int (nI dp)) (C := RX3) (T := TX3) (N := 18) hx hb hts (fun w h => lw_in w (inX3 w h)) hown hK hP 0 rfl rfl 12 (by decide) (hts _ (lw_in _ t_300)) (fun _ h9 => h9) rfl dX3_open_33 ?_
    refine lv_iconst (v := 1) hx hb dX3_open_36 (by decide) ?_
    refine lv_iadd hx hb dX3_open_37 ?_
    refine lv_eqi (show (nI dp + 1) = nI (dp + 1) from nI_1 _) ?_
    refine va_put (D := D) (ci := 3) (v := .int (nI (dp + 1))) (ty := .int) (C := RX3) (T := TX3) (N := 18) hx hb hts (fun w h => lw_in w (inX3 w h)) tyX3 tyX3_ok nmX3 hown hK hP hD hS 0 rfl rfl 12 (by decide) (hts _ (lw_in _ t_300)) (fun _ h9 => h9) rfl (by decide +kernel) rfl rfl (Nat.le_of_ble_eq_true rfl) dX3_open_38 (fun H locs hP hD hS => ?_)
    have hP : va_P D vwCl (wM h k tx sz im cm nw (nd, kd, pa, be, af, mi, np, lf, nm, (dp + 1), (va_up la dp none), (upd so dp (-1)), ro)) H := hP
    have hD : va_D A (wM h k tx sz im cm nw (nd, kd, pa, be, af, mi, np, lf, nm, (dp + 1), (va_up la dp none), (upd so dp (-1)), ro)) := hD
    refine lv_iconst (v := 1) hx hb dX3_open_41 (by decide) ?_
    exact ct_endi hx hb hr hlocks rfl hP hD hS (by simp [t_open, c_6]) (by simp [bI, c_6]) dX3_open_42
  · have c_6 : dp = 12 := (nI_eq (a := dp) (b := 12) (by omega) (by omega)).mp c_6
    refine lv_iconst (v := 0) hx hb dX3_open_9 (by decide) ?_
    exact ct_endi hx hb hr hlocks rfl hP hD hS (by simp [t_open, c_6]) (by simp [bI, c_6]) dX3_open_10

set_option maxHeartbeats 4000000 in
set_option maxRecDepth 100000 in
theorem k_E_node (l : Launch) (D : va_G) (h : Nat → Nat) (k : Nat → ClassId) (tx : Nat → Int32) (sz : Nat) (im : Bool) (cm : Nat) (nw : Int64) (nd : Nat) (kd : Nat → Int32) (pa : Nat → Option Nat) (be : Nat → Option Nat) (af : Nat → Option Nat) (mi : Nat → Bool) (np : Nat) (lf : Nat → Nat) (nm : Nat → Int32) (dp : Nat) (la : Nat → Option Nat) (so : Nat → Int32) (ro : Nat) (x : Int32)  (hnd : nd < 700) :
    Ct l yX3_node wsX3_node (rmN 0) D vwCl (tyM k) [.ref (h 0), .int x] (wM h k tx sz im cm nw (nd, kd, pa, be, af, mi, np, lf, nm, dp, la, so, ro)) (wM h k tx sz im cm nw (t_node (nd, kd, pa, be, af, mi, np, lf, nm, dp, la, so, ro) x)) (some (.int (nI nd))) := by
  refine Ct.of (cc := cX3_node) (maxL := 2) (ret := (some .int)) (lv := [(0, .ref (h 0)), (1, .int x)]) (by decide) rfl (Nat.le_of_ble_eq_true rfl) rfl ?_
  intro p e s m below meth c A ls hx hb hr hml hts hown hlocks hK hP hD hS hA hl
  refine lv_aload_n hx hb dX3_node_0 rfl (lv_at hl 0 rfl) ?_
  refine va_get (D := D) (ci := 3) (v := .ref (h 2)) (C := RX3) (T := TX3) (N := 18) hx hb hts (fun w h => lw_in w (inX3 w h)) hown hK hP 0 rfl rfl 3 (by decide) (hts _ (lw_in _ t_291)) (fun _ h9 => h9) rfl dX3_node_1 ?_
  refine lv_aload_n hx hb dX3_node_4 rfl (lv_at hl 0 rfl) ?_
  refine va_get (D := D) (ci := 3) (v := .int (nI nd)) (C := RX3) (T := TX3) (N := 18) hx hb hts (fun w h => lw_in w (inX3 w h)) hown hK hP 0 rfl rfl 2 (by decide) (hts _ (lw_in _ t_290)) (fun _ h9 => h9) rfl dX3_node_5 ?_
  refine lv_iload_n hx hb dX3_node_8 rfl (lv_at hl 1 rfl) ?_
  refine wx_iast hx hb hK hP hD hS 2 1 rfl rfl (i := nd) hnd (by decide) dX3_node_9 (fun H locs hP hD hS => ?_)
  have hP : va_P D vwCl (wM h k tx sz im cm nw (nd, (upd kd nd x), pa, be, af, mi, np, lf, nm, dp, la, so, ro)) H := hP
  have hD : va_D A (wM h k tx sz im cm nw (nd, (upd kd nd x), pa, be, af, mi, np, lf, nm, dp, la, so, ro)) := hD
  refine lv_aload_n hx hb dX3_node_10 rfl (lv_at hl 0 rfl) ?_
  refine va_get (D := D) (ci := 3) (v := .ref (h 3)) (C := RX3) (T := TX3) (N := 18) hx hb hts (fun w h => lw_in w (inX3 w h)) hown hK hP 0 rfl rfl 4 (by decide) (hts _ (lw_in _ t_292)) (fun _ h9 => h9) rfl dX3_node_11 ?_
  refine lv_aload_n hx hb dX3_node_14 rfl (lv_at hl 0 rfl) ?_
  refine va_get (D := D) (ci := 3) (v := .int (nI nd)) (C := RX3) (T := TX3) (N := 18) hx hb hts (fun w h => lw_in w (inX3 w h)) hown hK hP 0 rfl rfl 2 (by decide) (hts _ (lw_in _ t_290)) (fun _ h9 => h9) rfl dX3_node_15 ?_
  refine lv_iconst (v := -1) hx hb dX3_node_18 (by decide) ?_
  refine wx_past (x := none) (g := pa) hx hb hK hP hD hS 3 2 rfl rfl (i := nd) hnd (by decide) dX3_node_19 (fun H locs hP hD hS => ?_)
  have hP : va_P D vwCl (wM h k tx sz im cm nw (nd, (upd kd nd x), (va_up pa nd none), be, af, mi, np, lf, nm, dp, la, so, ro)) H := hP
  have hD : va_D A (wM h k tx sz im cm nw (nd, (upd kd nd x), (va_up pa nd none), be, af, mi, np, lf, nm, dp, la, so, ro)) := hD
  refine lv_aload_n hx hb dX3_node_20 rfl (lv_at hl 0 rfl) ?_
  refine va_get (D := D) (ci := 3) (v := .ref (h 4)) (C := RX3) (T := TX3) (N := 18) hx hb hts (fun w h => lw_in w (inX3 w h)) hown hK hP 0 rfl rfl 5 (by decide) (hts _ (lw_in _ t_293)) (fun _ h9 => h9) rfl dX3_node_21 ?_
  refine lv_aload_n hx hb dX3_node_24 rfl (lv_at hl 0 rfl) ?_
  refine va_get (D := D) (ci := 3) (v := .int (nI nd)) (C := RX3) (T := TX3) (N := 18) hx hb hts (fun w h => lw_in w (inX3 w h)) hown hK hP 0 rfl rfl 2 (by decide) (hts _ (lw_in _ t_290)) (fun _ h9 => h9) rfl dX3_node_25 ?_
  refine lv_iconst (v := -1) hx hb dX3_node_28 (by decide) ?_
  refine wx_past (x := none) (g := be) hx hb hK hP hD hS 4 3 rfl rfl (i := nd) hnd (by decide) dX3_node_29 (fun H locs hP hD hS => ?_)
  have hP : va_P D vwCl (wM h k tx sz im cm nw (nd, (upd kd nd x), (va_up pa nd none), (va_up be nd none), af, mi, np, lf, nm, dp, la, so, ro)) H := hP
  have hD : va_D A (wM h k tx sz im cm nw (nd, (upd kd nd x), (va_up pa nd none), (va_up be nd none), af, mi, np, lf, nm, dp, la, so, ro)) := hD
  refine lv_aload_n hx hb dX3_node_30 rfl (lv_at hl 0 rfl) ?_
  refine va_get (D := D) (ci := 3) (v := .ref (h 5)) (C := RX3) (T := TX3) (N := 18) hx hb hts (fun w h => lw_in w (inX3 w h)) hown hK hP 0 rfl rfl 6 (by decide) (hts _ (lw_in _ t_294)) (fun _ h9 => h9) rfl dX3_node_31 ?_
  refine lv_aload_n hx hb dX3_node_34 rfl (lv_at hl 0 rfl) ?_
  refine va_get (D := D) (ci := 3) (v := .int (nI nd)) (C := RX3) (T := TX3) (N := 18) hx hb hts (fun w h => lw_in w (inX3 w h)) hown hK hP 0 rfl rfl 2 (by decide) (hts _ (lw_in _ t_290)) (fun _ h9 => h9) rfl dX3_node_35 ?_
  refine lv_iconst (v := -1) hx hb dX3_node_38 (by decide) ?_
  refine wx_past (x := none) (g := af) hx hb hK hP hD hS 5 4 rfl rfl (i := nd) hnd (by decide) dX3_node_39 (fun H locs hP hD hS => ?_)
  have hP : va_P D vwCl (wM h k tx sz im cm nw (nd, (upd kd nd x), (va_up pa nd none), (va_up be nd none), (va_up af nd none), mi, np, lf, nm, dp, la, so, ro)) H := hP
  have hD : va_D A (wM h k tx sz im cm nw (nd, (upd kd nd x), (va_up pa nd none), (va_up be nd none), (va_up af nd none), mi, np, lf, nm, dp, la, so, ro)) := hD
  refine lv_aload_n hx hb dX3_node_40 rfl (lv_at hl 0 rfl) ?_
  refine va_get (D := D) (ci := 3) (v := .ref (h 6)) (C := RX3) (T := TX3) (N := 18) hx hb hts (fun w h => lw_in w (inX3 w h)) hown hK hP 0 rfl rfl 7 (by decide) (hts _ (lw_in _ t_295)) (fun _ h9 => h9) rfl dX3_node_41 ?_
  refine lv_aload_n hx hb dX3_node_44 rfl (lv_at hl 0 rfl) ?_
  refine va_get (D := D) (ci := 3) (v := .int (nI nd)) (C := RX3) (T := TX3) (N := 18) hx hb hts (fun w h => lw_in w (inX3 w h)) hown hK hP 0 rfl rfl 2 (by decide) (hts _ (lw_in _ t_290)) (fun _ h9 => h9) rfl dX3_node_45 ?_
  refine lv_iload_n hx hb dX3_node_48 rfl (lv_at hl 1 rfl) ?_
  refine lv_iconst (v := 3) hx hb dX3_node_49 (by decide) ?_
  refine lv_icmp_eq (tgt := 58) hx hb dX3_node_50 (by decide) (fun c_50 => ?_) (fun c_50 => ?_)
  · have c_50 : x = 3 := c_50
    refine lv_iconst (v := 1) hx hb dX3_node_58 (by decide) ?_
    refine lv_goto (tgt := 63) hx hb dX3_node_59 (by decide) ?_
    refine wx_zastB (x := true) (g := mi) hx hb hK hP hD hS 6 5 rfl rfl (i := nd) hnd (by decide) dX3_node_63 (fun H locs hP hD hS => ?_)
    have hP : va_P D vwCl (wM h k tx sz im cm nw (nd, (upd kd nd x), (va_up pa nd none), (va_up be nd none), (va_up af nd none), (va_up mi nd true), np, lf, nm, dp, la, so, ro)) H := hP
    have hD : va_D A (wM h k tx sz im cm nw (nd, (upd kd nd x), (va_up pa nd none), (va_up be nd none), (va_up af nd none), (va_up mi nd true), np, lf, nm, dp, la, so, ro)) := hD
    refine lv_aload_n hx hb dX3_node_64 rfl (lv_at hl 0 rfl) ?_
    refine lv_aload_n hx hb dX3_node_65 rfl (lv_at hl 0 rfl) ?_
    refine va_get (D := D) (ci := 3) (v := .int (nI nd)) (C := RX3) (T := TX3) (N := 18) hx hb hts (fun w h => lw_in w (inX3 w h)) hown hK hP 0 rfl rfl 2 (by decide) (hts _ (lw_in _ t_290)) (fun _ h9 => h9) rfl dX3_node_66 ?_
    refine lv_iconst (v := 1) hx hb dX3_node_69 (by decide) ?_
    refine lv_iadd hx hb dX3_node_70 ?_
    refine lv_eqi (show (nI nd + 1) = nI (nd + 1) from nI_1 _) ?_
    refine va_put (D := D) (ci := 3) (v := .int (nI (nd + 1))) (ty := .int) (C := RX3) (T := TX3) (N := 18) hx hb hts (fun w h => lw_in w (inX3 w h)) tyX3 tyX3_ok nmX3 hown hK hP hD hS 0 rfl rfl 2 (by decide) (hts _ (lw_in _ t_290)) (fun _ h9 => h9) rfl (by decide +kernel) rfl rfl (Nat.le_of_ble_eq_true rfl) dX3_node_71 (fun H locs hP hD hS => ?_)
    have hP : va_P D vwCl (wM h k tx sz im cm nw ((nd + 1), (upd kd nd x), (va_up pa nd none), (va_up be nd none), (va_up af nd none), (va_up mi nd true), np, lf, nm, dp, la, so, ro)) H := hP
    have hD : va_D A (wM h k tx sz im cm nw ((nd + 1), (upd kd nd x), (va_up pa nd none), (va_up be nd none), (va_up af nd none), (va_up mi nd true), np, lf, nm, dp, la, so, ro)) := hD
    refine lv_aload_n hx hb dX3_node_74 rfl (lv_at hl 0 rfl) ?_
    refine va_get (D := D) (ci := 3) (v := .int (nI (nd + 1))) (C := RX3) (T := TX3) (N := 18) hx hb hts (fun w h => lw_in w (inX3 w h)) hown hK hP 0 rfl rfl 2 (by decide) (hts _ (lw_in _ t_290)) (fun _ h9 => h9) rfl dX3_node_75 ?_
    refine lv_iconst (v := 1) hx hb dX3_node_78 (by decide) ?_
    refine lv_isub hx hb dX3_node_79 ?_
    refine lv_eqi (show (nI (nd + 1) - 1) = nI nd from nI_pred _) ?_
    exact ct_endi hx hb hr hlocks rfl hP hD hS (by simp [t_node, nkM, c_50]) rfl dX3_node_80
  · have c_50 : ¬ x = 3 := c_50
    refine lv_iload_n hx hb dX3_node_53 rfl (lv_at hl 1 rfl) ?_
    refine lv_iconst (v := 4) hx hb dX3_node_54 (by decide) ?_
    refine lv_icmp_ne (tgt := 62) hx hb dX3_node_55 (by decide) (fun c_55 => ?_) (fun c_55 => ?_)
    · have c_55 : ¬ x = 4 := c_55
      refine lv_iconst (v := 0) hx hb dX3_node_62 (by decide) ?_
      refine wx_zastB (x := false) (g := mi) hx hb hK hP hD hS 6 5 rfl rfl (i := nd) hnd (by decide) dX3_node_63 (fun H locs hP hD hS => ?_)
      have hP : va_P D vwCl (wM h k tx sz im cm nw (nd, (upd kd nd x), (va_up pa nd none), (va_up be nd none), (va_up af nd none), (va_up mi nd false), np, lf, nm, dp, la, so, ro)) H := hP
      have hD : va_D A (wM h k tx sz im cm nw (nd, (upd kd nd x), (va_up pa nd none), (va_up be nd none), (va_up af nd none), (va_up mi nd false), np, lf, nm, dp, la, so, ro)) := hD
      refine lv_aload_n hx hb dX3_node_64 rfl (lv_at hl 0 rfl) ?_
      refine lv_aload_n hx hb dX3_node_65 rfl (lv_at hl 0 rfl) ?_
      refine va_get (D := D) (ci := 3) (v := .int (nI nd)) (C := RX3) (T := TX3) (N := 18) hx hb hts (fun w h => lw_in w (inX3 w h)) hown hK hP 0 rfl rfl 2 (by decide) (hts _ (lw_in _ t_290)) (fun _ h9 => h9) rfl dX3_node_66 ?_
      refine lv_iconst (v := 1) hx hb dX3_node_69 (by decide) ?_
      refine lv_iadd hx hb dX3_node_70 ?_
      refine lv_eqi (show (nI nd + 1) = nI (nd + 1) from nI_1 _) ?_
      refine va_put (D := D) (ci := 3) (v := .int (nI (nd + 1))) (ty := .int) (C := RX3) (T := TX3) (N := 18) hx hb hts (fun w h => lw_in w (inX3 w h)) tyX3 tyX3_ok nmX3 hown hK hP hD hS 0 rfl rfl 2 (by decide) (hts _ (lw_in _ t_290)) (fun _ h9 => h9) rfl (by decide +kernel) rfl rfl (Nat.le_of_ble_eq_true rfl) dX3_node_71 (fun H locs hP hD hS => ?_)
      have hP : va_P D vwCl (wM h k tx sz im cm nw ((nd + 1), (upd kd nd x), (va_up pa nd none), (va_up be nd none), (va_up af nd none), (va_up mi nd false), np, lf, nm, dp, la, so, ro)) H := hP
      have hD : va_D A (wM h k tx sz im cm nw ((nd + 1), (upd kd nd x), (va_up pa nd none), (va_up be nd none), (va_up af nd none), (va_up mi nd false), np, lf, nm, dp, la, so, ro)) := hD
      refine lv_aload_n hx hb dX3_node_74 rfl (lv_at hl 0 rfl) ?_
      refine va_get (D := D) (ci := 3) (v := .int (nI (nd + 1))) (C := RX3) (T := TX3) (N := 18) hx hb hts (fun w h => lw_in w (inX3 w h)) hown hK hP 0 rfl rfl 2 (by decide) (hts _ (lw_in _ t_290)) (fun _ h9 => h9) rfl dX3_node_75 ?_
      refine lv_iconst (v := 1) hx hb dX3_node_78 (by decide) ?_
      refine lv_isub hx hb dX3_node_79 ?_
      refine lv_eqi (show (nI (nd + 1) - 1) = nI nd from nI_pred _) ?_
      exact ct_endi hx hb hr hlocks rfl hP hD hS (by simp [t_node, nkM, c_50, c_55]) rfl dX3_node_80
    · have c_55 : x = 4 := c_55
      refine lv_iconst (v := 1) hx hb dX3_node_58 (by decide) ?_
      refine lv_goto (tgt := 63) hx hb dX3_node_59 (by decide) ?_
      refine wx_zastB (x := true) (g := mi) hx hb hK hP hD hS 6 5 rfl rfl (i := nd) hnd (by decide) dX3_node_63 (fun H locs hP hD hS => ?_)
      have hP : va_P D vwCl (wM h k tx sz im cm nw (nd, (upd kd nd x), (va_up pa nd none), (va_up be nd none), (va_up af nd none), (va_up mi nd true), np, lf, nm, dp, la, so, ro)) H := hP
      have hD : va_D A (wM h k tx sz im cm nw (nd, (upd kd nd x), (va_up pa nd none), (va_up be nd none), (va_up af nd none), (va_up mi nd true), np, lf, nm, dp, la, so, ro)) := hD
      refine lv_aload_n hx hb dX3_node_64 rfl (lv_at hl 0 rfl) ?_
      refine lv_aload_n hx hb dX3_node_65 rfl (lv_at hl 0 rfl) ?_
      refine va_get (D := D) (ci := 3) (v := .int (nI nd)) (C := RX3) (T := TX3) (N := 18) hx hb hts (fun w h => lw_in w (inX3 w h)) hown hK hP 0 rfl rfl 2 (by decide) (hts _ (lw_in _ t_290)) (fun _ h9 => h9) rfl dX3_node_66 ?_
      refine lv_iconst (v := 1) hx hb dX3_node_69 (by decide) ?_
      refine lv_iadd hx hb dX3_node_70 ?_
      refine lv_eqi (show (nI nd + 1) = nI (nd + 1) from nI_1 _) ?_
      refine va_put (D := D) (ci := 3) (v := .int (nI (nd + 1))) (ty := .int) (C := RX3) (T := TX3) (N := 18) hx hb hts (fun w h => lw_in w (inX3 w h)) tyX3 tyX3_ok nmX3 hown hK hP hD hS 0 rfl rfl 2 (by decide) (hts _ (lw_in _ t_290)) (fun _ h9 => h9) rfl (by decide +kernel) rfl rfl (Nat.le_of_ble_eq_true rfl) dX3_node_71 (fun H locs hP hD hS => ?_)
      have hP : va_P D vwCl (wM h k tx sz im cm nw ((nd + 1), (upd kd nd x), (va_up pa nd none), (va_up be nd none), (va_up af nd none), (va_up mi nd true), np, lf, nm, dp, la, so, ro)) H := hP
      have hD : va_D A (wM h k tx sz im cm nw ((nd + 1), (upd kd nd x), (va_up pa nd none), (va_up be nd none), (va_up af nd none), (va_up mi nd true), np, lf, nm, dp, la, so, ro)) := hD
      refine lv_aload_n hx hb dX3_node_74 rfl (lv_at hl 0 rfl) ?_
      refine va_get (D := D) (ci := 3) (v := .int (nI (nd + 1))) (C := RX3) (T := TX3) (N := 18) hx hb hts (fun w h => lw_in w (inX3 w h)) hown hK hP 0 rfl rfl 2 (by decide) (hts _ (lw_in _ t_290)) (fun _ h9 => h9) rfl dX3_node_75 ?_
      refine lv_iconst (v := 1) hx hb dX3_node_78 (by decide) ?_
      refine lv_isub hx hb dX3_node_79 ?_
      refine lv_eqi (show (nI (nd + 1) - 1) = nI nd from nI_pred _) ?_
      exact ct_endi hx hb hr hlocks rfl hP hD hS (by simp [t_node, nkM, c_50, c_55]) rfl dX3_node_80

set_option maxHeartbeats 4000000 in
set_option maxRecDepth 100000 in
theorem k_E_add (l : Launch) (D : va_G) (h : Nat → Nat) (k : Nat → ClassId) (tx : Nat → Int32) (sz : Nat) (im : Bool) (cm : Nat) (nw : Int64) (nd : Nat) (kd : Nat → Int32) (pa : Nat → Option Nat) (be : Nat → Option Nat) (af : Nat → Option Nat) (mi : Nat → Bool) (np : Nat) (lf : Nat → Nat) (nm : Nat → Int32) (d : Nat) (la : Nat → Option Nat) (so : Nat → Int32) (ro : Nat) (n : Nat)  (hn : n < 700) (hd : d < 12) (hla : ∀ s, la d = some s → s < 700) :
    Ct l yX3_add wsX3_add (rmN 0) D vwCl (tyM k) [.ref (h 0), .int (nI n)] (wM h k tx sz im cm nw (nd, kd, pa, be, af, mi, np, lf, nm, (d + 1), la, so, ro)) (wM h k tx sz im cm nw (t_add (nd, kd, pa, be, af, mi, np, lf, nm, d + 1, la, so, ro) d n)) none := by
  refine Ct.of (cc := cX3_add) (maxL := 3) (ret := none) (lv := [(0, .ref (h 0)), (1, .int (nI n))]) (by decide) rfl (Nat.le_of_ble_eq_true rfl) rfl ?_
  intro p e s m below meth c A ls hx hb hr hml hts hown hlocks hK hP hD hS hA hl
  refine lv_aload_n hx hb dX3_add_0 rfl (lv_at hl 0 rfl) ?_
  refine va_get (D := D) (ci := 3) (v := .ref (h 9)) (C := RX3) (T := TX3) (N := 18) hx hb hts (fun w h => lw_in w (inX3 w h)) hown hK hP 0 rfl rfl 13 (by decide) (hts _ (lw_in _ t_301)) (fun _ h9 => h9) rfl dX3_add_1 ?_
  refine lv_aload_n hx hb dX3_add_4 rfl (lv_at hl 0 rfl) ?_
  refine va_get (D := D) (ci := 3) (v := .int (nI (d + 1))) (C := RX3) (T := TX3) (N := 18) hx hb hts (fun w h => lw_in w (inX3 w h)) hown hK hP 0 rfl rfl 12 (by decide) (hts _ (lw_in _ t_300)) (fun _ h9 => h9) rfl dX3_add_5 ?_
  refine lv_iconst (v := 1) hx hb dX3_add_8 (by decide) ?_
  refine lv_isub hx hb dX3_add_9 ?_
  refine lv_eqi (show (nI (d + 1) - 1) = nI d from nI_pred _) ?_
  refine wx_pald hx hb hK hP 9 8 rfl rfl (i := d) hd (by decide) dX3_add_10 ?_
  refine W.eq (g2 := F0 m 11 ls [.int (pI (la d))]) rfl ?_
  rcases e_10 : la d with _ | x10
  · refine W.eq (g2 := F0 m 11 ls [.int (-1)]) rfl ?_
    refine lv_istore_n (lv' := [(2, .int (-1)), (0, .ref (h 0)), (1, .int (nI n))]) hx hb dX3_add_11 rfl hl (by decide) rfl (fun ls hl => ?_)
    refine lv_aload_n hx hb dX3_add_12 rfl (lv_at hl 1 rfl) ?_
    refine va_get (D := D) (ci := 3) (v := .ref (h 4)) (C := RX3) (T := TX3) (N := 18) hx hb hts (fun w h => lw_in w (inX3 w h)) hown hK hP 0 rfl rfl 5 (by decide) (hts _ (lw_in _ t_293)) (fun _ h9 => h9) rfl dX3_add_13 ?_
    refine lv_iload_n hx hb dX3_add_16 rfl (lv_at hl 2 rfl) ?_
    refine lv_iload_n hx hb dX3_add_17 rfl (lv_at hl 0 rfl) ?_
    refine wx_past (x := none) (g := be) hx hb hK hP hD hS 4 3 rfl rfl (i := n) hn (by decide) dX3_add_18 (fun H locs hP hD hS => ?_)
    have hP : va_P D vwCl (wM h k tx sz im cm nw (nd, kd, pa, (va_up be n none), af, mi, np, lf, nm, (d + 1), la, so, ro)) H := hP
    have hD : va_D A (wM h k tx sz im cm nw (nd, kd, pa, (va_up be n none), af, mi, np, lf, nm, (d + 1), la, so, ro)) := hD
    refine lv_iload_n hx hb dX3_add_19 rfl (lv_at hl 0 rfl) ?_
    refine lv_if_lt (tgt := 30) hx hb dX3_add_20 (by decide) (fun c_20 => ?_) (fun c_20 => ?_)
    · refine lv_aload_n hx hb dX3_add_30 rfl (lv_at hl 1 rfl) ?_
      refine va_get (D := D) (ci := 3) (v := .ref (h 9)) (C := RX3) (T := TX3) (N := 18) hx hb hts (fun w h => lw_in w (inX3 w h)) hown hK hP 0 rfl rfl 13 (by decide) (hts _ (lw_in _ t_301)) (fun _ h9 => h9) rfl dX3_add_31 ?_
      refine lv_aload_n hx hb dX3_add_34 rfl (lv_at hl 1 rfl) ?_
      refine va_get (D := D) (ci := 3) (v := .int (nI (d + 1))) (C := RX3) (T := TX3) (N := 18) hx hb hts (fun w h => lw_in w (inX3 w h)) hown hK hP 0 rfl rfl 12 (by decide) (hts _ (lw_in _ t_300)) (fun _ h9 => h9) rfl dX3_add_35 ?_
      refine lv_iconst (v := 1) hx hb dX3_add_38 (by decide) ?_
      refine lv_isub hx hb dX3_add_39 ?_
      refine lv_eqi (show (nI (d + 1) - 1) = nI d from nI_pred _) ?_
      refine lv_iload_n hx hb dX3_add_40 rfl (lv_at hl 2 rfl) ?_
      refine wx_past (x := some n) (g := la) hx hb hK hP hD hS 9 8 rfl rfl (i := d) hd (by decide) dX3_add_41 (fun H locs hP hD hS => ?_)
      have hP : va_P D vwCl (wM h k tx sz im cm nw (nd, kd, pa, (va_up be n none), af, mi, np, lf, nm, (d + 1), (va_up la d (some n)), so, ro)) H := hP
      have hD : va_D A (wM h k tx sz im cm nw (nd, kd, pa, (va_up be n none), af, mi, np, lf, nm, (d + 1), (va_up la d (some n)), so, ro)) := hD
      exact ct_endv hx hb hr hlocks hP hD hS (by simp [t_add, afA, e_10]) rfl dX3_add_42
    · exact absurd (by decide) c_20
  · refine W.eq (g2 := F0 m 11 ls [.int (nI x10)]) rfl ?_
    have b_10 := hla _ e_10
    refine lv_istore_n (lv' := [(2, .int (nI x10)), (0, .ref (h 0)), (1, .int (nI n))]) hx hb dX3_add_11 rfl hl (by decide) rfl (fun ls hl => ?_)
    refine lv_aload_n hx hb dX3_add_12 rfl (lv_at hl 1 rfl) ?_
    refine va_get (D := D) (ci := 3) (v := .ref (h 4)) (C := RX3) (T := TX3) (N := 18) hx hb hts (fun w h => lw_in w (inX3 w h)) hown hK hP 0 rfl rfl 5 (by decide) (hts _ (lw_in _ t_293)) (fun _ h9 => h9) rfl dX3_add_13 ?_
    refine lv_iload_n hx hb dX3_add_16 rfl (lv_at hl 2 rfl) ?_
    refine lv_iload_n hx hb dX3_add_17 rfl (lv_at hl 0 rfl) ?_
    refine wx_past (x := some x10) (g := be) hx hb hK hP hD hS 4 3 rfl rfl (i := n) hn (by decide) dX3_add_18 (fun H locs hP hD hS => ?_)
    have hP : va_P D vwCl (wM h k tx sz im cm nw (nd, kd, pa, (va_up be n (some x10)), af, mi, np, lf, nm, (d + 1), la, so, ro)) H := hP
    have hD : va_D A (wM h k tx sz im cm nw (nd, kd, pa, (va_up be n (some x10)), af, mi, np, lf, nm, (d + 1), la, so, ro)) := hD
    refine lv_iload_n hx hb dX3_add_19 rfl (lv_at hl 0 rfl) ?_
    refine lv_if_lt (tgt := 30) hx hb dX3_add_20 (by decide) (fun c_20 => ?_) (fun c_20 => ?_)
    · have c_20 : x10 < 0 := (nI_ltI (a := x10) (b := 0) (by omega) (by omega)).mp c_20
      exact absurd c_20 (Nat.not_lt_zero _)
    · have c_20 : 0 ≤ x10 := Nat.le_of_not_lt (fun z => c_20 ((nI_ltI (a := x10) (b := 0) (by omega) (by omega)).mpr z))
      refine lv_aload_n hx hb dX3_add_23 rfl (lv_at hl 1 rfl) ?_
      refine va_get (D := D) (ci := 3) (v := .ref (h 5)) (C := RX3) (T := TX3) (N := 18) hx hb hts (fun w h => lw_in w (inX3 w h)) hown hK hP 0 rfl rfl 6 (by decide) (hts _ (lw_in _ t_294)) (fun _ h9 => h9) rfl dX3_add_24 ?_
      refine lv_iload_n hx hb dX3_add_27 rfl (lv_at hl 0 rfl) ?_
      refine lv_iload_n hx hb dX3_add_28 rfl (lv_at hl 2 rfl) ?_
      refine wx_past (x := some n) (g := af) hx hb hK hP hD hS 5 4 rfl rfl (i := x10) (hla _ e_10) (by decide) dX3_add_29 (fun H locs hP hD hS => ?_)
      have hP : va_P D vwCl (wM h k tx sz im cm nw (nd, kd, pa, (va_up be n (some x10)), (va_up af x10 (some n)), mi, np, lf, nm, (d + 1), la, so, ro)) H := hP
      have hD : va_D A (wM h k tx sz im cm nw (nd, kd, pa, (va_up be n (some x10)), (va_up af x10 (some n)), mi, np, lf, nm, (d + 1), la, so, ro)) := hD
      refine lv_aload_n hx hb dX3_add_30 rfl (lv_at hl 1 rfl) ?_
      refine va_get (D := D) (ci := 3) (v := .ref (h 9)) (C := RX3) (T := TX3) (N := 18) hx hb hts (fun w h => lw_in w (inX3 w h)) hown hK hP 0 rfl rfl 13 (by decide) (hts _ (lw_in _ t_301)) (fun _ h9 => h9) rfl dX3_add_31 ?_
      refine lv_aload_n hx hb dX3_add_34 rfl (lv_at hl 1 rfl) ?_
      refine va_get (D := D) (ci := 3) (v := .int (nI (d + 1))) (C := RX3) (T := TX3) (N := 18) hx hb hts (fun w h => lw_in w (inX3 w h)) hown hK hP 0 rfl rfl 12 (by decide) (hts _ (lw_in _ t_300)) (fun _ h9 => h9) rfl dX3_add_35 ?_
      refine lv_iconst (v := 1) hx hb dX3_add_38 (by decide) ?_
      refine lv_isub hx hb dX3_add_39 ?_
      refine lv_eqi (show (nI (d + 1) - 1) = nI d from nI_pred _) ?_
      refine lv_iload_n hx hb dX3_add_40 rfl (lv_at hl 2 rfl) ?_
      refine wx_past (x := some n) (g := la) hx hb hK hP hD hS 9 8 rfl rfl (i := d) hd (by decide) dX3_add_41 (fun H locs hP hD hS => ?_)
      have hP : va_P D vwCl (wM h k tx sz im cm nw (nd, kd, pa, (va_up be n (some x10)), (va_up af x10 (some n)), mi, np, lf, nm, (d + 1), (va_up la d (some n)), so, ro)) H := hP
      have hD : va_D A (wM h k tx sz im cm nw (nd, kd, pa, (va_up be n (some x10)), (va_up af x10 (some n)), mi, np, lf, nm, (d + 1), (va_up la d (some n)), so, ro)) := hD
      exact ct_endv hx hb hr hlocks hP hD hS (by simp [t_add, afA, e_10]) rfl dX3_add_42

set_option maxHeartbeats 4000000 in
set_option maxRecDepth 100000 in
theorem k_E_signed (l : Launch) (D : va_G) (h : Nat → Nat) (k : Nat → ClassId) (tx : Nat → Int32) (sz : Nat) (im : Bool) (cm : Nat) (nw : Int64) (nd : Nat) (kd : Nat → Int32) (pa : Nat → Option Nat) (be : Nat → Option Nat) (af : Nat → Option Nat) (mi : Nat → Bool) (np : Nat) (lf : Nat → Nat) (nm : Nat → Int32) (dp : Nat) (la : Nat → Option Nat) (so : Nat → Int32) (ro : Nat) (n : Nat) (x : Int32)  (hnd : nd < 700) (hn : n < 700) :
    Ct l yX3_signed wsX3_signed (rmN 1) D vwCl (tyM k) [.ref (h 0), .int (nI n), .int x] (wM h k tx sz im cm nw (nd, kd, pa, be, af, mi, np, lf, nm, dp, la, so, ro)) (wM h k tx sz im cm nw (t_sign (nd, kd, pa, be, af, mi, np, lf, nm, dp, la, so, ro) n x)) (some (.int (nI nd))) := by
  refine Ct.of (cc := cX3_signed) (maxL := 4) (ret := (some .int)) (lv := [(0, .ref (h 0)), (1, .int (nI n)), (2, .int x)]) (by decide) rfl (Nat.le_of_ble_eq_true rfl) rfl ?_
  intro p e s m below meth c A ls hx hb hr hml hts hown hlocks hK hP hD hS hA hl
  refine lv_aload_n hx hb dX3_signed_0 rfl (lv_at hl 0 rfl) ?_
  refine lv_iload_n hx hb dX3_signed_1 rfl (lv_at hl 2 rfl) ?_
  refine lv_bipush (v := 63) hx hb dX3_signed_2 (by decide) ?_
  refine lv_icmp_ne (tgt := 11) hx hb dX3_signed_4 (by decide) (fun c_4 => ?_) (fun c_4 => ?_)
  · have c_4 : ¬ x = 63 := c_4
    refine lv_iload_n hx hb dX3_signed_11 rfl (lv_at hl 2 rfl) ?_
    refine lv_bipush (v := 42) hx hb dX3_signed_12 (by decide) ?_
    refine lv_icmp_ne (tgt := 21) hx hb dX3_signed_14 (by decide) (fun c_14 => ?_) (fun c_14 => ?_)
    · have c_14 : ¬ x = 42 := c_14
      refine lv_iconst (v := 5) hx hb dX3_signed_21 (by decide) ?_
      refine ct_callV (As := [.int 5]) (rest := []) ⟨hx, hb, hml, hown, hts⟩ (k_E_node l D h k tx sz im cm nw nd kd pa be af mi np lf nm dp la so ro 5  (by omega)) (cwV 1 hts (gV lw_in t_364 t_366 t_13 t_26 t_367) rfl rfl rfl (by decide +kernel) ⟨Nat.le_of_ble_eq_true rfl, Nat.le_of_ble_eq_true rfl⟩) 0 rfl rfl hK hP hD hS hA rfl hl.1 rfl (Nat.le_of_ble_eq_true rfl) dX3_signed_22 ⟨Nat.zero_le _, Nat.zero_le _⟩ (fun H locs hP hD hS => ?_)
      refine W.eq (g2 := F0 m 25 ls [.int (nI nd)]) rfl ?_
      have hP : va_P D vwCl (wM h k tx sz im cm nw ((nd + 1), (upd kd nd 5), (va_up pa nd none), (va_up be nd none), (va_up af nd none), (va_up mi nd (nkM 5)), np, lf, nm, dp, la, so, ro)) H := hP
      have hD : va_D A (wM h k tx sz im cm nw ((nd + 1), (upd kd nd 5), (va_up pa nd none), (va_up be nd none), (va_up af nd none), (va_up mi nd (nkM 5)), np, lf, nm, dp, la, so, ro)) := hD
      refine lv_istore_n (lv' := [(3, .int (nI nd)), (0, .ref (h 0)), (1, .int (nI n)), (2, .int x)]) hx hb dX3_signed_25 rfl hl (by decide) rfl (fun ls hl => ?_)
      refine lv_aload_n hx hb dX3_signed_26 rfl (lv_at hl 1 rfl) ?_
      refine va_get (D := D) (ci := 3) (v := .ref (h 3)) (C := RX3) (T := TX3) (N := 18) hx hb hts (fun w h => lw_in w (inX3 w h)) hown hK hP 0 rfl rfl 4 (by decide) (hts _ (lw_in _ t_292)) (fun _ h9 => h9) rfl dX3_signed_27 ?_
      refine lv_iload_n hx hb dX3_signed_30 rfl (lv_at hl 2 rfl) ?_
      refine lv_iload_n hx hb dX3_signed_31 rfl (lv_at hl 0 rfl) ?_
      refine wx_past (x := some nd) (g := (va_up pa nd none)) hx hb hK hP hD hS 3 2 rfl rfl (i := n) hn (by decide) dX3_signed_32 (fun H locs hP hD hS => ?_)
      have hP : va_P D vwCl (wM h k tx sz im cm nw ((nd + 1), (upd kd nd 5), (va_up (va_up pa nd none) n (some nd)), (va_up be nd none), (va_up af nd none), (va_up mi nd (nkM 5)), np, lf, nm, dp, la, so, ro)) H := hP
      have hD : va_D A (wM h k tx sz im cm nw ((nd + 1), (upd kd nd 5), (va_up (va_up pa nd none) n (some nd)), (va_up be nd none), (va_up af nd none), (va_up mi nd (nkM 5)), np, lf, nm, dp, la, so, ro)) := hD
      refine lv_iload_n hx hb dX3_signed_33 rfl (lv_at hl 3 rfl) ?_
      refine lv_bipush (v := 43) hx hb dX3_signed_34 (by decide) ?_
      refine lv_icmp_ne (tgt := 51) hx hb dX3_signed_36 (by decide) (fun c_36 => ?_) (fun c_36 => ?_)
      · have c_36 : ¬ x = 43 := c_36
        refine lv_iload_n hx hb dX3_signed_51 rfl (lv_at hl 0 rfl) ?_
        exact ct_endi hx hb hr hlocks rfl hP hD hS (by simp [t_sign, sgK, sgM, c_4, c_14, c_36]) rfl dX3_signed_52
      · have c_36 : x = 43 := c_36
        refine lv_aload_n hx hb dX3_signed_39 rfl (lv_at hl 1 rfl) ?_
        refine va_get (D := D) (ci := 3) (v := .ref (h 6)) (C := RX3) (T := TX3) (N := 18) hx hb hts (fun w h => lw_in w (inX3 w h)) hown hK hP 0 rfl rfl 7 (by decide) (hts _ (lw_in _ t_295)) (fun _ h9 => h9) rfl dX3_signed_40 ?_
        refine lv_iload_n hx hb dX3_signed_43 rfl (lv_at hl 0 rfl) ?_
        refine lv_aload_n hx hb dX3_signed_44 rfl (lv_at hl 1 rfl) ?_
        refine va_get (D := D) (ci := 3) (v := .ref (h 6)) (C := RX3) (T := TX3) (N := 18) hx hb hts (fun w h => lw_in w (inX3 w h)) hown hK hP 0 rfl rfl 7 (by decide) (hts _ (lw_in _ t_295)) (fun _ h9 => h9) rfl dX3_signed_45 ?_
        refine lv_iload_n hx hb dX3_signed_48 rfl (lv_at hl 2 rfl) ?_
        refine wx_zald hx hb hK hP 6 5 rfl rfl (i := n) hn (by decide) dX3_signed_49 ?_
        refine wx_zastB (x := ((va_up mi nd (nkM 5)) n)) (g := (va_up mi nd (nkM 5))) hx hb hK hP hD hS 6 5 rfl rfl (i := nd) hnd (by decide) dX3_signed_50 (fun H locs hP hD hS => ?_)
        have hP : va_P D vwCl (wM h k tx sz im cm nw ((nd + 1), (upd kd nd 5), (va_up (va_up pa nd none) n (some nd)), (va_up be nd none), (va_up af nd none), (va_up (va_up mi nd (nkM 5)) nd ((va_up mi nd (nkM 5)) n)), np, lf, nm, dp, la, so, ro)) H := hP
        have hD : va_D A (wM h k tx sz im cm nw ((nd + 1), (upd kd nd 5), (va_up (va_up pa nd none) n (some nd)), (va_up be nd none), (va_up af nd none), (va_up (va_up mi nd (nkM 5)) nd ((va_up mi nd (nkM 5)) n)), np, lf, nm, dp, la, so, ro)) := hD
        refine lv_iload_n hx hb dX3_signed_51 rfl (lv_at hl 0 rfl) ?_
        exact ct_endi hx hb hr hlocks rfl hP hD hS (by simp [t_sign, sgK, sgM, c_4, c_14, c_36]) rfl dX3_signed_52
    · have c_14 : x = 42 := c_14
      refine lv_iconst (v := 4) hx hb dX3_signed_17 (by decide) ?_
      refine lv_goto (tgt := 22) hx hb dX3_signed_18 (by decide) ?_
      refine ct_callV (As := [.int 4]) (rest := []) ⟨hx, hb, hml, hown, hts⟩ (k_E_node l D h k tx sz im cm nw nd kd pa be af mi np lf nm dp la so ro 4  (by omega)) (cwV 1 hts (gV lw_in t_364 t_366 t_13 t_26 t_367) rfl rfl rfl (by decide +kernel) ⟨Nat.le_of_ble_eq_true rfl, Nat.le_of_ble_eq_true rfl⟩) 0 rfl rfl hK hP hD hS hA rfl hl.1 rfl (Nat.le_of_ble_eq_true rfl) dX3_signed_22 ⟨Nat.zero_le _, Nat.zero_le _⟩ (fun H locs hP hD hS => ?_)
      refine W.eq (g2 := F0 m 25 ls [.int (nI nd)]) rfl ?_
      have hP : va_P D vwCl (wM h k tx sz im cm nw ((nd + 1), (upd kd nd 4), (va_up pa nd none), (va_up be nd none), (va_up af nd none), (va_up mi nd (nkM 4)), np, lf, nm, dp, la, so, ro)) H := hP
      have hD : va_D A (wM h k tx sz im cm nw ((nd + 1), (upd kd nd 4), (va_up pa nd none), (va_up be nd none), (va_up af nd none), (va_up mi nd (nkM 4)), np, lf, nm, dp, la, so, ro)) := hD
      refine lv_istore_n (lv' := [(3, .int (nI nd)), (0, .ref (h 0)), (1, .int (nI n)), (2, .int x)]) hx hb dX3_signed_25 rfl hl (by decide) rfl (fun ls hl => ?_)
      refine lv_aload_n hx hb dX3_signed_26 rfl (lv_at hl 1 rfl) ?_
      refine va_get (D := D) (ci := 3) (v := .ref (h 3)) (C := RX3) (T := TX3) (N := 18) hx hb hts (fun w h => lw_in w (inX3 w h)) hown hK hP 0 rfl rfl 4 (by decide) (hts _ (lw_in _ t_292)) (fun _ h9 => h9) rfl dX3_signed_27 ?_
      refine lv_iload_n hx hb dX3_signed_30 rfl (lv_at hl 2 rfl) ?_
      refine lv_iload_n hx hb dX3_signed_31 rfl (lv_at hl 0 rfl) ?_
      refine wx_past (x := some nd) (g := (va_up pa nd none)) hx hb hK hP hD hS 3 2 rfl rfl (i := n) hn (by decide) dX3_signed_32 (fun H locs hP hD hS => ?_)
      have hP : va_P D vwCl (wM h k tx sz im cm nw ((nd + 1), (upd kd nd 4), (va_up (va_up pa nd none) n (some nd)), (va_up be nd none), (va_up af nd none), (va_up mi nd (nkM 4)), np, lf, nm, dp, la, so, ro)) H := hP
      have hD : va_D A (wM h k tx sz im cm nw ((nd + 1), (upd kd nd 4), (va_up (va_up pa nd none) n (some nd)), (va_up be nd none), (va_up af nd none), (va_up mi nd (nkM 4)), np, lf, nm, dp, la, so, ro)) := hD
      refine lv_iload_n hx hb dX3_signed_33 rfl (lv_at hl 3 rfl) ?_
      refine lv_bipush (v := 43) hx hb dX3_signed_34 (by decide) ?_
      refine lv_icmp_ne (tgt := 51) hx hb dX3_signed_36 (by decide) (fun c_36 => ?_) (fun c_36 => ?_)
      · have c_36 : ¬ x = 43 := c_36
        refine lv_iload_n hx hb dX3_signed_51 rfl (lv_at hl 0 rfl) ?_
        exact ct_endi hx hb hr hlocks rfl hP hD hS (by simp [t_sign, sgK, sgM, c_4, c_14, c_36]) rfl dX3_signed_52
      · have c_36 : x = 43 := c_36
        exact absurd (c_14.symm.trans c_36) (by decide)
  · have c_4 : x = 63 := c_4
    refine lv_iconst (v := 3) hx hb dX3_signed_7 (by decide) ?_
    refine lv_goto (tgt := 22) hx hb dX3_signed_8 (by decide) ?_
    refine ct_callV (As := [.int 3]) (rest := []) ⟨hx, hb, hml, hown, hts⟩ (k_E_node l D h k tx sz im cm nw nd kd pa be af mi np lf nm dp la so ro 3  (by omega)) (cwV 1 hts (gV lw_in t_364 t_366 t_13 t_26 t_367) rfl rfl rfl (by decide +kernel) ⟨Nat.le_of_ble_eq_true rfl, Nat.le_of_ble_eq_true rfl⟩) 0 rfl rfl hK hP hD hS hA rfl hl.1 rfl (Nat.le_of_ble_eq_true rfl) dX3_signed_22 ⟨Nat.zero_le _, Nat.zero_le _⟩ (fun H locs hP hD hS => ?_)
    refine W.eq (g2 := F0 m 25 ls [.int (nI nd)]) rfl ?_
    have hP : va_P D vwCl (wM h k tx sz im cm nw ((nd + 1), (upd kd nd 3), (va_up pa nd none), (va_up be nd none), (va_up af nd none), (va_up mi nd (nkM 3)), np, lf, nm, dp, la, so, ro)) H := hP
    have hD : va_D A (wM h k tx sz im cm nw ((nd + 1), (upd kd nd 3), (va_up pa nd none), (va_up be nd none), (va_up af nd none), (va_up mi nd (nkM 3)), np, lf, nm, dp, la, so, ro)) := hD
    refine lv_istore_n (lv' := [(3, .int (nI nd)), (0, .ref (h 0)), (1, .int (nI n)), (2, .int x)]) hx hb dX3_signed_25 rfl hl (by decide) rfl (fun ls hl => ?_)
    refine lv_aload_n hx hb dX3_signed_26 rfl (lv_at hl 1 rfl) ?_
    refine va_get (D := D) (ci := 3) (v := .ref (h 3)) (C := RX3) (T := TX3) (N := 18) hx hb hts (fun w h => lw_in w (inX3 w h)) hown hK hP 0 rfl rfl 4 (by decide) (hts _ (lw_in _ t_292)) (fun _ h9 => h9) rfl dX3_signed_27 ?_
    refine lv_iload_n hx hb dX3_signed_30 rfl (lv_at hl 2 rfl) ?_
    refine lv_iload_n hx hb dX3_signed_31 rfl (lv_at hl 0 rfl) ?_
    refine wx_past (x := some nd) (g := (va_up pa nd none)) hx hb hK hP hD hS 3 2 rfl rfl (i := n) hn (by decide) dX3_signed_32 (fun H locs hP hD hS => ?_)
    have hP : va_P D vwCl (wM h k tx sz im cm nw ((nd + 1), (upd kd nd 3), (va_up (va_up pa nd none) n (some nd)), (va_up be nd none), (va_up af nd none), (va_up mi nd (nkM 3)), np, lf, nm, dp, la, so, ro)) H := hP
    have hD : va_D A (wM h k tx sz im cm nw ((nd + 1), (upd kd nd 3), (va_up (va_up pa nd none) n (some nd)), (va_up be nd none), (va_up af nd none), (va_up mi nd (nkM 3)), np, lf, nm, dp, la, so, ro)) := hD
    refine lv_iload_n hx hb dX3_signed_33 rfl (lv_at hl 3 rfl) ?_
    refine lv_bipush (v := 43) hx hb dX3_signed_34 (by decide) ?_
    refine lv_icmp_ne (tgt := 51) hx hb dX3_signed_36 (by decide) (fun c_36 => ?_) (fun c_36 => ?_)
    · have c_36 : ¬ x = 43 := c_36
      refine lv_iload_n hx hb dX3_signed_51 rfl (lv_at hl 0 rfl) ?_
      exact ct_endi hx hb hr hlocks rfl hP hD hS (by simp [t_sign, sgK, sgM, c_4, c_36]) rfl dX3_signed_52
    · have c_36 : x = 43 := c_36
      exact absurd (c_4.symm.trans c_36) (by decide)
end
section
/-! The methods of the reference: query (laid by program) -/
set_option maxHeartbeats 4000000 in
set_option maxRecDepth 100000 in
theorem k_E_begins (l : Launch) (D : va_G) (h : Nat → Nat) (k : Nat → ClassId) (tx : Nat → Int32) (sz : Nat) (im : Bool) (cm : Nat) (nw : Int64) (nd : Nat) (kd : Nat → Int32) (pa : Nat → Option Nat) (be : Nat → Option Nat) (af : Nat → Option Nat) (mi : Nat → Bool) (np : Nat) (lf : Nat → Nat) (nm : Nat → Int32) (dp : Nat) (la : Nat → Option Nat) (so : Nat → Int32) (ro : Nat) (q : Nat) (x : Nat) (nb : Nat) (ok : okT nb pa be af np lf) (hq : q < np) (hx9 : x < nb) :
    Ct l yX3_begins wsX3_begins (rmN 0) D vwCl (tyM k) [.ref (h 0), .int (nI q), .int (nI x)] (wM h k tx sz im cm nw (nd, kd, pa, be, af, mi, np, lf, nm, dp, la, so, ro)) (wM h k tx sz im cm nw (nd, kd, pa, be, af, mi, np, lf, nm, dp, la, so, ro)) (some (.int (bI (bgC kd pa be mi 701 (lf q) x)))) := by
  refine Ct.of (cc := cX3_begins) (maxL := 6) (ret := (some .boolean)) (lv := [(0, .ref (h 0)), (1, .int (nI q)), (2, .int (nI x))]) (by decide) rfl (Nat.le_of_ble_eq_true rfl) rfl ?_
  intro p e s m below meth c A ls hx hb hr hml hts hown hlocks hK hP hD hS hA hl
  obtain ⟨hnb, hnp, okP, okB, okA, okL⟩ := ok
  have loop : ∀ (f : Nat) (n : Nat), (n < nb) → (701 ≤ f + n) → (bgC kd pa be mi f n x = bgC kd pa be mi 701 (lf q) x) → ∀ (H : Heap) (locs : List Loc), va_P D vwCl (wM h k tx sz im cm nw (nd, kd, pa, be, af, mi, np, lf, nm, dp, la, so, ro)) H → va_D A (wM h k tx sz im cm nw (nd, kd, pa, be, af, mi, np, lf, nm, dp, la, so, ro)) → va_S A s.heap H locs → ∀ ls : Array Slot, lv_has ls 6 [(3, .int (nI n)), (0, .ref (h 0)), (1, .int (nI q)), (2, .int (nI x))] →
      W p l e (rmN 0) s m ([.ref (h 0), .int (nI q), .int (nI x)] : List Value).toArray below meth c H locs 0 0 (MQ below (CtQ D vwCl A (wM h k tx sz im cm nw (nd, kd, pa, be, af, mi, np, lf, nm, dp, la, so, ro)) (some (.int (bI (bgC kd pa be mi 701 (lf q) x))))) ([.ref (h 0), .int (nI q), .int (nI x)] : List Value).toArray s 0 0 A) (F0 m 7 ls []) := by
    intro f
    induction f with
    | zero =>
      intro n hn hf he H locs hP hD hS ls hl
      exact absurd hf (by omega)
    | succ f ih =>
      intro n hn hf he H locs hP hD hS ls hl
      refine lv_iload_n hx hb dX3_begins_7 rfl (lv_at hl 0 rfl) ?_
      refine lv_iload_n hx hb dX3_begins_8 rfl (lv_at hl 3 rfl) ?_
      refine lv_icmp_eq (tgt := 81) hx hb dX3_begins_9 (by decide) (fun c_9 => ?_) (fun c_9 => ?_)
      · have c_9 : n = x := (nI_eq (a := n) (b := x) (by omega) (by omega)).mp c_9
        refine lv_iconst (v := 1) hx hb dX3_begins_81 (by decide) ?_
        exact ct_endi hx hb hr hlocks rfl hP hD hS rfl (by rw [← he, bgC, if_pos c_9]; rfl) dX3_begins_82
      · have c_9 : ¬ n = x := id (fun z => c_9 ((nI_eq (a := n) (b := x) (by omega) (by omega)).mpr z))
        refine lv_aload_n hx hb dX3_begins_12 rfl (lv_at hl 1 rfl) ?_
        refine va_get (D := D) (ci := 3) (v := .ref (h 3)) (C := RX3) (T := TX3) (N := 18) hx hb hts (fun w h => lw_in w (inX3 w h)) hown hK hP 0 rfl rfl 4 (by decide) (hts _ (lw_in _ t_292)) (fun _ h9 => h9) rfl dX3_begins_13 ?_
        refine lv_iload_n hx hb dX3_begins_16 rfl (lv_at hl 0 rfl) ?_
        refine wx_pald hx hb hK hP 3 2 rfl rfl (i := n) (by omega) (by decide) dX3_begins_17 ?_
        refine W.eq (g2 := F0 m 18 ls [.int (pI (pa n))]) rfl ?_
        rcases e_17 : pa n with _ | x17
        · refine W.eq (g2 := F0 m 18 ls [.int (-1)]) rfl ?_
          refine lv_istore (lv' := [(4, .int (-1)), (3, .int (nI n)), (0, .ref (h 0)), (1, .int (nI q)), (2, .int (nI x))]) hx hb dX3_begins_18 hl (by decide) rfl (fun ls hl => ?_)
          refine lv_iload hx hb dX3_begins_20 (lv_at hl 0 rfl) ?_
          refine lv_if_ge (tgt := 27) hx hb dX3_begins_22 (by decide) (fun c_22 => ?_) (fun c_22 => ?_)
          · exact absurd c_22 (by decide)
          · refine lv_iconst (v := 0) hx hb dX3_begins_25 (by decide) ?_
            exact ct_endi hx hb hr hlocks rfl hP hD hS rfl (by rw [← he, bgC, if_neg c_9, e_17]; rfl) dX3_begins_26
        · refine W.eq (g2 := F0 m 18 ls [.int (nI x17)]) rfl ?_
          have hp := okP _ _ hn e_17
          refine lv_istore (lv' := [(4, .int (nI x17)), (3, .int (nI n)), (0, .ref (h 0)), (1, .int (nI q)), (2, .int (nI x))]) hx hb dX3_begins_18 hl (by decide) rfl (fun ls hl => ?_)
          refine lv_iload hx hb dX3_begins_20 (lv_at hl 0 rfl) ?_
          refine lv_if_ge (tgt := 27) hx hb dX3_begins_22 (by decide) (fun c_22 => ?_) (fun c_22 => ?_)
          · have c_22 : 0 ≤ x17 := (nI_leI (a := 0) (b := x17) (by omega) (by omega)).mp c_22
            refine lv_aload_n hx hb dX3_begins_27 rfl (lv_at hl 2 rfl) ?_
            refine va_get (D := D) (ci := 3) (v := .ref (h 4)) (C := RX3) (T := TX3) (N := 18) hx hb hts (fun w h => lw_in w (inX3 w h)) hown hK hP 0 rfl rfl 5 (by decide) (hts _ (lw_in _ t_293)) (fun _ h9 => h9) rfl dX3_begins_28 ?_
            refine lv_iload_n hx hb dX3_begins_31 rfl (lv_at hl 1 rfl) ?_
            refine wx_pald hx hb hK hP 4 3 rfl rfl (i := n) (by omega) (by decide) dX3_begins_32 ?_
            refine lv_istore (lv' := [(5, .int (pI (be n))), (4, .int (nI x17)), (3, .int (nI n)), (0, .ref (h 0)), (1, .int (nI q)), (2, .int (nI x))]) hx hb dX3_begins_33 hl (by decide) rfl (fun ls hl => ?_)
            have he2 : (if alB (kd x17) be mi 701 (be n) = true then bgC kd pa be mi f x17 x else false) = bgC kd pa be mi 701 (lf q) x := by rw [← he, bgC, if_neg c_9, e_17]
            have loop2 : ∀ (g : Nat) (o : Option Nat), (∀ w0, o = some w0 → w0 < g ∧ w0 < nb) → (alB (kd x17) be mi g o = alB (kd x17) be mi 701 (be n)) → ∀ (H : Heap) (locs : List Loc), va_P D vwCl (wM h k tx sz im cm nw (nd, kd, pa, be, af, mi, np, lf, nm, dp, la, so, ro)) H → va_D A (wM h k tx sz im cm nw (nd, kd, pa, be, af, mi, np, lf, nm, dp, la, so, ro)) → va_S A s.heap H locs → ∀ ls : Array Slot, lv_has ls 6 [(5, .int (pI o)), (4, .int (nI x17)), (3, .int (nI n)), (0, .ref (h 0)), (1, .int (nI q)), (2, .int (nI x))] →
                W p l e (rmN 0) s m ([.ref (h 0), .int (nI q), .int (nI x)] : List Value).toArray below meth c H locs 0 0 (MQ below (CtQ D vwCl A (wM h k tx sz im cm nw (nd, kd, pa, be, af, mi, np, lf, nm, dp, la, so, ro)) (some (.int (bI (bgC kd pa be mi 701 (lf q) x))))) ([.ref (h 0), .int (nI q), .int (nI x)] : List Value).toArray s 0 0 A) (F0 m 35 ls []) := by
              intro g
              induction g with
              | zero =>
                intro o ho hk H locs hP hD hS ls hl
                rcases o with _ | w0
                · have hl : lv_has ls 6 [(5, .int (-1)), (4, .int (nI x17)), (3, .int (nI n)), (0, .ref (h 0)), (1, .int (nI q)), (2, .int (nI x))] := hl
                  refine lv_iload hx hb dX3_begins_35 (lv_at hl 0 rfl) ?_
                  refine lv_if_lt (tgt := 75) hx hb dX3_begins_37 (by decide) (fun c_37 => ?_) (fun c_37 => ?_)
                  · refine lv_iload hx hb dX3_begins_75 (lv_at hl 1 rfl) ?_
                    refine lv_istore_n (lv' := [(3, .int (nI x17)), (5, .int (-1)), (4, .int (nI x17)), (0, .ref (h 0)), (1, .int (nI q)), (2, .int (nI x))]) hx hb dX3_begins_77 rfl hl (by decide) rfl (fun ls hl => ?_)
                    refine lv_goto (tgt := 7) hx hb dX3_begins_78 (by decide) ?_
                    exact ih x17 (by omega) (by omega) (by rw [← he2, if_pos (by rw [← hk]; rfl)]) _ _ hP hD hS _ (lv_sub hl [0, 3, 4, 5] rfl)
                  · exact absurd (by decide) c_37
                · have hl : lv_has ls 6 [(5, .int (nI w0)), (4, .int (nI x17)), (3, .int (nI n)), (0, .ref (h 0)), (1, .int (nI q)), (2, .int (nI x))] := hl
                  exact absurd (ho w0 rfl).1 (Nat.not_lt_zero _)
              | succ g ih2 =>
                intro o ho hk H locs hP hD hS ls hl
                rcases o with _ | w0
                · have hl : lv_has ls 6 [(5, .int (-1)), (4, .int (nI x17)), (3, .int (nI n)), (0, .ref (h 0)), (1, .int (nI q)), (2, .int (nI x))] := hl
                  refine lv_iload hx hb dX3_begins_35 (lv_at hl 0 rfl) ?_
                  refine lv_if_lt (tgt := 75) hx hb dX3_begins_37 (by decide) (fun c_37 => ?_) (fun c_37 => ?_)
                  · refine lv_iload hx hb dX3_begins_75 (lv_at hl 1 rfl) ?_
                    refine lv_istore_n (lv' := [(3, .int (nI x17)), (5, .int (-1)), (4, .int (nI x17)), (0, .ref (h 0)), (1, .int (nI q)), (2, .int (nI x))]) hx hb dX3_begins_77 rfl hl (by decide) rfl (fun ls hl => ?_)
                    refine lv_goto (tgt := 7) hx hb dX3_begins_78 (by decide) ?_
                    exact ih x17 (by omega) (by omega) (by rw [← he2, if_pos (by rw [← hk]; rfl)]) _ _ hP hD hS _ (lv_sub hl [0, 3, 4, 5] rfl)
                  · exact absurd (by decide) c_37
                · have hl : lv_has ls 6 [(5, .int (nI w0)), (4, .int (nI x17)), (3, .int (nI n)), (0, .ref (h 0)), (1, .int (nI q)), (2, .int (nI x))] := hl
                  have hz := ho w0 rfl
                  refine lv_iload hx hb dX3_begins_35 (lv_at hl 0 rfl) ?_
                  refine lv_if_lt (tgt := 75) hx hb dX3_begins_37 (by decide) (fun c_37 => ?_) (fun c_37 => ?_)
                  · have c_37 : w0 < 0 := (nI_ltI (a := w0) (b := 0) (by omega) (by omega)).mp c_37
                    exact absurd c_37 (Nat.not_lt_zero _)
                  · have c_37 : 0 ≤ w0 := Nat.le_of_not_lt (fun z => c_37 ((nI_ltI (a := w0) (b := 0) (by omega) (by omega)).mpr z))
                    refine lv_aload_n hx hb dX3_begins_40 rfl (lv_at hl 3 rfl) ?_
                    refine va_get (D := D) (ci := 3) (v := .ref (h 2)) (C := RX3) (T := TX3) (N := 18) hx hb hts (fun w h => lw_in w (inX3 w h)) hown hK hP 0 rfl rfl 3 (by decide) (hts _ (lw_in _ t_291)) (fun _ h9 => h9) rfl dX3_begins_41 ?_
                    refine lv_iload hx hb dX3_begins_44 (lv_at hl 1 rfl) ?_
                    refine wx_iald hx hb hK hP 2 1 rfl rfl (i := x17) (by omega) (by decide) dX3_begins_46 ?_
                    refine lv_iconst (v := 2) hx hb dX3_begins_47 (by decide) ?_
                    refine lv_icmp_ne (tgt := 75) hx hb dX3_begins_48 (by decide) (fun c_48 => ?_) (fun c_48 => ?_)
                    · have c_48 : ¬ (kd x17) = 2 := c_48
                      refine lv_iload hx hb dX3_begins_75 (lv_at hl 1 rfl) ?_
                      refine lv_istore_n (lv' := [(3, .int (nI x17)), (5, .int (nI w0)), (4, .int (nI x17)), (0, .ref (h 0)), (1, .int (nI q)), (2, .int (nI x))]) hx hb dX3_begins_77 rfl hl (by decide) rfl (fun ls hl => ?_)
                      refine lv_goto (tgt := 7) hx hb dX3_begins_78 (by decide) ?_
                      exact ih x17 (by omega) (by omega) (by rw [← he2, if_pos (by rw [← hk]; rw [alB, if_neg c_48])]) _ _ hP hD hS _ (lv_sub hl [0, 3, 4, 5] rfl)
                    · have c_48 : (kd x17) = 2 := c_48
                      refine lv_aload_n hx hb dX3_begins_51 rfl (lv_at hl 3 rfl) ?_
                      refine va_get (D := D) (ci := 3) (v := .ref (h 6)) (C := RX3) (T := TX3) (N := 18) hx hb hts (fun w h => lw_in w (inX3 w h)) hown hK hP 0 rfl rfl 7 (by decide) (hts _ (lw_in _ t_295)) (fun _ h9 => h9) rfl dX3_begins_52 ?_
                      refine lv_iload hx hb dX3_begins_55 (lv_at hl 0 rfl) ?_
                      refine wx_zald hx hb hK hP 6 5 rfl rfl (i := w0) (by omega) (by decide) dX3_begins_57 ?_
                      refine lv_if_ne (tgt := 63) hx hb dX3_begins_58 (by decide) (fun c_58 => ?_) (fun c_58 => ?_)
                      · have c_58 : (mi w0) = true := (bI_ne0 _).mp c_58
                        refine lv_aload_n hx hb dX3_begins_63 rfl (lv_at hl 3 rfl) ?_
                        refine va_get (D := D) (ci := 3) (v := .ref (h 4)) (C := RX3) (T := TX3) (N := 18) hx hb hts (fun w h => lw_in w (inX3 w h)) hown hK hP 0 rfl rfl 5 (by decide) (hts _ (lw_in _ t_293)) (fun _ h9 => h9) rfl dX3_begins_64 ?_
                        refine lv_iload hx hb dX3_begins_67 (lv_at hl 0 rfl) ?_
                        refine wx_pald hx hb hK hP 4 3 rfl rfl (i := w0) (by omega) (by decide) dX3_begins_69 ?_
                        refine lv_istore (lv' := [(5, .int (pI (be w0))), (4, .int (nI x17)), (3, .int (nI n)), (0, .ref (h 0)), (1, .int (nI q)), (2, .int (nI x))]) hx hb dX3_begins_70 hl (by decide) rfl (fun ls hl => ?_)
                        refine lv_goto (tgt := 35) hx hb dX3_begins_72 (by decide) ?_
                        exact ih2 (be w0) (fun y hy => ⟨by have := okB w0 y hz.2 hy; omega, by have := okB w0 y hz.2 hy; omega⟩) (by rw [← hk, alB, if_pos c_48, if_pos c_58]) _ _ hP hD hS _ (lv_sub hl [0, 1, 2, 3, 4, 5] rfl)
                      · have c_58 : (mi w0) = false := (bI_eq0 _).mp c_58
                        refine lv_iconst (v := 0) hx hb dX3_begins_61 (by decide) ?_
                        exact ct_endi hx hb hr hlocks rfl hP hD hS rfl (by rw [← he2, if_neg (by rw [← hk, alB, if_pos c_48, if_neg (bF c_58)]; decide)]; rfl) dX3_begins_62
            exact loop2 701 (be n) (fun y hy => ⟨by have := okB n y hn hy; omega, by have := okB n y hn hy; omega⟩) rfl _ _ hP hD hS _ (lv_sub hl [0, 1, 2, 3, 4, 5] rfl)
          · have c_22 : x17 < 0 := Nat.lt_of_not_le (fun z => c_22 ((nI_leI (a := 0) (b := x17) (by omega) (by omega)).mpr z))
            exact absurd c_22 (Nat.not_lt_zero _)
  refine lv_aload_n hx hb dX3_begins_0 rfl (lv_at hl 0 rfl) ?_
  refine va_get (D := D) (ci := 3) (v := .ref (h 7)) (C := RX3) (T := TX3) (N := 18) hx hb hts (fun w h => lw_in w (inX3 w h)) hown hK hP 0 rfl rfl 9 (by decide) (hts _ (lw_in _ t_297)) (fun _ h9 => h9) rfl dX3_begins_1 ?_
  refine lv_iload_n hx hb dX3_begins_4 rfl (lv_at hl 1 rfl) ?_
  refine wx_nald hx hb hK hP 7 6 rfl rfl (i := q) (by omega) (by decide) dX3_begins_5 ?_
  refine lv_istore_n (lv' := [(3, .int (nI (lf q))), (0, .ref (h 0)), (1, .int (nI q)), (2, .int (nI x))]) hx hb dX3_begins_6 rfl hl (by decide) rfl (fun ls hl => ?_)
  exact loop 701 (lf q) (okL q hq) (by omega) rfl _ _ hP hD hS _ (lv_sub hl [0, 1, 2, 3] rfl)

set_option maxHeartbeats 4000000 in
set_option maxRecDepth 100000 in
theorem k_E_firsts (l : Launch) (D : va_G) (h : Nat → Nat) (k : Nat → ClassId) (tx : Nat → Int32) (sz : Nat) (im : Bool) (cm : Nat) (nw : Int64) (nd : Nat) (kd : Nat → Int32) (pa : Nat → Option Nat) (be : Nat → Option Nat) (af : Nat → Option Nat) (mi : Nat → Bool) (np : Nat) (lf : Nat → Nat) (nm : Nat → Int32) (dp : Nat) (la : Nat → Option Nat) (so : Nat → Int32) (ro : Nat) (x : Nat) (nb : Nat) (ok : okT nb pa be af np lf) (hx9 : x < nb) :
    Ct l yX3_firsts wsX3_firsts (rmN 1) D vwCl (tyM k) [.ref (h 0), .int (nI x)] (wM h k tx sz im cm nw (nd, kd, pa, be, af, mi, np, lf, nm, dp, la, so, ro)) (wM h k tx sz im cm nw (nd, kd, pa, be, af, mi, np, lf, nm, dp, la, so, ro)) (some (.long (fsF kd pa be mi np lf x))) := by
  refine Ct.of (cc := cX3_firsts) (maxL := 5) (ret := (some .long)) (lv := [(0, .ref (h 0)), (1, .int (nI x))]) (by decide) rfl (Nat.le_of_ble_eq_true rfl) rfl ?_
  intro p e s m below meth c A ls hx hb hr hml hts hown hlocks hK hP hD hS hA hl
  have ok0 := ok
  obtain ⟨hnb, hnp, okP, okB, okA, okL⟩ := ok
  have loop : ∀ (n : Nat) (i : Nat) (r : Int64), (i + n = np) → (fsL kd pa be mi lf x n i r = fsF kd pa be mi np lf x) → ∀ (H : Heap) (locs : List Loc), va_P D vwCl (wM h k tx sz im cm nw (nd, kd, pa, be, af, mi, np, lf, nm, dp, la, so, ro)) H → va_D A (wM h k tx sz im cm nw (nd, kd, pa, be, af, mi, np, lf, nm, dp, la, so, ro)) → va_S A s.heap H locs → ∀ ls : Array Slot, lv_has ls 5 [(4, .int (nI i)), (2, .long r), (0, .ref (h 0)), (1, .int (nI x))] →
      W p l e (rmN 1) s m ([.ref (h 0), .int (nI x)] : List Value).toArray below meth c H locs 0 0 (MQ below (CtQ D vwCl A (wM h k tx sz im cm nw (nd, kd, pa, be, af, mi, np, lf, nm, dp, la, so, ro)) (some (.long (fsF kd pa be mi np lf x)))) ([.ref (h 0), .int (nI x)] : List Value).toArray s 0 0 A) (F0 m 5 ls []) := by
    intro n
    induction n with
    | zero =>
      intro i r hi he H locs hP hD hS ls hl
      refine lv_iload hx hb dX3_firsts_5 (lv_at hl 0 rfl) ?_
      refine lv_aload_n hx hb dX3_firsts_7 rfl (lv_at hl 2 rfl) ?_
      refine va_get (D := D) (ci := 3) (v := .int (nI np)) (C := RX3) (T := TX3) (N := 18) hx hb hts (fun w h => lw_in w (inX3 w h)) hown hK hP 0 rfl rfl 8 (by decide) (hts _ (lw_in _ t_296)) (fun _ h9 => h9) rfl dX3_firsts_8 ?_
      refine lv_icmp_ge (tgt := 41) hx hb dX3_firsts_11 (by decide) (fun c_11 => ?_) (fun c_11 => ?_)
      · have c_11 : np ≤ i := (nI_leI (a := np) (b := i) (by omega) (by omega)).mp c_11
        refine lv_lload_n hx hb dX3_firsts_41 rfl (lv_at hl 1 rfl) ?_
        exact ct_endl hx hb hr hlocks hP hD hS rfl (by rw [← he]; rfl) dX3_firsts_42
      · have c_11 : i < np := Nat.lt_of_not_le (fun z => c_11 ((nI_leI (a := np) (b := i) (by omega) (by omega)).mpr z))
        exact absurd c_11 (by omega)
    | succ n ih =>
      intro i r hi he H locs hP hD hS ls hl
      refine lv_iload hx hb dX3_firsts_5 (lv_at hl 0 rfl) ?_
      refine lv_aload_n hx hb dX3_firsts_7 rfl (lv_at hl 2 rfl) ?_
      refine va_get (D := D) (ci := 3) (v := .int (nI np)) (C := RX3) (T := TX3) (N := 18) hx hb hts (fun w h => lw_in w (inX3 w h)) hown hK hP 0 rfl rfl 8 (by decide) (hts _ (lw_in _ t_296)) (fun _ h9 => h9) rfl dX3_firsts_8 ?_
      refine lv_icmp_ge (tgt := 41) hx hb dX3_firsts_11 (by decide) (fun c_11 => ?_) (fun c_11 => ?_)
      · have c_11 : np ≤ i := (nI_leI (a := np) (b := i) (by omega) (by omega)).mp c_11
        exact absurd c_11 (by omega)
      · have c_11 : i < np := Nat.lt_of_not_le (fun z => c_11 ((nI_leI (a := np) (b := i) (by omega) (by omega)).mpr z))
        refine lv_lload_n hx hb dX3_firsts_14 rfl (lv_at hl 1 rfl) ?_
        refine lv_aload_n hx hb dX3_firsts_15 rfl (lv_at hl 2 rfl) ?_
        refine lv_iload hx hb dX3_firsts_16 (lv_at hl 0 rfl) ?_
        refine lv_iload_n hx hb dX3_firsts_18 rfl (lv_at hl 3 rfl) ?_
        refine ct_callV (As := [.int (nI i), .int (nI x)]) (rest := [.long r]) ⟨hx, hb, hml, hown, hts⟩ (k_E_begins l D h k tx sz im cm nw nd kd pa be af mi np lf nm dp la so ro i x nb ok0 (by omega) hx9) (cwV 2 hts (gV lw_in t_391 t_393 t_18 t_26 t_394) rfl rfl rfl (by decide +kernel) ⟨Nat.le_of_ble_eq_true rfl, Nat.le_of_ble_eq_true rfl⟩) 0 rfl rfl hK hP hD hS hA rfl hl.1 rfl (Nat.le_of_ble_eq_true rfl) dX3_firsts_19 ⟨Nat.zero_le _, Nat.zero_le _⟩ (fun H locs hP hD hS => ?_)
        refine W.eq (g2 := F0 m 22 ls [.int (bI (bgC kd pa be mi 701 (lf i) x)), .long r]) rfl ?_
        refine lv_if_eq (tgt := 32) hx hb dX3_firsts_22 (by decide) (fun c_22 => ?_) (fun c_22 => ?_)
        · have c_22 : (bgC kd pa be mi 701 (lf i) x) = false := (bI_eq0 _).mp c_22
          refine lv_lconst (v := 0) hx hb dX3_firsts_32 (by decide) ?_
          refine lv_lor hx hb dX3_firsts_33 ?_
          refine lv_lstore_n (lv' := [(2, .long (r ||| 0)), (4, .int (nI i)), (0, .ref (h 0)), (1, .int (nI x))]) hx hb dX3_firsts_34 rfl hl (by decide) rfl (fun ls hl => ?_)
          refine lv_iinc (v := nI (i + 1)) (lv' := [(4, .int (nI (i + 1))), (2, .long (r ||| 0)), (0, .ref (h 0)), (1, .int (nI x))]) hx hb dX3_firsts_35 hl (k := 1) rfl (nI_1 _) (by decide) rfl (fun ls hl => ?_)
          refine lv_goto (tgt := 5) hx hb dX3_firsts_38 (by decide) ?_
          exact ih (i + 1) (r ||| 0) (by omega) (by rw [← he, fsL, if_neg (bF c_22)]) _ _ hP hD hS _ (lv_sub hl [0, 1, 2, 3] rfl)
        · have c_22 : (bgC kd pa be mi 701 (lf i) x) = true := (bI_ne0 _).mp c_22
          refine lv_lconst (v := 1) hx hb dX3_firsts_25 (by decide) ?_
          refine lv_iload hx hb dX3_firsts_26 (lv_at hl 0 rfl) ?_
          refine lv_lshl (v := ((1 : Int64) <<< ((nI i).toInt64 &&& 63))) hx hb dX3_firsts_28 rfl ?_
          refine lv_goto (tgt := 33) hx hb dX3_firsts_29 (by decide) ?_
          refine lv_lor hx hb dX3_firsts_33 ?_
          refine lv_lstore_n (lv' := [(2, .long (r ||| ((1 : Int64) <<< ((nI i).toInt64 &&& 63)))), (4, .int (nI i)), (0, .ref (h 0)), (1, .int (nI x))]) hx hb dX3_firsts_34 rfl hl (by decide) rfl (fun ls hl => ?_)
          refine lv_iinc (v := nI (i + 1)) (lv' := [(4, .int (nI (i + 1))), (2, .long (r ||| ((1 : Int64) <<< ((nI i).toInt64 &&& 63)))), (0, .ref (h 0)), (1, .int (nI x))]) hx hb dX3_firsts_35 hl (k := 1) rfl (nI_1 _) (by decide) rfl (fun ls hl => ?_)
          refine lv_goto (tgt := 5) hx hb dX3_firsts_38 (by decide) ?_
          exact ih (i + 1) (r ||| ((1 : Int64) <<< ((nI i).toInt64 &&& 63))) (by omega) (by rw [← he, fsL, if_pos c_22]) _ _ hP hD hS _ (lv_sub hl [0, 1, 2, 3] rfl)
  refine lv_lconst (v := 0) hx hb dX3_firsts_0 (by decide) ?_
  refine lv_lstore_n (lv' := [(2, .long 0), (0, .ref (h 0)), (1, .int (nI x))]) hx hb dX3_firsts_1 rfl hl (by decide) rfl (fun ls hl => ?_)
  refine lv_iconst (v := 0) hx hb dX3_firsts_2 (by decide) ?_
  refine lv_istore (lv' := [(4, .int 0), (2, .long 0), (0, .ref (h 0)), (1, .int (nI x))]) hx hb dX3_firsts_3 hl (by decide) rfl (fun ls hl => ?_)
  exact loop np 0 0 (by omega) rfl _ _ hP hD hS _ (lv_sub hl [0, 1, 2, 3] rfl)

set_option maxHeartbeats 4000000 in
set_option maxRecDepth 100000 in
theorem k_E_ends (l : Launch) (D : va_G) (h : Nat → Nat) (k : Nat → ClassId) (tx : Nat → Int32) (sz : Nat) (im : Bool) (cm : Nat) (nw : Int64) (nd : Nat) (kd : Nat → Int32) (pa : Nat → Option Nat) (be : Nat → Option Nat) (af : Nat → Option Nat) (mi : Nat → Bool) (np : Nat) (lf : Nat → Nat) (nm : Nat → Int32) (dp : Nat) (la : Nat → Option Nat) (so : Nat → Int32) (ro : Nat) (q : Nat) (nb : Nat) (ok : okT nb pa be af np lf) (hq : q < np) :
    Ct l yX3_ends wsX3_ends (rmN 0) D vwCl (tyM k) [.ref (h 0), .int (nI q)] (wM h k tx sz im cm nw (nd, kd, pa, be, af, mi, np, lf, nm, dp, la, so, ro)) (wM h k tx sz im cm nw (nd, kd, pa, be, af, mi, np, lf, nm, dp, la, so, ro)) (some (.int (bI (edC kd pa af mi 701 (lf q))))) := by
  refine Ct.of (cc := cX3_ends) (maxL := 4) (ret := (some .boolean)) (lv := [(0, .ref (h 0)), (1, .int (nI q))]) (by decide) rfl (Nat.le_of_ble_eq_true rfl) rfl ?_
  intro p e s m below meth c A ls hx hb hr hml hts hown hlocks hK hP hD hS hA hl
  obtain ⟨hnb, hnp, okP, okB, okA, okL⟩ := ok
  have loop : ∀ (f : Nat) (n : Nat), (n < nb) → (701 ≤ f + n) → (edC kd pa af mi f n = edC kd pa af mi 701 (lf q)) → ∀ (H : Heap) (locs : List Loc), va_P D vwCl (wM h k tx sz im cm nw (nd, kd, pa, be, af, mi, np, lf, nm, dp, la, so, ro)) H → va_D A (wM h k tx sz im cm nw (nd, kd, pa, be, af, mi, np, lf, nm, dp, la, so, ro)) → va_S A s.heap H locs → ∀ ls : Array Slot, lv_has ls 4 [(2, .int (nI n)), (0, .ref (h 0)), (1, .int (nI q))] →
      W p l e (rmN 0) s m ([.ref (h 0), .int (nI q)] : List Value).toArray below meth c H locs 0 0 (MQ below (CtQ D vwCl A (wM h k tx sz im cm nw (nd, kd, pa, be, af, mi, np, lf, nm, dp, la, so, ro)) (some (.int (bI (edC kd pa af mi 701 (lf q)))))) ([.ref (h 0), .int (nI q)] : List Value).toArray s 0 0 A) (F0 m 7 ls []) := by
    intro f
    induction f with
    | zero =>
      intro n hn hf he H locs hP hD hS ls hl
      exact absurd hf (by omega)
    | succ f ih =>
      intro n hn hf he H locs hP hD hS ls hl
      refine lv_aload_n hx hb dX3_ends_7 rfl (lv_at hl 1 rfl) ?_
      refine va_get (D := D) (ci := 3) (v := .ref (h 3)) (C := RX3) (T := TX3) (N := 18) hx hb hts (fun w h => lw_in w (inX3 w h)) hown hK hP 0 rfl rfl 4 (by decide) (hts _ (lw_in _ t_292)) (fun _ h9 => h9) rfl dX3_ends_8 ?_
      refine lv_iload_n hx hb dX3_ends_11 rfl (lv_at hl 0 rfl) ?_
      refine wx_pald hx hb hK hP 3 2 rfl rfl (i := n) (by omega) (by decide) dX3_ends_12 ?_
      refine W.eq (g2 := F0 m 13 ls [.int (pI (pa n))]) rfl ?_
      rcases e_12 : pa n with _ | x12
      · refine W.eq (g2 := F0 m 13 ls [.int (-1)]) rfl ?_
        refine lv_if_lt (tgt := 73) hx hb dX3_ends_13 (by decide) (fun c_13 => ?_) (fun c_13 => ?_)
        · refine lv_iconst (v := 1) hx hb dX3_ends_73 (by decide) ?_
          exact ct_endi hx hb hr hlocks rfl hP hD hS rfl (by rw [← he, edC, e_12]; rfl) dX3_ends_74
        · exact absurd (by decide) c_13
      · refine W.eq (g2 := F0 m 13 ls [.int (nI x12)]) rfl ?_
        have hp := okP _ _ hn e_12
        refine lv_if_lt (tgt := 73) hx hb dX3_ends_13 (by decide) (fun c_13 => ?_) (fun c_13 => ?_)
        · have c_13 : x12 < 0 := (nI_ltI (a := x12) (b := 0) (by omega) (by omega)).mp c_13
          exact absurd c_13 (Nat.not_lt_zero _)
        · have c_13 : 0 ≤ x12 := Nat.le_of_not_lt (fun z => c_13 ((nI_ltI (a := x12) (b := 0) (by omega) (by omega)).mpr z))
          refine lv_aload_n hx hb dX3_ends_16 rfl (lv_at hl 1 rfl) ?_
          refine va_get (D := D) (ci := 3) (v := .ref (h 5)) (C := RX3) (T := TX3) (N := 18) hx hb hts (fun w h => lw_in w (inX3 w h)) hown hK hP 0 rfl rfl 6 (by decide) (hts _ (lw_in _ t_294)) (fun _ h9 => h9) rfl dX3_ends_17 ?_
          refine lv_iload_n hx hb dX3_ends_20 rfl (lv_at hl 0 rfl) ?_
          refine wx_pald hx hb hK hP 5 4 rfl rfl (i := n) (by omega) (by decide) dX3_ends_21 ?_
          refine lv_istore_n (lv' := [(3, .int (pI (af n))), (2, .int (nI n)), (0, .ref (h 0)), (1, .int (nI q))]) hx hb dX3_ends_22 rfl hl (by decide) rfl (fun ls hl => ?_)
          have he2 : (if alB (kd x12) af mi 701 (af n) = true then edC kd pa af mi f x12 else false) = edC kd pa af mi 701 (lf q) := by rw [← he, edC, e_12]
          have loop2 : ∀ (g : Nat) (o : Option Nat), (∀ w0, o = some w0 → 701 ≤ g + w0 ∧ w0 < nb) → (alB (kd x12) af mi g o = alB (kd x12) af mi 701 (af n)) → ∀ (H : Heap) (locs : List Loc), va_P D vwCl (wM h k tx sz im cm nw (nd, kd, pa, be, af, mi, np, lf, nm, dp, la, so, ro)) H → va_D A (wM h k tx sz im cm nw (nd, kd, pa, be, af, mi, np, lf, nm, dp, la, so, ro)) → va_S A s.heap H locs → ∀ ls : Array Slot, lv_has ls 4 [(3, .int (pI o)), (2, .int (nI n)), (0, .ref (h 0)), (1, .int (nI q))] →
              W p l e (rmN 0) s m ([.ref (h 0), .int (nI q)] : List Value).toArray below meth c H locs 0 0 (MQ below (CtQ D vwCl A (wM h k tx sz im cm nw (nd, kd, pa, be, af, mi, np, lf, nm, dp, la, so, ro)) (some (.int (bI (edC kd pa af mi 701 (lf q)))))) ([.ref (h 0), .int (nI q)] : List Value).toArray s 0 0 A) (F0 m 23 ls []) := by
            intro g
            induction g with
            | zero =>
              intro o ho hk H locs hP hD hS ls hl
              rcases o with _ | w0
              · have hl : lv_has ls 4 [(3, .int (-1)), (2, .int (nI n)), (0, .ref (h 0)), (1, .int (nI q))] := hl
                refine lv_iload_n hx hb dX3_ends_23 rfl (lv_at hl 0 rfl) ?_
                refine lv_if_lt (tgt := 63) hx hb dX3_ends_24 (by decide) (fun c_24 => ?_) (fun c_24 => ?_)
                · refine lv_aload_n hx hb dX3_ends_63 rfl (lv_at hl 2 rfl) ?_
                  refine va_get (D := D) (ci := 3) (v := .ref (h 3)) (C := RX3) (T := TX3) (N := 18) hx hb hts (fun w h => lw_in w (inX3 w h)) hown hK hP 0 rfl rfl 4 (by decide) (hts _ (lw_in _ t_292)) (fun _ h9 => h9) rfl dX3_ends_64 ?_
                  refine lv_iload_n hx hb dX3_ends_67 rfl (lv_at hl 1 rfl) ?_
                  refine wx_pald hx hb hK hP 3 2 rfl rfl (i := n) (by omega) (by decide) dX3_ends_68 ?_
                  refine lv_eqi (show pI (pa n) = nI x12 by rw [e_12]; rfl) ?_
                  refine lv_istore_n (lv' := [(2, .int (nI x12)), (3, .int (-1)), (0, .ref (h 0)), (1, .int (nI q))]) hx hb dX3_ends_69 rfl hl (by decide) rfl (fun ls hl => ?_)
                  refine lv_goto (tgt := 7) hx hb dX3_ends_70 (by decide) ?_
                  exact ih x12 (by omega) (by omega) (by rw [← he2, if_pos (by rw [← hk]; rfl)]) _ _ hP hD hS _ (lv_sub hl [0, 2, 3] rfl)
                · exact absurd (by decide) c_24
              · have hl : lv_has ls 4 [(3, .int (nI w0)), (2, .int (nI n)), (0, .ref (h 0)), (1, .int (nI q))] := hl
                exact absurd (ho w0 rfl).1 (by have := (ho w0 rfl).2; omega)
            | succ g ih2 =>
              intro o ho hk H locs hP hD hS ls hl
              rcases o with _ | w0
              · have hl : lv_has ls 4 [(3, .int (-1)), (2, .int (nI n)), (0, .ref (h 0)), (1, .int (nI q))] := hl
                refine lv_iload_n hx hb dX3_ends_23 rfl (lv_at hl 0 rfl) ?_
                refine lv_if_lt (tgt := 63) hx hb dX3_ends_24 (by decide) (fun c_24 => ?_) (fun c_24 => ?_)
                · refine lv_aload_n hx hb dX3_ends_63 rfl (lv_at hl 2 rfl) ?_
                  refine va_get (D := D) (ci := 3) (v := .ref (h 3)) (C := RX3) (T := TX3) (N := 18) hx hb hts (fun w h => lw_in w (inX3 w h)) hown hK hP 0 rfl rfl 4 (by decide) (hts _ (lw_in _ t_292)) (fun _ h9 => h9) rfl dX3_ends_64 ?_
                  refine lv_iload_n hx hb dX3_ends_67 rfl (lv_at hl 1 rfl) ?_
                  refine wx_pald hx hb hK hP 3 2 rfl rfl (i := n) (by omega) (by decide) dX3_ends_68 ?_
                  refine lv_eqi (show pI (pa n) = nI x12 by rw [e_12]; rfl) ?_
                  refine lv_istore_n (lv' := [(2, .int (nI x12)), (3, .int (-1)), (0, .ref (h 0)), (1, .int (nI q))]) hx hb dX3_ends_69 rfl hl (by decide) rfl (fun ls hl => ?_)
                  refine lv_goto (tgt := 7) hx hb dX3_ends_70 (by decide) ?_
                  exact ih x12 (by omega) (by omega) (by rw [← he2, if_pos (by rw [← hk]; rfl)]) _ _ hP hD hS _ (lv_sub hl [0, 2, 3] rfl)
                · exact absurd (by decide) c_24
              · have hl : lv_has ls 4 [(3, .int (nI w0)), (2, .int (nI n)), (0, .ref (h 0)), (1, .int (nI q))] := hl
                have hz := ho w0 rfl
                refine lv_iload_n hx hb dX3_ends_23 rfl (lv_at hl 0 rfl) ?_
                refine lv_if_lt (tgt := 63) hx hb dX3_ends_24 (by decide) (fun c_24 => ?_) (fun c_24 => ?_)
                · have c_24 : w0 < 0 := (nI_ltI (a := w0) (b := 0) (by omega) (by omega)).mp c_24
                  exact absurd c_24 (Nat.not_lt_zero _)
                · have c_24 : 0 ≤ w0 := Nat.le_of_not_lt (fun z => c_24 ((nI_ltI (a := w0) (b := 0) (by omega) (by omega)).mpr z))
                  refine lv_aload_n hx hb dX3_ends_27 rfl (lv_at hl 2 rfl) ?_
                  refine va_get (D := D) (ci := 3) (v := .ref (h 2)) (C := RX3) (T := TX3) (N := 18) hx hb hts (fun w h => lw_in w (inX3 w h)) hown hK hP 0 rfl rfl 3 (by decide) (hts _ (lw_in _ t_291)) (fun _ h9 => h9) rfl dX3_ends_28 ?_
                  refine lv_aload_n hx hb dX3_ends_31 rfl (lv_at hl 2 rfl) ?_
                  refine va_get (D := D) (ci := 3) (v := .ref (h 3)) (C := RX3) (T := TX3) (N := 18) hx hb hts (fun w h => lw_in w (inX3 w h)) hown hK hP 0 rfl rfl 4 (by decide) (hts _ (lw_in _ t_292)) (fun _ h9 => h9) rfl dX3_ends_32 ?_
                  refine lv_iload_n hx hb dX3_ends_35 rfl (lv_at hl 1 rfl) ?_
                  refine wx_pald hx hb hK hP 3 2 rfl rfl (i := n) (by omega) (by decide) dX3_ends_36 ?_
                  refine lv_eqi (show pI (pa n) = nI x12 by rw [e_12]; rfl) ?_
                  refine wx_iald hx hb hK hP 2 1 rfl rfl (i := x12) (by omega) (by decide) dX3_ends_37 ?_
                  refine lv_iconst (v := 2) hx hb dX3_ends_38 (by decide) ?_
                  refine lv_icmp_ne (tgt := 63) hx hb dX3_ends_39 (by decide) (fun c_39 => ?_) (fun c_39 => ?_)
                  · have c_39 : ¬ (kd x12) = 2 := c_39
                    refine lv_aload_n hx hb dX3_ends_63 rfl (lv_at hl 2 rfl) ?_
                    refine va_get (D := D) (ci := 3) (v := .ref (h 3)) (C := RX3) (T := TX3) (N := 18) hx hb hts (fun w h => lw_in w (inX3 w h)) hown hK hP 0 rfl rfl 4 (by decide) (hts _ (lw_in _ t_292)) (fun _ h9 => h9) rfl dX3_ends_64 ?_
                    refine lv_iload_n hx hb dX3_ends_67 rfl (lv_at hl 1 rfl) ?_
                    refine wx_pald hx hb hK hP 3 2 rfl rfl (i := n) (by omega) (by decide) dX3_ends_68 ?_
                    refine lv_eqi (show pI (pa n) = nI x12 by rw [e_12]; rfl) ?_
                    refine lv_istore_n (lv' := [(2, .int (nI x12)), (3, .int (nI w0)), (0, .ref (h 0)), (1, .int (nI q))]) hx hb dX3_ends_69 rfl hl (by decide) rfl (fun ls hl => ?_)
                    refine lv_goto (tgt := 7) hx hb dX3_ends_70 (by decide) ?_
                    exact ih x12 (by omega) (by omega) (by rw [← he2, if_pos (by rw [← hk]; rw [alB, if_neg c_39])]) _ _ hP hD hS _ (lv_sub hl [0, 2, 3] rfl)
                  · have c_39 : (kd x12) = 2 := c_39
                    refine lv_aload_n hx hb dX3_ends_42 rfl (lv_at hl 2 rfl) ?_
                    refine va_get (D := D) (ci := 3) (v := .ref (h 6)) (C := RX3) (T := TX3) (N := 18) hx hb hts (fun w h => lw_in w (inX3 w h)) hown hK hP 0 rfl rfl 7 (by decide) (hts _ (lw_in _ t_295)) (fun _ h9 => h9) rfl dX3_ends_43 ?_
                    refine lv_iload_n hx hb dX3_ends_46 rfl (lv_at hl 0 rfl) ?_
                    refine wx_zald hx hb hK hP 6 5 rfl rfl (i := w0) (by omega) (by decide) dX3_ends_47 ?_
                    refine lv_if_ne (tgt := 53) hx hb dX3_ends_48 (by decide) (fun c_48 => ?_) (fun c_48 => ?_)
                    · have c_48 : (mi w0) = true := (bI_ne0 _).mp c_48
                      refine lv_aload_n hx hb dX3_ends_53 rfl (lv_at hl 2 rfl) ?_
                      refine va_get (D := D) (ci := 3) (v := .ref (h 5)) (C := RX3) (T := TX3) (N := 18) hx hb hts (fun w h => lw_in w (inX3 w h)) hown hK hP 0 rfl rfl 6 (by decide) (hts _ (lw_in _ t_294)) (fun _ h9 => h9) rfl dX3_ends_54 ?_
                      refine lv_iload_n hx hb dX3_ends_57 rfl (lv_at hl 0 rfl) ?_
                      refine wx_pald hx hb hK hP 5 4 rfl rfl (i := w0) (by omega) (by decide) dX3_ends_58 ?_
                      refine lv_istore_n (lv' := [(3, .int (pI (af w0))), (2, .int (nI n)), (0, .ref (h 0)), (1, .int (nI q))]) hx hb dX3_ends_59 rfl hl (by decide) rfl (fun ls hl => ?_)
                      refine lv_goto (tgt := 23) hx hb dX3_ends_60 (by decide) ?_
                      exact ih2 (af w0) (fun y hy => by have := okA w0 y hz.2 hy; exact ⟨by omega, this.2⟩) (by rw [← hk, alB, if_pos c_39, if_pos c_48]) _ _ hP hD hS _ (lv_sub hl [0, 1, 2, 3] rfl)
                    · have c_48 : (mi w0) = false := (bI_eq0 _).mp c_48
                      refine lv_iconst (v := 0) hx hb dX3_ends_51 (by decide) ?_
                      exact ct_endi hx hb hr hlocks rfl hP hD hS rfl (by rw [← he2, if_neg (by rw [← hk, alB, if_pos c_39, if_neg (bF c_48)]; decide)]; rfl) dX3_ends_52
          exact loop2 701 (af n) (fun y hy => by have := okA n y hn hy; exact ⟨by omega, this.2⟩) rfl _ _ hP hD hS _ (lv_sub hl [0, 1, 2, 3] rfl)
  refine lv_aload_n hx hb dX3_ends_0 rfl (lv_at hl 0 rfl) ?_
  refine va_get (D := D) (ci := 3) (v := .ref (h 7)) (C := RX3) (T := TX3) (N := 18) hx hb hts (fun w h => lw_in w (inX3 w h)) hown hK hP 0 rfl rfl 9 (by decide) (hts _ (lw_in _ t_297)) (fun _ h9 => h9) rfl dX3_ends_1 ?_
  refine lv_iload_n hx hb dX3_ends_4 rfl (lv_at hl 1 rfl) ?_
  refine wx_nald hx hb hK hP 7 6 rfl rfl (i := q) (by omega) (by decide) dX3_ends_5 ?_
  refine lv_istore_n (lv' := [(2, .int (nI (lf q))), (0, .ref (h 0)), (1, .int (nI q))]) hx hb dX3_ends_6 rfl hl (by decide) rfl (fun ls hl => ?_)
  exact loop 701 (lf q) (okL q hq) (by omega) rfl _ _ hP hD hS _ (lv_sub hl [0, 1, 2] rfl)

set_option maxHeartbeats 4000000 in
set_option maxRecDepth 100000 in
theorem k_E_first (l : Launch) (D : va_G) (h : Nat → Nat) (k : Nat → ClassId) (tx : Nat → Int32) (sz : Nat) (im : Bool) (cm : Nat) (nw : Int64) (nd : Nat) (kd : Nat → Int32) (pa : Nat → Option Nat) (be : Nat → Option Nat) (af : Nat → Option Nat) (mi : Nat → Bool) (np : Nat) (lf : Nat → Nat) (nm : Nat → Int32) (dp : Nat) (la : Nat → Option Nat) (so : Nat → Int32) (ro : Nat)  (nb : Nat) (ok : okT nb pa be af np lf) (hro : im = true → ro < nb) :
    Ct l yX3_first wsX3_first (rmN 2) D vwCl (tyM k) [.ref (h 0)] (wM h k tx sz im cm nw (nd, kd, pa, be, af, mi, np, lf, nm, dp, la, so, ro)) (wM h k tx sz im cm nw (nd, kd, pa, be, af, mi, np, lf, nm, dp, la, so, ro)) (some (.long (e_first kd pa be mi np lf im ro))) := by
  refine Ct.of (cc := cX3_first) (maxL := 1) (ret := (some .long)) (lv := [(0, .ref (h 0))]) (by decide) rfl (Nat.le_of_ble_eq_true rfl) rfl ?_
  intro p e s m below meth c A ls hx hb hr hml hts hown hlocks hK hP hD hS hA hl
  have ok0 := ok
  refine lv_aload_n hx hb dX3_first_0 rfl (lv_at hl 0 rfl) ?_
  refine va_get (D := D) (ci := 3) (v := .int (bI im)) (C := RX3) (T := TX3) (N := 18) hx hb hts (fun w h => lw_in w (inX3 w h)) hown hK hP 0 rfl rfl 11 (by decide) (hts _ (lw_in _ t_299)) (fun _ h9 => h9) rfl dX3_first_1 ?_
  refine lv_if_eq (tgt := 18) hx hb dX3_first_4 (by decide) (fun c_4 => ?_) (fun c_4 => ?_)
  · have c_4 : im = false := (bI_eq0 _).mp c_4
    refine lv_lconst (v := 0) hx hb dX3_first_18 (by decide) ?_
    exact ct_endl hx hb hr hlocks hP hD hS rfl (by rw [e_first, if_neg (bF c_4)]) dX3_first_19
  · have c_4 : im = true := (bI_ne0 _).mp c_4
    refine lv_aload_n hx hb dX3_first_7 rfl (lv_at hl 0 rfl) ?_
    refine lv_aload_n hx hb dX3_first_8 rfl (lv_at hl 0 rfl) ?_
    refine va_get (D := D) (ci := 3) (v := .int (nI ro)) (C := RX3) (T := TX3) (N := 18) hx hb hts (fun w h => lw_in w (inX3 w h)) hown hK hP 0 rfl rfl 15 (by decide) (hts _ (lw_in _ t_303)) (fun _ h9 => h9) rfl dX3_first_9 ?_
    refine ct_callV (As := [.int (nI ro)]) (rest := []) ⟨hx, hb, hml, hown, hts⟩ (k_E_firsts l D h k tx sz im cm nw nd kd pa be af mi np lf nm dp la so ro ro nb ok0 (hro c_4)) (cwV 1 hts (gV lw_in t_387 t_389 t_17 t_26 t_390) rfl rfl rfl (by decide +kernel) ⟨Nat.le_of_ble_eq_true rfl, Nat.le_of_ble_eq_true rfl⟩) 0 rfl rfl hK hP hD hS hA rfl hl.1 rfl (Nat.le_of_ble_eq_true rfl) dX3_first_12 ⟨Nat.zero_le _, Nat.zero_le _⟩ (fun H locs hP hD hS => ?_)
    refine W.eq (g2 := F0 m 15 ls [.long (fsF kd pa be mi np lf ro)]) rfl ?_
    refine lv_goto (tgt := 19) hx hb dX3_first_15 (by decide) ?_
    exact ct_endl hx hb hr hlocks hP hD hS rfl (by rw [e_first, if_pos c_4]) dX3_first_19

set_option maxHeartbeats 4000000 in
set_option maxRecDepth 100000 in
theorem k_E_next (l : Launch) (D : va_G) (h : Nat → Nat) (k : Nat → ClassId) (tx : Nat → Int32) (sz : Nat) (im : Bool) (cm : Nat) (nw : Int64) (nd : Nat) (kd : Nat → Int32) (pa : Nat → Option Nat) (be : Nat → Option Nat) (af : Nat → Option Nat) (mi : Nat → Bool) (np : Nat) (lf : Nat → Nat) (nm : Nat → Int32) (dp : Nat) (la : Nat → Option Nat) (so : Nat → Int32) (ro : Nat) (x : Int32) (nb : Nat) (ok : okT nb pa be af np lf) :
    Ct l yX3_next wsX3_next (rmN 2) D vwCl (tyM k) [.ref (h 0), .int x] (wM h k tx sz im cm nw (nd, kd, pa, be, af, mi, np, lf, nm, dp, la, so, ro)) (wM h k tx sz im cm nw (nd, kd, pa, be, af, mi, np, lf, nm, dp, la, so, ro)) (some (.long (e_next kd pa be af mi np lf x))) := by
  refine Ct.of (cc := cX3_next) (maxL := 7) (ret := (some .long)) (lv := [(0, .ref (h 0)), (1, .int x)]) (by decide) rfl (Nat.le_of_ble_eq_true rfl) rfl ?_
  intro p e s m below meth c A ls hx hb hr hml hts hown hlocks hK hP hD hS hA hl
  have ok0 := ok
  obtain ⟨hnb, hnp, okP, okB, okA, okL⟩ := ok
  refine lv_iload_n hx hb dX3_next_0 rfl (lv_at hl 1 rfl) ?_
  refine lv_if_lt (tgt := 12) hx hb dX3_next_1 (by decide) (fun c_1 => ?_) (fun c_1 => ?_)
  · have c_1 : x < 0 := c_1
    refine lv_lconst (v := 0) hx hb dX3_next_12 (by decide) ?_
    exact ct_endl hx hb hr hlocks hP hD hS rfl (by rw [e_next, if_pos c_1]) dX3_next_13
  · have c_1 : ¬ x < 0 := c_1
    refine lv_iload_n hx hb dX3_next_4 rfl (lv_at hl 1 rfl) ?_
    refine lv_aload_n hx hb dX3_next_5 rfl (lv_at hl 0 rfl) ?_
    refine va_get (D := D) (ci := 3) (v := .int (nI np)) (C := RX3) (T := TX3) (N := 18) hx hb hts (fun w h => lw_in w (inX3 w h)) hown hK hP 0 rfl rfl 8 (by decide) (hts _ (lw_in _ t_296)) (fun _ h9 => h9) rfl dX3_next_6 ?_
    refine lv_icmp_lt (tgt := 14) hx hb dX3_next_9 (by decide) (fun c_9 => ?_) (fun c_9 => ?_)
    · have c_9 : x < nI np := c_9
      obtain ⟨j, hj, rfl⟩ : ∃ j, j < np ∧ x = nI j := p_ix (by omega) c_1 c_9
      have e_tg : e_next kd pa be af mi np lf (nI j) = nxF kd pa be af mi np lf j := by rw [e_next, if_neg c_1, if_pos c_9, nI_clamp (by omega)]
      refine lv_lconst (v := 0) hx hb dX3_next_14 (by decide) ?_
      refine lv_lstore_n (lv' := [(2, .long 0), (0, .ref (h 0)), (1, .int (nI j))]) hx hb dX3_next_15 rfl hl (by decide) rfl (fun ls hl => ?_)
      refine lv_aload_n hx hb dX3_next_16 rfl (lv_at hl 1 rfl) ?_
      refine va_get (D := D) (ci := 3) (v := .ref (h 7)) (C := RX3) (T := TX3) (N := 18) hx hb hts (fun w h => lw_in w (inX3 w h)) hown hK hP 0 rfl rfl 9 (by decide) (hts _ (lw_in _ t_297)) (fun _ h9 => h9) rfl dX3_next_17 ?_
      refine lv_iload_n hx hb dX3_next_20 rfl (lv_at hl 2 rfl) ?_
      refine wx_nald hx hb hK hP 7 6 rfl rfl (i := j) (by omega) (by decide) dX3_next_21 ?_
      refine lv_istore (lv' := [(4, .int (nI (lf j))), (2, .long 0), (0, .ref (h 0)), (1, .int (nI j))]) hx hb dX3_next_22 hl (by decide) rfl (fun ls hl => ?_)
      have loop : ∀ (f : Nat) (n : Nat) (r : Int64), (n < nb) → (701 ≤ f + n) → (nxC kd pa af mi (fsF kd pa be mi np lf) f n r = nxF kd pa be af mi np lf j) → ∀ (H : Heap) (locs : List Loc), va_P D vwCl (wM h k tx sz im cm nw (nd, kd, pa, be, af, mi, np, lf, nm, dp, la, so, ro)) H → va_D A (wM h k tx sz im cm nw (nd, kd, pa, be, af, mi, np, lf, nm, dp, la, so, ro)) → va_S A s.heap H locs → ∀ ls : Array Slot, lv_has ls 7 [(4, .int (nI n)), (2, .long r), (0, .ref (h 0)), (1, .int (nI j))] →
          W p l e (rmN 2) s m ([.ref (h 0), .int (nI j)] : List Value).toArray below meth c H locs 0 0 (MQ below (CtQ D vwCl A (wM h k tx sz im cm nw (nd, kd, pa, be, af, mi, np, lf, nm, dp, la, so, ro)) (some (.long (e_next kd pa be af mi np lf (nI j))))) ([.ref (h 0), .int (nI j)] : List Value).toArray s 0 0 A) (F0 m 24 ls []) := by
        intro f
        induction f with
        | zero =>
          intro n r hn hf he H locs hP hD hS ls hl
          exact absurd hf (by omega)
        | succ f ih =>
          intro n r hn hf he H locs hP hD hS ls hl
          refine lv_aload_n hx hb dX3_next_24 rfl (lv_at hl 2 rfl) ?_
          refine va_get (D := D) (ci := 3) (v := .ref (h 3)) (C := RX3) (T := TX3) (N := 18) hx hb hts (fun w h => lw_in w (inX3 w h)) hown hK hP 0 rfl rfl 4 (by decide) (hts _ (lw_in _ t_292)) (fun _ h9 => h9) rfl dX3_next_25 ?_
          refine lv_iload hx hb dX3_next_28 (lv_at hl 0 rfl) ?_
          refine wx_pald hx hb hK hP 3 2 rfl rfl (i := n) (by omega) (by decide) dX3_next_30 ?_
          refine W.eq (g2 := F0 m 31 ls [.int (pI (pa n))]) rfl ?_
          rcases e_30 : pa n with _ | x30
          · refine W.eq (g2 := F0 m 31 ls [.int (-1)]) rfl ?_
            refine lv_if_lt (tgt := 139) hx hb dX3_next_31 (by decide) (fun c_31 => ?_) (fun c_31 => ?_)
            · refine lv_lload_n hx hb dX3_next_139 rfl (lv_at hl 1 rfl) ?_
              exact ct_endl hx hb hr hlocks hP hD hS rfl (by rw [e_tg, ← he, nxC, e_30]) dX3_next_140
            · exact absurd (by decide) c_31
          · refine W.eq (g2 := F0 m 31 ls [.int (nI x30)]) rfl ?_
            have hp := okP _ _ hn e_30
            refine lv_if_lt (tgt := 139) hx hb dX3_next_31 (by decide) (fun c_31 => ?_) (fun c_31 => ?_)
            · have c_31 : x30 < 0 := (nI_ltI (a := x30) (b := 0) (by omega) (by omega)).mp c_31
              exact absurd c_31 (Nat.not_lt_zero _)
            · have c_31 : 0 ≤ x30 := Nat.le_of_not_lt (fun z => c_31 ((nI_ltI (a := x30) (b := 0) (by omega) (by omega)).mpr z))
              refine lv_aload_n hx hb dX3_next_34 rfl (lv_at hl 2 rfl) ?_
              refine va_get (D := D) (ci := 3) (v := .ref (h 3)) (C := RX3) (T := TX3) (N := 18) hx hb hts (fun w h => lw_in w (inX3 w h)) hown hK hP 0 rfl rfl 4 (by decide) (hts _ (lw_in _ t_292)) (fun _ h9 => h9) rfl dX3_next_35 ?_
              refine lv_iload hx hb dX3_next_38 (lv_at hl 0 rfl) ?_
              refine wx_pald hx hb hK hP 3 2 rfl rfl (i := n) (by omega) (by decide) dX3_next_40 ?_
              refine lv_eqi (show pI (pa n) = nI x30 by rw [e_30]; rfl) ?_
              refine lv_istore (lv' := [(5, .int (nI x30)), (4, .int (nI n)), (2, .long r), (0, .ref (h 0)), (1, .int (nI j))]) hx hb dX3_next_41 hl (by decide) rfl (fun ls hl => ?_)
              refine lv_aload_n hx hb dX3_next_43 rfl (lv_at hl 3 rfl) ?_
              refine va_get (D := D) (ci := 3) (v := .ref (h 2)) (C := RX3) (T := TX3) (N := 18) hx hb hts (fun w h => lw_in w (inX3 w h)) hown hK hP 0 rfl rfl 3 (by decide) (hts _ (lw_in _ t_291)) (fun _ h9 => h9) rfl dX3_next_44 ?_
              refine lv_iload hx hb dX3_next_47 (lv_at hl 0 rfl) ?_
              refine wx_iald hx hb hK hP 2 1 rfl rfl (i := x30) (by omega) (by decide) dX3_next_49 ?_
              refine lv_iconst (v := 4) hx hb dX3_next_50 (by decide) ?_
              refine lv_icmp_eq (tgt := 65) hx hb dX3_next_51 (by decide) (fun c_51 => ?_) (fun c_51 => ?_)
              · have c_51 : (kd x30) = 4 := c_51
                refine lv_lload_n hx hb dX3_next_65 rfl (lv_at hl 2 rfl) ?_
                refine lv_aload_n hx hb dX3_next_66 rfl (lv_at hl 3 rfl) ?_
                refine lv_iload hx hb dX3_next_67 (lv_at hl 1 rfl) ?_
                refine ct_callV (As := [.int (nI n)]) (rest := [.long r]) ⟨hx, hb, hml, hown, hts⟩ (k_E_firsts l D h k tx sz im cm nw nd kd pa be af mi np lf nm dp la so ro n nb ok0 (by omega)) (cwV 1 hts (gV lw_in t_387 t_389 t_17 t_26 t_390) rfl rfl rfl (by decide +kernel) ⟨Nat.le_of_ble_eq_true rfl, Nat.le_of_ble_eq_true rfl⟩) 0 rfl rfl hK hP hD hS hA rfl hl.1 rfl (Nat.le_of_ble_eq_true rfl) dX3_next_69 ⟨Nat.zero_le _, Nat.zero_le _⟩ (fun H locs hP hD hS => ?_)
                refine W.eq (g2 := F0 m 72 ls [.long (fsF kd pa be mi np lf n), .long r]) rfl ?_
                refine lv_lor hx hb dX3_next_72 ?_
                refine lv_lstore_n (lv' := [(2, .long (r ||| (fsF kd pa be mi np lf n))), (5, .int (nI x30)), (4, .int (nI n)), (0, .ref (h 0)), (1, .int (nI j))]) hx hb dX3_next_73 rfl hl (by decide) rfl (fun ls hl => ?_)
                refine lv_aload_n hx hb dX3_next_74 rfl (lv_at hl 3 rfl) ?_
                refine va_get (D := D) (ci := 3) (v := .ref (h 5)) (C := RX3) (T := TX3) (N := 18) hx hb hts (fun w h => lw_in w (inX3 w h)) hown hK hP 0 rfl rfl 6 (by decide) (hts _ (lw_in _ t_294)) (fun _ h9 => h9) rfl dX3_next_75 ?_
                refine lv_iload hx hb dX3_next_78 (lv_at hl 2 rfl) ?_
                refine wx_pald hx hb hK hP 5 4 rfl rfl (i := n) (by omega) (by decide) dX3_next_80 ?_
                refine lv_istore (lv' := [(6, .int (pI (af n))), (2, .long (r ||| (fsF kd pa be mi np lf n))), (5, .int (nI x30)), (4, .int (nI n)), (0, .ref (h 0)), (1, .int (nI j))]) hx hb dX3_next_81 hl (by decide) rfl (fun ls hl => ?_)
                have he2 : (if (sbL (kd x30) af mi (fsF kd pa be mi np lf) 701 (af n) (r ||| (fsF kd pa be mi np lf n))).2 = true then (sbL (kd x30) af mi (fsF kd pa be mi np lf) 701 (af n) (r ||| (fsF kd pa be mi np lf n))).1 else nxC kd pa af mi (fsF kd pa be mi np lf) f x30 (sbL (kd x30) af mi (fsF kd pa be mi np lf) 701 (af n) (r ||| (fsF kd pa be mi np lf n))).1) = nxF kd pa be af mi np lf j := by rw [← he, nxC, e_30]; dsimp only; rw [if_pos c_51]
                have loop2 : ∀ (g : Nat) (o : Option Nat) (r2 : Int64), (∀ w0, o = some w0 → 701 ≤ g + w0 ∧ w0 < nb) → (sbL (kd x30) af mi (fsF kd pa be mi np lf) g o r2 = sbL (kd x30) af mi (fsF kd pa be mi np lf) 701 (af n) (r ||| (fsF kd pa be mi np lf n))) → ∀ (H : Heap) (locs : List Loc), va_P D vwCl (wM h k tx sz im cm nw (nd, kd, pa, be, af, mi, np, lf, nm, dp, la, so, ro)) H → va_D A (wM h k tx sz im cm nw (nd, kd, pa, be, af, mi, np, lf, nm, dp, la, so, ro)) → va_S A s.heap H locs → ∀ ls : Array Slot, lv_has ls 7 [(6, .int (pI o)), (5, .int (nI x30)), (4, .int (nI n)), (2, .long r2), (0, .ref (h 0)), (1, .int (nI j))] →
                    W p l e (rmN 2) s m ([.ref (h 0), .int (nI j)] : List Value).toArray below meth c H locs 0 0 (MQ below (CtQ D vwCl A (wM h k tx sz im cm nw (nd, kd, pa, be, af, mi, np, lf, nm, dp, la, so, ro)) (some (.long (e_next kd pa be af mi np lf (nI j))))) ([.ref (h 0), .int (nI j)] : List Value).toArray s 0 0 A) (F0 m 83 ls []) := by
                  intro g
                  induction g with
                  | zero =>
                    intro o r2 ho hk H locs hP hD hS ls hl
                    rcases o with _ | w0
                    · have hl : lv_has ls 7 [(6, .int (-1)), (5, .int (nI x30)), (4, .int (nI n)), (2, .long r2), (0, .ref (h 0)), (1, .int (nI j))] := hl
                      refine lv_iload hx hb dX3_next_83 (lv_at hl 0 rfl) ?_
                      refine lv_if_lt (tgt := 132) hx hb dX3_next_85 (by decide) (fun c_85 => ?_) (fun c_85 => ?_)
                      · refine lv_iload hx hb dX3_next_132 (lv_at hl 1 rfl) ?_
                        refine lv_istore (lv' := [(4, .int (nI x30)), (6, .int (-1)), (5, .int (nI x30)), (2, .long r2), (0, .ref (h 0)), (1, .int (nI j))]) hx hb dX3_next_134 hl (by decide) rfl (fun ls hl => ?_)
                        refine lv_goto (tgt := 24) hx hb dX3_next_136 (by decide) ?_
                        exact ih x30 r2 (by omega) (by omega) (by rw [← he2, ← hk]; simp [sbL]) _ _ hP hD hS _ (lv_sub hl [0, 3, 4, 5] rfl)
                      · exact absurd (by decide) c_85
                    · have hl : lv_has ls 7 [(6, .int (nI w0)), (5, .int (nI x30)), (4, .int (nI n)), (2, .long r2), (0, .ref (h 0)), (1, .int (nI j))] := hl
                      exact absurd (ho w0 rfl).1 (by have := (ho w0 rfl).2; omega)
                  | succ g ih2 =>
                    intro o r2 ho hk H locs hP hD hS ls hl
                    rcases o with _ | w0
                    · have hl : lv_has ls 7 [(6, .int (-1)), (5, .int (nI x30)), (4, .int (nI n)), (2, .long r2), (0, .ref (h 0)), (1, .int (nI j))] := hl
                      refine lv_iload hx hb dX3_next_83 (lv_at hl 0 rfl) ?_
                      refine lv_if_lt (tgt := 132) hx hb dX3_next_85 (by decide) (fun c_85 => ?_) (fun c_85 => ?_)
                      · refine lv_iload hx hb dX3_next_132 (lv_at hl 1 rfl) ?_
                        refine lv_istore (lv' := [(4, .int (nI x30)), (6, .int (-1)), (5, .int (nI x30)), (2, .long r2), (0, .ref (h 0)), (1, .int (nI j))]) hx hb dX3_next_134 hl (by decide) rfl (fun ls hl => ?_)
                        refine lv_goto (tgt := 24) hx hb dX3_next_136 (by decide) ?_
                        exact ih x30 r2 (by omega) (by omega) (by rw [← he2, ← hk]; simp [sbL]) _ _ hP hD hS _ (lv_sub hl [0, 3, 4, 5] rfl)
                      · exact absurd (by decide) c_85
                    · have hl : lv_has ls 7 [(6, .int (nI w0)), (5, .int (nI x30)), (4, .int (nI n)), (2, .long r2), (0, .ref (h 0)), (1, .int (nI j))] := hl
                      have hz := ho w0 rfl
                      have hz2 := hz.2
                      refine lv_iload hx hb dX3_next_83 (lv_at hl 0 rfl) ?_
                      refine lv_if_lt (tgt := 132) hx hb dX3_next_85 (by decide) (fun c_85 => ?_) (fun c_85 => ?_)
                      · have c_85 : w0 < 0 := (nI_ltI (a := w0) (b := 0) (by omega) (by omega)).mp c_85
                        exact absurd c_85 (Nat.not_lt_zero _)
                      · have c_85 : 0 ≤ w0 := Nat.le_of_not_lt (fun z => c_85 ((nI_ltI (a := w0) (b := 0) (by omega) (by omega)).mpr z))
                        refine lv_aload_n hx hb dX3_next_88 rfl (lv_at hl 4 rfl) ?_
                        refine va_get (D := D) (ci := 3) (v := .ref (h 2)) (C := RX3) (T := TX3) (N := 18) hx hb hts (fun w h => lw_in w (inX3 w h)) hown hK hP 0 rfl rfl 3 (by decide) (hts _ (lw_in _ t_291)) (fun _ h9 => h9) rfl dX3_next_89 ?_
                        refine lv_iload hx hb dX3_next_92 (lv_at hl 1 rfl) ?_
                        refine wx_iald hx hb hK hP 2 1 rfl rfl (i := x30) (by omega) (by decide) dX3_next_94 ?_
                        refine lv_iconst (v := 2) hx hb dX3_next_95 (by decide) ?_
                        refine lv_icmp_ne (tgt := 132) hx hb dX3_next_96 (by decide) (fun c_96 => ?_) (fun c_96 => ?_)
                        · have c_96 : ¬ (kd x30) = 2 := c_96
                          refine lv_iload hx hb dX3_next_132 (lv_at hl 1 rfl) ?_
                          refine lv_istore (lv' := [(4, .int (nI x30)), (6, .int (nI w0)), (5, .int (nI x30)), (2, .long r2), (0, .ref (h 0)), (1, .int (nI j))]) hx hb dX3_next_134 hl (by decide) rfl (fun ls hl => ?_)
                          refine lv_goto (tgt := 24) hx hb dX3_next_136 (by decide) ?_
                          exact ih x30 r2 (by omega) (by omega) (by rw [← he2, ← hk]; simp [sbL, c_96]) _ _ hP hD hS _ (lv_sub hl [0, 3, 4, 5] rfl)
                        · have c_96 : (kd x30) = 2 := c_96
                          exact absurd (c_51.symm.trans c_96) (by decide)
                exact loop2 701 (af n) (r ||| (fsF kd pa be mi np lf n)) (fun y hy => by have := okA n y hn hy; exact ⟨by omega, this.2⟩) rfl _ _ hP hD hS _ (lv_sub hl [0, 2, 3, 1, 4, 5] rfl)
              · have c_51 : ¬ (kd x30) = 4 := c_51
                refine lv_aload_n hx hb dX3_next_54 rfl (lv_at hl 3 rfl) ?_
                refine va_get (D := D) (ci := 3) (v := .ref (h 2)) (C := RX3) (T := TX3) (N := 18) hx hb hts (fun w h => lw_in w (inX3 w h)) hown hK hP 0 rfl rfl 3 (by decide) (hts _ (lw_in _ t_291)) (fun _ h9 => h9) rfl dX3_next_55 ?_
                refine lv_iload hx hb dX3_next_58 (lv_at hl 0 rfl) ?_
                refine wx_iald hx hb hK hP 2 1 rfl rfl (i := x30) (by omega) (by decide) dX3_next_60 ?_
                refine lv_iconst (v := 5) hx hb dX3_next_61 (by decide) ?_
                refine lv_icmp_ne (tgt := 74) hx hb dX3_next_62 (by decide) (fun c_62 => ?_) (fun c_62 => ?_)
                · have c_62 : ¬ (kd x30) = 5 := c_62
                  refine lv_aload_n hx hb dX3_next_74 rfl (lv_at hl 3 rfl) ?_
                  refine va_get (D := D) (ci := 3) (v := .ref (h 5)) (C := RX3) (T := TX3) (N := 18) hx hb hts (fun w h => lw_in w (inX3 w h)) hown hK hP 0 rfl rfl 6 (by decide) (hts _ (lw_in _ t_294)) (fun _ h9 => h9) rfl dX3_next_75 ?_
                  refine lv_iload hx hb dX3_next_78 (lv_at hl 1 rfl) ?_
                  refine wx_pald hx hb hK hP 5 4 rfl rfl (i := n) (by omega) (by decide) dX3_next_80 ?_
                  refine lv_istore (lv' := [(6, .int (pI (af n))), (5, .int (nI x30)), (4, .int (nI n)), (2, .long r), (0, .ref (h 0)), (1, .int (nI j))]) hx hb dX3_next_81 hl (by decide) rfl (fun ls hl => ?_)
                  have he2 : (if (sbL (kd x30) af mi (fsF kd pa be mi np lf) 701 (af n) r).2 = true then (sbL (kd x30) af mi (fsF kd pa be mi np lf) 701 (af n) r).1 else nxC kd pa af mi (fsF kd pa be mi np lf) f x30 (sbL (kd x30) af mi (fsF kd pa be mi np lf) 701 (af n) r).1) = nxF kd pa be af mi np lf j := by rw [← he, nxC, e_30]; dsimp only; rw [if_neg c_51, if_neg c_62]
                  have loop2 : ∀ (g : Nat) (o : Option Nat) (r2 : Int64), (∀ w0, o = some w0 → 701 ≤ g + w0 ∧ w0 < nb) → (sbL (kd x30) af mi (fsF kd pa be mi np lf) g o r2 = sbL (kd x30) af mi (fsF kd pa be mi np lf) 701 (af n) r) → ∀ (H : Heap) (locs : List Loc), va_P D vwCl (wM h k tx sz im cm nw (nd, kd, pa, be, af, mi, np, lf, nm, dp, la, so, ro)) H → va_D A (wM h k tx sz im cm nw (nd, kd, pa, be, af, mi, np, lf, nm, dp, la, so, ro)) → va_S A s.heap H locs → ∀ ls : Array Slot, lv_has ls 7 [(6, .int (pI o)), (5, .int (nI x30)), (4, .int (nI n)), (2, .long r2), (0, .ref (h 0)), (1, .int (nI j))] →
                      W p l e (rmN 2) s m ([.ref (h 0), .int (nI j)] : List Value).toArray below meth c H locs 0 0 (MQ below (CtQ D vwCl A (wM h k tx sz im cm nw (nd, kd, pa, be, af, mi, np, lf, nm, dp, la, so, ro)) (some (.long (e_next kd pa be af mi np lf (nI j))))) ([.ref (h 0), .int (nI j)] : List Value).toArray s 0 0 A) (F0 m 83 ls []) := by
                    intro g
                    induction g with
                    | zero =>
                      intro o r2 ho hk H locs hP hD hS ls hl
                      rcases o with _ | w0
                      · have hl : lv_has ls 7 [(6, .int (-1)), (5, .int (nI x30)), (4, .int (nI n)), (2, .long r2), (0, .ref (h 0)), (1, .int (nI j))] := hl
                        refine lv_iload hx hb dX3_next_83 (lv_at hl 0 rfl) ?_
                        refine lv_if_lt (tgt := 132) hx hb dX3_next_85 (by decide) (fun c_85 => ?_) (fun c_85 => ?_)
                        · refine lv_iload hx hb dX3_next_132 (lv_at hl 1 rfl) ?_
                          refine lv_istore (lv' := [(4, .int (nI x30)), (6, .int (-1)), (5, .int (nI x30)), (2, .long r2), (0, .ref (h 0)), (1, .int (nI j))]) hx hb dX3_next_134 hl (by decide) rfl (fun ls hl => ?_)
                          refine lv_goto (tgt := 24) hx hb dX3_next_136 (by decide) ?_
                          exact ih x30 r2 (by omega) (by omega) (by rw [← he2, ← hk]; simp [sbL]) _ _ hP hD hS _ (lv_sub hl [0, 3, 4, 5] rfl)
                        · exact absurd (by decide) c_85
                      · have hl : lv_has ls 7 [(6, .int (nI w0)), (5, .int (nI x30)), (4, .int (nI n)), (2, .long r2), (0, .ref (h 0)), (1, .int (nI j))] := hl
                        exact absurd (ho w0 rfl).1 (by have := (ho w0 rfl).2; omega)
                    | succ g ih2 =>
                      intro o r2 ho hk H locs hP hD hS ls hl
                      rcases o with _ | w0
                      · have hl : lv_has ls 7 [(6, .int (-1)), (5, .int (nI x30)), (4, .int (nI n)), (2, .long r2), (0, .ref (h 0)), (1, .int (nI j))] := hl
                        refine lv_iload hx hb dX3_next_83 (lv_at hl 0 rfl) ?_
                        refine lv_if_lt (tgt := 132) hx hb dX3_next_85 (by decide) (fun c_85 => ?_) (fun c_85 => ?_)
                        · refine lv_iload hx hb dX3_next_132 (lv_at hl 1 rfl) ?_
                          refine lv_istore (lv' := [(4, .int (nI x30)), (6, .int (-1)), (5, .int (nI x30)), (2, .long r2), (0, .ref (h 0)), (1, .int (nI j))]) hx hb dX3_next_134 hl (by decide) rfl (fun ls hl => ?_)
                          refine lv_goto (tgt := 24) hx hb dX3_next_136 (by decide) ?_
                          exact ih x30 r2 (by omega) (by omega) (by rw [← he2, ← hk]; simp [sbL]) _ _ hP hD hS _ (lv_sub hl [0, 3, 4, 5] rfl)
                        · exact absurd (by decide) c_85
                      · have hl : lv_has ls 7 [(6, .int (nI w0)), (5, .int (nI x30)), (4, .int (nI n)), (2, .long r2), (0, .ref (h 0)), (1, .int (nI j))] := hl
                        have hz := ho w0 rfl
                        have hz2 := hz.2
                        refine lv_iload hx hb dX3_next_83 (lv_at hl 0 rfl) ?_
                        refine lv_if_lt (tgt := 132) hx hb dX3_next_85 (by decide) (fun c_85 => ?_) (fun c_85 => ?_)
                        · have c_85 : w0 < 0 := (nI_ltI (a := w0) (b := 0) (by omega) (by omega)).mp c_85
                          exact absurd c_85 (Nat.not_lt_zero _)
                        · have c_85 : 0 ≤ w0 := Nat.le_of_not_lt (fun z => c_85 ((nI_ltI (a := w0) (b := 0) (by omega) (by omega)).mpr z))
                          refine lv_aload_n hx hb dX3_next_88 rfl (lv_at hl 4 rfl) ?_
                          refine va_get (D := D) (ci := 3) (v := .ref (h 2)) (C := RX3) (T := TX3) (N := 18) hx hb hts (fun w h => lw_in w (inX3 w h)) hown hK hP 0 rfl rfl 3 (by decide) (hts _ (lw_in _ t_291)) (fun _ h9 => h9) rfl dX3_next_89 ?_
                          refine lv_iload hx hb dX3_next_92 (lv_at hl 1 rfl) ?_
                          refine wx_iald hx hb hK hP 2 1 rfl rfl (i := x30) (by omega) (by decide) dX3_next_94 ?_
                          refine lv_iconst (v := 2) hx hb dX3_next_95 (by decide) ?_
                          refine lv_icmp_ne (tgt := 132) hx hb dX3_next_96 (by decide) (fun c_96 => ?_) (fun c_96 => ?_)
                          · have c_96 : ¬ (kd x30) = 2 := c_96
                            refine lv_iload hx hb dX3_next_132 (lv_at hl 1 rfl) ?_
                            refine lv_istore (lv' := [(4, .int (nI x30)), (6, .int (nI w0)), (5, .int (nI x30)), (2, .long r2), (0, .ref (h 0)), (1, .int (nI j))]) hx hb dX3_next_134 hl (by decide) rfl (fun ls hl => ?_)
                            refine lv_goto (tgt := 24) hx hb dX3_next_136 (by decide) ?_
                            exact ih x30 r2 (by omega) (by omega) (by rw [← he2, ← hk]; simp [sbL, c_96]) _ _ hP hD hS _ (lv_sub hl [0, 3, 4, 5] rfl)
                          · have c_96 : (kd x30) = 2 := c_96
                            refine lv_lload_n hx hb dX3_next_99 rfl (lv_at hl 3 rfl) ?_
                            refine lv_aload_n hx hb dX3_next_100 rfl (lv_at hl 4 rfl) ?_
                            refine lv_iload hx hb dX3_next_101 (lv_at hl 0 rfl) ?_
                            refine ct_callV (As := [.int (nI w0)]) (rest := [.long r2]) ⟨hx, hb, hml, hown, hts⟩ (k_E_firsts l D h k tx sz im cm nw nd kd pa be af mi np lf nm dp la so ro w0 nb ok0 (by omega)) (cwV 1 hts (gV lw_in t_387 t_389 t_17 t_26 t_390) rfl rfl rfl (by decide +kernel) ⟨Nat.le_of_ble_eq_true rfl, Nat.le_of_ble_eq_true rfl⟩) 0 rfl rfl hK hP hD hS hA rfl hl.1 rfl (Nat.le_of_ble_eq_true rfl) dX3_next_103 ⟨Nat.zero_le _, Nat.zero_le _⟩ (fun H locs hP hD hS => ?_)
                            refine W.eq (g2 := F0 m 106 ls [.long (fsF kd pa be mi np lf w0), .long r2]) rfl ?_
                            refine lv_lor hx hb dX3_next_106 ?_
                            refine lv_lstore_n (lv' := [(2, .long (r2 ||| (fsF kd pa be mi np lf w0))), (6, .int (nI w0)), (5, .int (nI x30)), (4, .int (nI n)), (0, .ref (h 0)), (1, .int (nI j))]) hx hb dX3_next_107 rfl hl (by decide) rfl (fun ls hl => ?_)
                            refine lv_aload_n hx hb dX3_next_108 rfl (lv_at hl 4 rfl) ?_
                            refine va_get (D := D) (ci := 3) (v := .ref (h 6)) (C := RX3) (T := TX3) (N := 18) hx hb hts (fun w h => lw_in w (inX3 w h)) hown hK hP 0 rfl rfl 7 (by decide) (hts _ (lw_in _ t_295)) (fun _ h9 => h9) rfl dX3_next_109 ?_
                            refine lv_iload hx hb dX3_next_112 (lv_at hl 1 rfl) ?_
                            refine wx_zald hx hb hK hP 6 5 rfl rfl (i := w0) (by omega) (by decide) dX3_next_114 ?_
                            refine lv_if_ne (tgt := 120) hx hb dX3_next_115 (by decide) (fun c_115 => ?_) (fun c_115 => ?_)
                            · have c_115 : (mi w0) = true := (bI_ne0 _).mp c_115
                              refine lv_aload_n hx hb dX3_next_120 rfl (lv_at hl 4 rfl) ?_
                              refine va_get (D := D) (ci := 3) (v := .ref (h 5)) (C := RX3) (T := TX3) (N := 18) hx hb hts (fun w h => lw_in w (inX3 w h)) hown hK hP 0 rfl rfl 6 (by decide) (hts _ (lw_in _ t_294)) (fun _ h9 => h9) rfl dX3_next_121 ?_
                              refine lv_iload hx hb dX3_next_124 (lv_at hl 1 rfl) ?_
                              refine wx_pald hx hb hK hP 5 4 rfl rfl (i := w0) (by omega) (by decide) dX3_next_126 ?_
                              refine lv_istore (lv' := [(6, .int (pI (af w0))), (2, .long (r2 ||| (fsF kd pa be mi np lf w0))), (5, .int (nI x30)), (4, .int (nI n)), (0, .ref (h 0)), (1, .int (nI j))]) hx hb dX3_next_127 hl (by decide) rfl (fun ls hl => ?_)
                              refine lv_goto (tgt := 83) hx hb dX3_next_129 (by decide) ?_
                              exact ih2 (af w0) (r2 ||| (fsF kd pa be mi np lf w0)) (fun y hy => by have := okA w0 y hz.2 hy; exact ⟨by omega, this.2⟩) (by rw [← hk, sbL, if_pos c_96, if_pos c_115]) _ _ hP hD hS _ (lv_sub hl [0, 2, 3, 1, 4, 5] rfl)
                            · have c_115 : (mi w0) = false := (bI_eq0 _).mp c_115
                              refine lv_lload_n hx hb dX3_next_118 rfl (lv_at hl 0 rfl) ?_
                              exact ct_endl hx hb hr hlocks hP hD hS rfl (by rw [e_tg, ← he2, ← hk]; simp [sbL, c_96, c_115]) dX3_next_119
                  exact loop2 701 (af n) r (fun y hy => by have := okA n y hn hy; exact ⟨by omega, this.2⟩) rfl _ _ hP hD hS _ (lv_sub hl [0, 1, 2, 3, 4, 5] rfl)
                · have c_62 : (kd x30) = 5 := c_62
                  refine lv_lload_n hx hb dX3_next_65 rfl (lv_at hl 2 rfl) ?_
                  refine lv_aload_n hx hb dX3_next_66 rfl (lv_at hl 3 rfl) ?_
                  refine lv_iload hx hb dX3_next_67 (lv_at hl 1 rfl) ?_
                  refine ct_callV (As := [.int (nI n)]) (rest := [.long r]) ⟨hx, hb, hml, hown, hts⟩ (k_E_firsts l D h k tx sz im cm nw nd kd pa be af mi np lf nm dp la so ro n nb ok0 (by omega)) (cwV 1 hts (gV lw_in t_387 t_389 t_17 t_26 t_390) rfl rfl rfl (by decide +kernel) ⟨Nat.le_of_ble_eq_true rfl, Nat.le_of_ble_eq_true rfl⟩) 0 rfl rfl hK hP hD hS hA rfl hl.1 rfl (Nat.le_of_ble_eq_true rfl) dX3_next_69 ⟨Nat.zero_le _, Nat.zero_le _⟩ (fun H locs hP hD hS => ?_)
                  refine W.eq (g2 := F0 m 72 ls [.long (fsF kd pa be mi np lf n), .long r]) rfl ?_
                  refine lv_lor hx hb dX3_next_72 ?_
                  refine lv_lstore_n (lv' := [(2, .long (r ||| (fsF kd pa be mi np lf n))), (5, .int (nI x30)), (4, .int (nI n)), (0, .ref (h 0)), (1, .int (nI j))]) hx hb dX3_next_73 rfl hl (by decide) rfl (fun ls hl => ?_)
                  refine lv_aload_n hx hb dX3_next_74 rfl (lv_at hl 3 rfl) ?_
                  refine va_get (D := D) (ci := 3) (v := .ref (h 5)) (C := RX3) (T := TX3) (N := 18) hx hb hts (fun w h => lw_in w (inX3 w h)) hown hK hP 0 rfl rfl 6 (by decide) (hts _ (lw_in _ t_294)) (fun _ h9 => h9) rfl dX3_next_75 ?_
                  refine lv_iload hx hb dX3_next_78 (lv_at hl 2 rfl) ?_
                  refine wx_pald hx hb hK hP 5 4 rfl rfl (i := n) (by omega) (by decide) dX3_next_80 ?_
                  refine lv_istore (lv' := [(6, .int (pI (af n))), (2, .long (r ||| (fsF kd pa be mi np lf n))), (5, .int (nI x30)), (4, .int (nI n)), (0, .ref (h 0)), (1, .int (nI j))]) hx hb dX3_next_81 hl (by decide) rfl (fun ls hl => ?_)
                  have he2 : (if (sbL (kd x30) af mi (fsF kd pa be mi np lf) 701 (af n) (r ||| (fsF kd pa be mi np lf n))).2 = true then (sbL (kd x30) af mi (fsF kd pa be mi np lf) 701 (af n) (r ||| (fsF kd pa be mi np lf n))).1 else nxC kd pa af mi (fsF kd pa be mi np lf) f x30 (sbL (kd x30) af mi (fsF kd pa be mi np lf) 701 (af n) (r ||| (fsF kd pa be mi np lf n))).1) = nxF kd pa be af mi np lf j := by rw [← he, nxC, e_30]; dsimp only; rw [if_neg c_51, if_pos c_62]
                  have loop2 : ∀ (g : Nat) (o : Option Nat) (r2 : Int64), (∀ w0, o = some w0 → 701 ≤ g + w0 ∧ w0 < nb) → (sbL (kd x30) af mi (fsF kd pa be mi np lf) g o r2 = sbL (kd x30) af mi (fsF kd pa be mi np lf) 701 (af n) (r ||| (fsF kd pa be mi np lf n))) → ∀ (H : Heap) (locs : List Loc), va_P D vwCl (wM h k tx sz im cm nw (nd, kd, pa, be, af, mi, np, lf, nm, dp, la, so, ro)) H → va_D A (wM h k tx sz im cm nw (nd, kd, pa, be, af, mi, np, lf, nm, dp, la, so, ro)) → va_S A s.heap H locs → ∀ ls : Array Slot, lv_has ls 7 [(6, .int (pI o)), (5, .int (nI x30)), (4, .int (nI n)), (2, .long r2), (0, .ref (h 0)), (1, .int (nI j))] →
                      W p l e (rmN 2) s m ([.ref (h 0), .int (nI j)] : List Value).toArray below meth c H locs 0 0 (MQ below (CtQ D vwCl A (wM h k tx sz im cm nw (nd, kd, pa, be, af, mi, np, lf, nm, dp, la, so, ro)) (some (.long (e_next kd pa be af mi np lf (nI j))))) ([.ref (h 0), .int (nI j)] : List Value).toArray s 0 0 A) (F0 m 83 ls []) := by
                    intro g
                    induction g with
                    | zero =>
                      intro o r2 ho hk H locs hP hD hS ls hl
                      rcases o with _ | w0
                      · have hl : lv_has ls 7 [(6, .int (-1)), (5, .int (nI x30)), (4, .int (nI n)), (2, .long r2), (0, .ref (h 0)), (1, .int (nI j))] := hl
                        refine lv_iload hx hb dX3_next_83 (lv_at hl 0 rfl) ?_
                        refine lv_if_lt (tgt := 132) hx hb dX3_next_85 (by decide) (fun c_85 => ?_) (fun c_85 => ?_)
                        · refine lv_iload hx hb dX3_next_132 (lv_at hl 1 rfl) ?_
                          refine lv_istore (lv' := [(4, .int (nI x30)), (6, .int (-1)), (5, .int (nI x30)), (2, .long r2), (0, .ref (h 0)), (1, .int (nI j))]) hx hb dX3_next_134 hl (by decide) rfl (fun ls hl => ?_)
                          refine lv_goto (tgt := 24) hx hb dX3_next_136 (by decide) ?_
                          exact ih x30 r2 (by omega) (by omega) (by rw [← he2, ← hk]; simp [sbL]) _ _ hP hD hS _ (lv_sub hl [0, 3, 4, 5] rfl)
                        · exact absurd (by decide) c_85
                      · have hl : lv_has ls 7 [(6, .int (nI w0)), (5, .int (nI x30)), (4, .int (nI n)), (2, .long r2), (0, .ref (h 0)), (1, .int (nI j))] := hl
                        exact absurd (ho w0 rfl).1 (by have := (ho w0 rfl).2; omega)
                    | succ g ih2 =>
                      intro o r2 ho hk H locs hP hD hS ls hl
                      rcases o with _ | w0
                      · have hl : lv_has ls 7 [(6, .int (-1)), (5, .int (nI x30)), (4, .int (nI n)), (2, .long r2), (0, .ref (h 0)), (1, .int (nI j))] := hl
                        refine lv_iload hx hb dX3_next_83 (lv_at hl 0 rfl) ?_
                        refine lv_if_lt (tgt := 132) hx hb dX3_next_85 (by decide) (fun c_85 => ?_) (fun c_85 => ?_)
                        · refine lv_iload hx hb dX3_next_132 (lv_at hl 1 rfl) ?_
                          refine lv_istore (lv' := [(4, .int (nI x30)), (6, .int (-1)), (5, .int (nI x30)), (2, .long r2), (0, .ref (h 0)), (1, .int (nI j))]) hx hb dX3_next_134 hl (by decide) rfl (fun ls hl => ?_)
                          refine lv_goto (tgt := 24) hx hb dX3_next_136 (by decide) ?_
                          exact ih x30 r2 (by omega) (by omega) (by rw [← he2, ← hk]; simp [sbL]) _ _ hP hD hS _ (lv_sub hl [0, 3, 4, 5] rfl)
                        · exact absurd (by decide) c_85
                      · have hl : lv_has ls 7 [(6, .int (nI w0)), (5, .int (nI x30)), (4, .int (nI n)), (2, .long r2), (0, .ref (h 0)), (1, .int (nI j))] := hl
                        have hz := ho w0 rfl
                        have hz2 := hz.2
                        refine lv_iload hx hb dX3_next_83 (lv_at hl 0 rfl) ?_
                        refine lv_if_lt (tgt := 132) hx hb dX3_next_85 (by decide) (fun c_85 => ?_) (fun c_85 => ?_)
                        · have c_85 : w0 < 0 := (nI_ltI (a := w0) (b := 0) (by omega) (by omega)).mp c_85
                          exact absurd c_85 (Nat.not_lt_zero _)
                        · have c_85 : 0 ≤ w0 := Nat.le_of_not_lt (fun z => c_85 ((nI_ltI (a := w0) (b := 0) (by omega) (by omega)).mpr z))
                          refine lv_aload_n hx hb dX3_next_88 rfl (lv_at hl 4 rfl) ?_
                          refine va_get (D := D) (ci := 3) (v := .ref (h 2)) (C := RX3) (T := TX3) (N := 18) hx hb hts (fun w h => lw_in w (inX3 w h)) hown hK hP 0 rfl rfl 3 (by decide) (hts _ (lw_in _ t_291)) (fun _ h9 => h9) rfl dX3_next_89 ?_
                          refine lv_iload hx hb dX3_next_92 (lv_at hl 1 rfl) ?_
                          refine wx_iald hx hb hK hP 2 1 rfl rfl (i := x30) (by omega) (by decide) dX3_next_94 ?_
                          refine lv_iconst (v := 2) hx hb dX3_next_95 (by decide) ?_
                          refine lv_icmp_ne (tgt := 132) hx hb dX3_next_96 (by decide) (fun c_96 => ?_) (fun c_96 => ?_)
                          · have c_96 : ¬ (kd x30) = 2 := c_96
                            refine lv_iload hx hb dX3_next_132 (lv_at hl 1 rfl) ?_
                            refine lv_istore (lv' := [(4, .int (nI x30)), (6, .int (nI w0)), (5, .int (nI x30)), (2, .long r2), (0, .ref (h 0)), (1, .int (nI j))]) hx hb dX3_next_134 hl (by decide) rfl (fun ls hl => ?_)
                            refine lv_goto (tgt := 24) hx hb dX3_next_136 (by decide) ?_
                            exact ih x30 r2 (by omega) (by omega) (by rw [← he2, ← hk]; simp [sbL, c_96]) _ _ hP hD hS _ (lv_sub hl [0, 3, 4, 5] rfl)
                          · have c_96 : (kd x30) = 2 := c_96
                            exact absurd (c_62.symm.trans c_96) (by decide)
                  exact loop2 701 (af n) (r ||| (fsF kd pa be mi np lf n)) (fun y hy => by have := okA n y hn hy; exact ⟨by omega, this.2⟩) rfl _ _ hP hD hS _ (lv_sub hl [0, 2, 3, 1, 4, 5] rfl)
      exact loop 701 (lf j) 0 (okL j hj) (by omega) rfl _ _ hP hD hS _ (lv_sub hl [0, 1, 2, 3] rfl)
    · have c_9 : ¬ x < nI np := c_9
      refine lv_lconst (v := 0) hx hb dX3_next_12 (by decide) ?_
      exact ct_endl hx hb hr hlocks hP hD hS rfl (by rw [e_next, if_neg c_1, if_neg c_9]) dX3_next_13
end
section
/-! The methods of the reference: query2 (laid by program) -/
set_option maxHeartbeats 4000000 in
set_option maxRecDepth 100000 in
theorem k_E_last (l : Launch) (D : va_G) (h : Nat → Nat) (k : Nat → ClassId) (tx : Nat → Int32) (sz : Nat) (im : Bool) (cm : Nat) (nw : Int64) (nd : Nat) (kd : Nat → Int32) (pa : Nat → Option Nat) (be : Nat → Option Nat) (af : Nat → Option Nat) (mi : Nat → Bool) (np : Nat) (lf : Nat → Nat) (nm : Nat → Int32) (dp : Nat) (la : Nat → Option Nat) (so : Nat → Int32) (ro : Nat)  (nb : Nat) (ok : okT nb pa be af np lf) :
    Ct l yX3_last wsX3_last (rmN 1) D vwCl (tyM k) [.ref (h 0)] (wM h k tx sz im cm nw (nd, kd, pa, be, af, mi, np, lf, nm, dp, la, so, ro)) (wM h k tx sz im cm nw (nd, kd, pa, be, af, mi, np, lf, nm, dp, la, so, ro)) (some (.long (laL kd pa af mi lf np 0 0))) := by
  refine Ct.of (cc := cX3_last) (maxL := 4) (ret := (some .long)) (lv := [(0, .ref (h 0))]) (by decide) rfl (Nat.le_of_ble_eq_true rfl) rfl ?_
  intro p e s m below meth c A ls hx hb hr hml hts hown hlocks hK hP hD hS hA hl
  have ok0 := ok
  obtain ⟨hnb, hnp, okP, okB, okA, okL⟩ := ok
  have loop : ∀ (n : Nat) (i : Nat) (r : Int64), (i + n = np) → (laL kd pa af mi lf n i r = laL kd pa af mi lf np 0 0) → ∀ (H : Heap) (locs : List Loc), va_P D vwCl (wM h k tx sz im cm nw (nd, kd, pa, be, af, mi, np, lf, nm, dp, la, so, ro)) H → va_D A (wM h k tx sz im cm nw (nd, kd, pa, be, af, mi, np, lf, nm, dp, la, so, ro)) → va_S A s.heap H locs → ∀ ls : Array Slot, lv_has ls 4 [(3, .int (nI i)), (1, .long r), (0, .ref (h 0))] →
      W p l e (rmN 1) s m ([.ref (h 0)] : List Value).toArray below meth c H locs 0 0 (MQ below (CtQ D vwCl A (wM h k tx sz im cm nw (nd, kd, pa, be, af, mi, np, lf, nm, dp, la, so, ro)) (some (.long (laL kd pa af mi lf np 0 0)))) ([.ref (h 0)] : List Value).toArray s 0 0 A) (F0 m 4 ls []) := by
    intro n
    induction n with
    | zero =>
      intro i r hi he H locs hP hD hS ls hl
      refine lv_iload_n hx hb dX3_last_4 rfl (lv_at hl 0 rfl) ?_
      refine lv_aload_n hx hb dX3_last_5 rfl (lv_at hl 2 rfl) ?_
      refine va_get (D := D) (ci := 3) (v := .int (nI np)) (C := RX3) (T := TX3) (N := 18) hx hb hts (fun w h => lw_in w (inX3 w h)) hown hK hP 0 rfl rfl 8 (by decide) (hts _ (lw_in _ t_296)) (fun _ h9 => h9) rfl dX3_last_6 ?_
      refine lv_icmp_ge (tgt := 36) hx hb dX3_last_9 (by decide) (fun c_9 => ?_) (fun c_9 => ?_)
      · have c_9 : np ≤ i := (nI_leI (a := np) (b := i) (by omega) (by omega)).mp c_9
        refine lv_lload_n hx hb dX3_last_36 rfl (lv_at hl 1 rfl) ?_
        exact ct_endl hx hb hr hlocks hP hD hS rfl (by rw [← he]; rfl) dX3_last_37
      · have c_9 : i < np := Nat.lt_of_not_le (fun z => c_9 ((nI_leI (a := np) (b := i) (by omega) (by omega)).mpr z))
        exact absurd c_9 (by omega)
    | succ n ih =>
      intro i r hi he H locs hP hD hS ls hl
      refine lv_iload_n hx hb dX3_last_4 rfl (lv_at hl 0 rfl) ?_
      refine lv_aload_n hx hb dX3_last_5 rfl (lv_at hl 2 rfl) ?_
      refine va_get (D := D) (ci := 3) (v := .int (nI np)) (C := RX3) (T := TX3) (N := 18) hx hb hts (fun w h => lw_in w (inX3 w h)) hown hK hP 0 rfl rfl 8 (by decide) (hts _ (lw_in _ t_296)) (fun _ h9 => h9) rfl dX3_last_6 ?_
      refine lv_icmp_ge (tgt := 36) hx hb dX3_last_9 (by decide) (fun c_9 => ?_) (fun c_9 => ?_)
      · have c_9 : np ≤ i := (nI_leI (a := np) (b := i) (by omega) (by omega)).mp c_9
        exact absurd c_9 (by omega)
      · have c_9 : i < np := Nat.lt_of_not_le (fun z => c_9 ((nI_leI (a := np) (b := i) (by omega) (by omega)).mpr z))
        refine lv_lload_n hx hb dX3_last_12 rfl (lv_at hl 1 rfl) ?_
        refine lv_aload_n hx hb dX3_last_13 rfl (lv_at hl 2 rfl) ?_
        refine lv_iload_n hx hb dX3_last_14 rfl (lv_at hl 0 rfl) ?_
        refine ct_callV (As := [.int (nI i)]) (rest := [.long r]) ⟨hx, hb, hml, hown, hts⟩ (k_E_ends l D h k tx sz im cm nw nd kd pa be af mi np lf nm dp la so ro i nb ok0 (by omega)) (cwV 1 hts (gV lw_in t_403 t_405 t_19 t_26 t_406) rfl rfl rfl (by decide +kernel) ⟨Nat.le_of_ble_eq_true rfl, Nat.le_of_ble_eq_true rfl⟩) 0 rfl rfl hK hP hD hS hA rfl hl.1 rfl (Nat.le_of_ble_eq_true rfl) dX3_last_15 ⟨Nat.zero_le _, Nat.zero_le _⟩ (fun H locs hP hD hS => ?_)
        refine W.eq (g2 := F0 m 18 ls [.int (bI (edC kd pa af mi 701 (lf i))), .long r]) rfl ?_
        refine lv_if_eq (tgt := 27) hx hb dX3_last_18 (by decide) (fun c_18 => ?_) (fun c_18 => ?_)
        · have c_18 : (edC kd pa af mi 701 (lf i)) = false := (bI_eq0 _).mp c_18
          refine lv_lconst (v := 0) hx hb dX3_last_27 (by decide) ?_
          refine lv_lor hx hb dX3_last_28 ?_
          refine lv_lstore_n (lv' := [(1, .long (r ||| 0)), (3, .int (nI i)), (0, .ref (h 0))]) hx hb dX3_last_29 rfl hl (by decide) rfl (fun ls hl => ?_)
          refine lv_iinc (v := nI (i + 1)) (lv' := [(3, .int (nI (i + 1))), (1, .long (r ||| 0)), (0, .ref (h 0))]) hx hb dX3_last_30 hl (k := 1) rfl (nI_1 _) (by decide) rfl (fun ls hl => ?_)
          refine lv_goto (tgt := 4) hx hb dX3_last_33 (by decide) ?_
          exact ih (i + 1) (r ||| 0) (by omega) (by rw [← he, laL, if_neg (bF c_18)]) _ _ hP hD hS _ (lv_sub hl [0, 1, 2] rfl)
        · have c_18 : (edC kd pa af mi 701 (lf i)) = true := (bI_ne0 _).mp c_18
          refine lv_lconst (v := 1) hx hb dX3_last_21 (by decide) ?_
          refine lv_iload_n hx hb dX3_last_22 rfl (lv_at hl 0 rfl) ?_
          refine lv_lshl (v := ((1 : Int64) <<< ((nI i).toInt64 &&& 63))) hx hb dX3_last_23 rfl ?_
          refine lv_goto (tgt := 28) hx hb dX3_last_24 (by decide) ?_
          refine lv_lor hx hb dX3_last_28 ?_
          refine lv_lstore_n (lv' := [(1, .long (r ||| ((1 : Int64) <<< ((nI i).toInt64 &&& 63)))), (3, .int (nI i)), (0, .ref (h 0))]) hx hb dX3_last_29 rfl hl (by decide) rfl (fun ls hl => ?_)
          refine lv_iinc (v := nI (i + 1)) (lv' := [(3, .int (nI (i + 1))), (1, .long (r ||| ((1 : Int64) <<< ((nI i).toInt64 &&& 63)))), (0, .ref (h 0))]) hx hb dX3_last_30 hl (k := 1) rfl (nI_1 _) (by decide) rfl (fun ls hl => ?_)
          refine lv_goto (tgt := 4) hx hb dX3_last_33 (by decide) ?_
          exact ih (i + 1) (r ||| ((1 : Int64) <<< ((nI i).toInt64 &&& 63))) (by omega) (by rw [← he, laL, if_pos c_18]) _ _ hP hD hS _ (lv_sub hl [0, 1, 2] rfl)
  refine lv_lconst (v := 0) hx hb dX3_last_0 (by decide) ?_
  refine lv_lstore_n (lv' := [(1, .long 0), (0, .ref (h 0))]) hx hb dX3_last_1 rfl hl (by decide) rfl (fun ls hl => ?_)
  refine lv_iconst (v := 0) hx hb dX3_last_2 (by decide) ?_
  refine lv_istore_n (lv' := [(3, .int 0), (1, .long 0), (0, .ref (h 0))]) hx hb dX3_last_3 rfl hl (by decide) rfl (fun ls hl => ?_)
  exact loop np 0 0 (by omega) rfl _ _ hP hD hS _ (lv_sub hl [0, 1, 2] rfl)

set_option maxHeartbeats 4000000 in
set_option maxRecDepth 100000 in
theorem k_E_twice (l : Launch) (D : va_G) (h : Nat → Nat) (k : Nat → ClassId) (tx : Nat → Int32) (sz : Nat) (im : Bool) (cm : Nat) (nw : Int64) (nd : Nat) (kd : Nat → Int32) (pa : Nat → Option Nat) (be : Nat → Option Nat) (af : Nat → Option Nat) (mi : Nat → Bool) (np : Nat) (lf : Nat → Nat) (nm : Nat → Int32) (dp : Nat) (la : Nat → Option Nat) (so : Nat → Int32) (ro : Nat) (a : Int64)  (hnp : np ≤ 60) :
    Ct l yX3_twice wsX3_twice (rmN 0) D vwCl (tyM k) [.ref (h 0), .long a] (wM h k tx sz im cm nw (nd, kd, pa, be, af, mi, np, lf, nm, dp, la, so, ro)) (wM h k tx sz im cm nw (nd, kd, pa, be, af, mi, np, lf, nm, dp, la, so, ro)) (some (.int (twF a nm np))) := by
  refine Ct.of (cc := cX3_twice) (maxL := 7) (ret := (some .int)) (lv := [(0, .ref (h 0)), (1, .long a)]) (by decide) rfl (Nat.le_of_ble_eq_true rfl) rfl ?_
  intro p e s m below meth c A ls hx hb hr hml hts hown hlocks hK hP hD hS hA hl
  have loop : ∀ (n : Nat) (i : Nat) (o : Int32) (t : Int32), (i + n = np) → (twL a nm n i o t = twF a nm np) → ∀ (H : Heap) (locs : List Loc), va_P D vwCl (wM h k tx sz im cm nw (nd, kd, pa, be, af, mi, np, lf, nm, dp, la, so, ro)) H → va_D A (wM h k tx sz im cm nw (nd, kd, pa, be, af, mi, np, lf, nm, dp, la, so, ro)) → va_S A s.heap H locs → ∀ ls : Array Slot, lv_has ls 7 [(5, .int (nI i)), (4, .int t), (3, .int o), (0, .ref (h 0)), (1, .long a)] →
      W p l e (rmN 0) s m ([.ref (h 0), .long a] : List Value).toArray below meth c H locs 0 0 (MQ below (CtQ D vwCl A (wM h k tx sz im cm nw (nd, kd, pa, be, af, mi, np, lf, nm, dp, la, so, ro)) (some (.int (twF a nm np)))) ([.ref (h 0), .long a] : List Value).toArray s 0 0 A) (F0 m 8 ls []) := by
    intro n
    induction n with
    | zero =>
      intro i o t hi he H locs hP hD hS ls hl
      refine lv_iload hx hb dX3_twice_8 (lv_at hl 0 rfl) ?_
      refine lv_aload_n hx hb dX3_twice_10 rfl (lv_at hl 3 rfl) ?_
      refine va_get (D := D) (ci := 3) (v := .int (nI np)) (C := RX3) (T := TX3) (N := 18) hx hb hts (fun w h => lw_in w (inX3 w h)) hown hK hP 0 rfl rfl 8 (by decide) (hts _ (lw_in _ t_296)) (fun _ h9 => h9) rfl dX3_twice_11 ?_
      refine lv_icmp_ge (tgt := 63) hx hb dX3_twice_14 (by decide) (fun c_14 => ?_) (fun c_14 => ?_)
      · have c_14 : np ≤ i := (nI_leI (a := np) (b := i) (by omega) (by omega)).mp c_14
        refine lv_iload hx hb dX3_twice_63 (lv_at hl 1 rfl) ?_
        exact ct_endi hx hb hr hlocks rfl hP hD hS rfl (by rw [← he]; rfl) dX3_twice_65
      · have c_14 : i < np := Nat.lt_of_not_le (fun z => c_14 ((nI_leI (a := np) (b := i) (by omega) (by omega)).mpr z))
        exact absurd c_14 (by omega)
    | succ n ih =>
      intro i o t hi he H locs hP hD hS ls hl
      refine lv_iload hx hb dX3_twice_8 (lv_at hl 0 rfl) ?_
      refine lv_aload_n hx hb dX3_twice_10 rfl (lv_at hl 3 rfl) ?_
      refine va_get (D := D) (ci := 3) (v := .int (nI np)) (C := RX3) (T := TX3) (N := 18) hx hb hts (fun w h => lw_in w (inX3 w h)) hown hK hP 0 rfl rfl 8 (by decide) (hts _ (lw_in _ t_296)) (fun _ h9 => h9) rfl dX3_twice_11 ?_
      refine lv_icmp_ge (tgt := 63) hx hb dX3_twice_14 (by decide) (fun c_14 => ?_) (fun c_14 => ?_)
      · have c_14 : np ≤ i := (nI_leI (a := np) (b := i) (by omega) (by omega)).mp c_14
        exact absurd c_14 (by omega)
      · have c_14 : i < np := Nat.lt_of_not_le (fun z => c_14 ((nI_leI (a := np) (b := i) (by omega) (by omega)).mpr z))
        refine lv_lload_n hx hb dX3_twice_17 rfl (lv_at hl 4 rfl) ?_
        refine lv_iload hx hb dX3_twice_18 (lv_at hl 0 rfl) ?_
        refine lv_lshr (v := ((a : Int64) >>> ((nI i).toInt64 &&& 63))) hx hb dX3_twice_20 rfl ?_
        refine lv_lconst (v := 1) hx hb dX3_twice_21 (by decide) ?_
        refine lv_land hx hb dX3_twice_22 ?_
        refine lv_lconst (v := 1) hx hb dX3_twice_23 (by decide) ?_
        refine W.lcmp hx hb dX3_twice_24 ?_
        refine lv_if_ne (tgt := 40) hx hb dX3_twice_25 (by decide) (fun c_25 => ?_) (fun c_25 => ?_)
        · have c_25 : ¬ (((a : Int64) >>> ((nI i).toInt64 &&& 63)) &&& 1) = 1 := fun z => c_25 ((lg_cmp_eq _ _).mpr z)
          have c_25 : hB a i = false := hB_nr (by omega) c_25
          refine lv_iconst (v := 0) hx hb dX3_twice_40 (by decide) ?_
          refine lv_istore (lv' := [(6, .int 0), (5, .int (nI i)), (4, .int t), (3, .int o), (0, .ref (h 0)), (1, .long a)]) hx hb dX3_twice_41 hl (by decide) rfl (fun ls hl => ?_)
          refine lv_iload hx hb dX3_twice_43 (lv_at hl 2 rfl) ?_
          refine lv_iload_n hx hb dX3_twice_45 rfl (lv_at hl 3 rfl) ?_
          refine lv_iload hx hb dX3_twice_46 (lv_at hl 0 rfl) ?_
          refine lv_iand hx hb dX3_twice_48 ?_
          refine lv_ior hx hb dX3_twice_49 ?_
          refine lv_istore (lv' := [(4, .int (t ||| (o &&& 0))), (6, .int 0), (5, .int (nI i)), (3, .int o), (0, .ref (h 0)), (1, .long a)]) hx hb dX3_twice_50 hl (by decide) rfl (fun ls hl => ?_)
          refine lv_iload_n hx hb dX3_twice_52 rfl (lv_at hl 3 rfl) ?_
          refine lv_iload hx hb dX3_twice_53 (lv_at hl 1 rfl) ?_
          refine lv_ior hx hb dX3_twice_55 ?_
          refine lv_istore_n (lv' := [(3, .int (o ||| 0)), (4, .int (t ||| (o &&& 0))), (6, .int 0), (5, .int (nI i)), (0, .ref (h 0)), (1, .long a)]) hx hb dX3_twice_56 rfl hl (by decide) rfl (fun ls hl => ?_)
          refine lv_iinc (v := nI (i + 1)) (lv' := [(5, .int (nI (i + 1))), (3, .int (o ||| 0)), (4, .int (t ||| (o &&& 0))), (6, .int 0), (0, .ref (h 0)), (1, .long a)]) hx hb dX3_twice_57 hl (k := 3) rfl (nI_1 _) (by decide) rfl (fun ls hl => ?_)
          refine lv_goto (tgt := 8) hx hb dX3_twice_60 (by decide) ?_
          exact ih (i + 1) (o ||| 0) (t ||| (o &&& 0)) (by omega) (by rw [← he, twL, if_neg (bF c_25)]) _ _ hP hD hS _ (lv_sub hl [0, 2, 1, 4, 5] rfl)
        · have c_25 : (((a : Int64) >>> ((nI i).toInt64 &&& 63)) &&& 1) = 1 := (lg_cmp_eq _ _).mp c_25
          have c_25 : hB a i = true := (hB_sr a (by omega)).mp c_25
          refine lv_iconst (v := 1) hx hb dX3_twice_28 (by decide) ?_
          refine lv_aload_n hx hb dX3_twice_29 rfl (lv_at hl 3 rfl) ?_
          refine va_get (D := D) (ci := 3) (v := .ref (h 8)) (C := RX3) (T := TX3) (N := 18) hx hb hts (fun w h => lw_in w (inX3 w h)) hown hK hP 0 rfl rfl 10 (by decide) (hts _ (lw_in _ t_298)) (fun _ h9 => h9) rfl dX3_twice_30 ?_
          refine lv_iload hx hb dX3_twice_33 (lv_at hl 0 rfl) ?_
          refine wx_iald hx hb hK hP 8 7 rfl rfl (i := i) (by omega) (by decide) dX3_twice_35 ?_
          refine lv_ishl hx hb dX3_twice_36 ?_
          refine lv_goto (tgt := 41) hx hb dX3_twice_37 (by decide) ?_
          refine lv_istore (lv' := [(6, .int (1 <<< ((nm i) &&& 31))), (5, .int (nI i)), (4, .int t), (3, .int o), (0, .ref (h 0)), (1, .long a)]) hx hb dX3_twice_41 hl (by decide) rfl (fun ls hl => ?_)
          refine lv_iload hx hb dX3_twice_43 (lv_at hl 2 rfl) ?_
          refine lv_iload_n hx hb dX3_twice_45 rfl (lv_at hl 3 rfl) ?_
          refine lv_iload hx hb dX3_twice_46 (lv_at hl 0 rfl) ?_
          refine lv_iand hx hb dX3_twice_48 ?_
          refine lv_ior hx hb dX3_twice_49 ?_
          refine lv_istore (lv' := [(4, .int (t ||| (o &&& (1 <<< ((nm i) &&& 31))))), (6, .int (1 <<< ((nm i) &&& 31))), (5, .int (nI i)), (3, .int o), (0, .ref (h 0)), (1, .long a)]) hx hb dX3_twice_50 hl (by decide) rfl (fun ls hl => ?_)
          refine lv_iload_n hx hb dX3_twice_52 rfl (lv_at hl 3 rfl) ?_
          refine lv_iload hx hb dX3_twice_53 (lv_at hl 1 rfl) ?_
          refine lv_ior hx hb dX3_twice_55 ?_
          refine lv_istore_n (lv' := [(3, .int (o ||| (1 <<< ((nm i) &&& 31)))), (4, .int (t ||| (o &&& (1 <<< ((nm i) &&& 31))))), (6, .int (1 <<< ((nm i) &&& 31))), (5, .int (nI i)), (0, .ref (h 0)), (1, .long a)]) hx hb dX3_twice_56 rfl hl (by decide) rfl (fun ls hl => ?_)
          refine lv_iinc (v := nI (i + 1)) (lv' := [(5, .int (nI (i + 1))), (3, .int (o ||| (1 <<< ((nm i) &&& 31)))), (4, .int (t ||| (o &&& (1 <<< ((nm i) &&& 31))))), (6, .int (1 <<< ((nm i) &&& 31))), (0, .ref (h 0)), (1, .long a)]) hx hb dX3_twice_57 hl (k := 3) rfl (nI_1 _) (by decide) rfl (fun ls hl => ?_)
          refine lv_goto (tgt := 8) hx hb dX3_twice_60 (by decide) ?_
          exact ih (i + 1) (o ||| (1 <<< ((nm i) &&& 31))) (t ||| (o &&& (1 <<< ((nm i) &&& 31)))) (by omega) (by rw [← he, twL, if_pos c_25]) _ _ hP hD hS _ (lv_sub hl [0, 2, 1, 4, 5] rfl)
  refine lv_iconst (v := 0) hx hb dX3_twice_0 (by decide) ?_
  refine lv_istore_n (lv' := [(3, .int 0), (0, .ref (h 0)), (1, .long a)]) hx hb dX3_twice_1 rfl hl (by decide) rfl (fun ls hl => ?_)
  refine lv_iconst (v := 0) hx hb dX3_twice_2 (by decide) ?_
  refine lv_istore (lv' := [(4, .int 0), (3, .int 0), (0, .ref (h 0)), (1, .long a)]) hx hb dX3_twice_3 hl (by decide) rfl (fun ls hl => ?_)
  refine lv_iconst (v := 0) hx hb dX3_twice_5 (by decide) ?_
  refine lv_istore (lv' := [(5, .int 0), (4, .int 0), (3, .int 0), (0, .ref (h 0)), (1, .long a)]) hx hb dX3_twice_6 hl (by decide) rfl (fun ls hl => ?_)
  exact loop np 0 0 0 (by omega) rfl _ _ hP hD hS _ (lv_sub hl [0, 1, 2, 3, 4] rfl)

set_option maxHeartbeats 4000000 in
set_option maxRecDepth 100000 in
theorem k_E_competing (l : Launch) (D : va_G) (h : Nat → Nat) (k : Nat → ClassId) (tx : Nat → Int32) (sz : Nat) (im : Bool) (cm : Nat) (nw : Int64) (nd : Nat) (kd : Nat → Int32) (pa : Nat → Option Nat) (be : Nat → Option Nat) (af : Nat → Option Nat) (mi : Nat → Bool) (np : Nat) (lf : Nat → Nat) (nm : Nat → Int32) (dp : Nat) (la : Nat → Option Nat) (so : Nat → Int32) (ro : Nat)  (nb : Nat) (ok : okT nb pa be af np lf) (hro : im = true → ro < nb) :
    Ct l yX3_competing wsX3_competing (rmN 3) D vwCl (tyM k) [.ref (h 0)] (wM h k tx sz im cm nw (nd, kd, pa, be, af, mi, np, lf, nm, dp, la, so, ro)) (wM h k tx sz im cm nw (nd, kd, pa, be, af, mi, np, lf, nm, dp, la, so, ro)) (some (.int (cmL nm np (fun q => e_next kd pa be af mi np lf (nI q)) np 0 (twF (e_first kd pa be mi np lf im ro) nm np)))) := by
  refine Ct.of (cc := cX3_competing) (maxL := 3) (ret := (some .int)) (lv := [(0, .ref (h 0))]) (by decide) rfl (Nat.le_of_ble_eq_true rfl) rfl ?_
  intro p e s m below meth c A ls hx hb hr hml hts hown hlocks hK hP hD hS hA hl
  have ok0 := ok
  obtain ⟨hnb, hnp, okP, okB, okA, okL⟩ := ok
  have loop : ∀ (n : Nat) (i : Nat) (r : Int32), (i + n = np) → (cmL nm np (fun q => e_next kd pa be af mi np lf (nI q)) n i r = cmL nm np (fun q => e_next kd pa be af mi np lf (nI q)) np 0 (twF (e_first kd pa be mi np lf im ro) nm np)) → ∀ (H : Heap) (locs : List Loc), va_P D vwCl (wM h k tx sz im cm nw (nd, kd, pa, be, af, mi, np, lf, nm, dp, la, so, ro)) H → va_D A (wM h k tx sz im cm nw (nd, kd, pa, be, af, mi, np, lf, nm, dp, la, so, ro)) → va_S A s.heap H locs → ∀ ls : Array Slot, lv_has ls 3 [(2, .int (nI i)), (1, .int r), (0, .ref (h 0))] →
      W p l e (rmN 3) s m ([.ref (h 0)] : List Value).toArray below meth c H locs 0 0 (MQ below (CtQ D vwCl A (wM h k tx sz im cm nw (nd, kd, pa, be, af, mi, np, lf, nm, dp, la, so, ro)) (some (.int (cmL nm np (fun q => e_next kd pa be af mi np lf (nI q)) np 0 (twF (e_first kd pa be mi np lf im ro) nm np))))) ([.ref (h 0)] : List Value).toArray s 0 0 A) (F0 m 11 ls []) := by
    intro n
    induction n with
    | zero =>
      intro i r hi he H locs hP hD hS ls hl
      refine lv_iload_n hx hb dX3_competing_11 rfl (lv_at hl 0 rfl) ?_
      refine lv_aload_n hx hb dX3_competing_12 rfl (lv_at hl 2 rfl) ?_
      refine va_get (D := D) (ci := 3) (v := .int (nI np)) (C := RX3) (T := TX3) (N := 18) hx hb hts (fun w h => lw_in w (inX3 w h)) hown hK hP 0 rfl rfl 8 (by decide) (hts _ (lw_in _ t_296)) (fun _ h9 => h9) rfl dX3_competing_13 ?_
      refine lv_icmp_ge (tgt := 37) hx hb dX3_competing_16 (by decide) (fun c_16 => ?_) (fun c_16 => ?_)
      · have c_16 : np ≤ i := (nI_leI (a := np) (b := i) (by omega) (by omega)).mp c_16
        refine lv_iload_n hx hb dX3_competing_37 rfl (lv_at hl 1 rfl) ?_
        exact ct_endi hx hb hr hlocks rfl hP hD hS rfl (by rw [← he]; rfl) dX3_competing_38
      · have c_16 : i < np := Nat.lt_of_not_le (fun z => c_16 ((nI_leI (a := np) (b := i) (by omega) (by omega)).mpr z))
        exact absurd c_16 (by omega)
    | succ n ih =>
      intro i r hi he H locs hP hD hS ls hl
      refine lv_iload_n hx hb dX3_competing_11 rfl (lv_at hl 0 rfl) ?_
      refine lv_aload_n hx hb dX3_competing_12 rfl (lv_at hl 2 rfl) ?_
      refine va_get (D := D) (ci := 3) (v := .int (nI np)) (C := RX3) (T := TX3) (N := 18) hx hb hts (fun w h => lw_in w (inX3 w h)) hown hK hP 0 rfl rfl 8 (by decide) (hts _ (lw_in _ t_296)) (fun _ h9 => h9) rfl dX3_competing_13 ?_
      refine lv_icmp_ge (tgt := 37) hx hb dX3_competing_16 (by decide) (fun c_16 => ?_) (fun c_16 => ?_)
      · have c_16 : np ≤ i := (nI_leI (a := np) (b := i) (by omega) (by omega)).mp c_16
        exact absurd c_16 (by omega)
      · have c_16 : i < np := Nat.lt_of_not_le (fun z => c_16 ((nI_leI (a := np) (b := i) (by omega) (by omega)).mpr z))
        refine lv_iload_n hx hb dX3_competing_19 rfl (lv_at hl 1 rfl) ?_
        refine lv_aload_n hx hb dX3_competing_20 rfl (lv_at hl 2 rfl) ?_
        refine lv_aload_n hx hb dX3_competing_21 rfl (lv_at hl 2 rfl) ?_
        refine lv_iload_n hx hb dX3_competing_22 rfl (lv_at hl 0 rfl) ?_
        refine ct_callV (As := [.int (nI i)]) (rest := [.ref (h 0), .int r]) ⟨hx, hb, hml, hown, hts⟩ (k_E_next l D h k tx sz im cm nw nd kd pa be af mi np lf nm dp la so ro (nI i) nb ok0) (cwV 1 hts (gV lw_in t_416 t_396 t_397 t_26 t_398) rfl rfl rfl (by decide +kernel) ⟨Nat.le_of_ble_eq_true rfl, Nat.le_of_ble_eq_true rfl⟩) 0 rfl rfl hK hP hD hS hA rfl hl.1 rfl (Nat.le_of_ble_eq_true rfl) dX3_competing_23 ⟨Nat.zero_le _, Nat.zero_le _⟩ (fun H locs hP hD hS => ?_)
        refine W.eq (g2 := F0 m 26 ls [.long (e_next kd pa be af mi np lf (nI i)), .ref (h 0), .int r]) rfl ?_
        refine ct_callV (As := [.long (e_next kd pa be af mi np lf (nI i))]) (rest := [.int r]) ⟨hx, hb, hml, hown, hts⟩ (k_E_twice l D h k tx sz im cm nw nd kd pa be af mi np lf nm dp la so ro (e_next kd pa be af mi np lf (nI i))  (by omega)) (cwV 1 hts (gV lw_in t_412 t_414 t_20 t_26 t_415) rfl rfl rfl (by decide +kernel) ⟨Nat.le_of_ble_eq_true rfl, Nat.le_of_ble_eq_true rfl⟩) 0 rfl rfl hK hP hD hS hA rfl hl.1 rfl (Nat.le_of_ble_eq_true rfl) dX3_competing_26 ⟨Nat.zero_le _, Nat.zero_le _⟩ (fun H locs hP hD hS => ?_)
        refine W.eq (g2 := F0 m 29 ls [.int (twF (e_next kd pa be af mi np lf (nI i)) nm np), .int r]) rfl ?_
        refine lv_ior hx hb dX3_competing_29 ?_
        refine lv_istore_n (lv' := [(1, .int (r ||| (twF (e_next kd pa be af mi np lf (nI i)) nm np))), (2, .int (nI i)), (0, .ref (h 0))]) hx hb dX3_competing_30 rfl hl (by decide) rfl (fun ls hl => ?_)
        refine lv_iinc (v := nI (i + 1)) (lv' := [(2, .int (nI (i + 1))), (1, .int (r ||| (twF (e_next kd pa be af mi np lf (nI i)) nm np))), (0, .ref (h 0))]) hx hb dX3_competing_31 hl (k := 1) rfl (nI_1 _) (by decide) rfl (fun ls hl => ?_)
        refine lv_goto (tgt := 11) hx hb dX3_competing_34 (by decide) ?_
        exact ih (i + 1) (r ||| (twF (e_next kd pa be af mi np lf (nI i)) nm np)) (by omega) (by rw [← he, cmL]) _ _ hP hD hS _ (lv_sub hl [0, 1, 2] rfl)
  refine lv_aload_n hx hb dX3_competing_0 rfl (lv_at hl 0 rfl) ?_
  refine lv_aload_n hx hb dX3_competing_1 rfl (lv_at hl 0 rfl) ?_
  refine ct_callV (As := []) (rest := [.ref (h 0)]) ⟨hx, hb, hml, hown, hts⟩ (k_E_first l D h k tx sz im cm nw nd kd pa be af mi np lf nm dp la so ro  nb ok0 hro) (cwV 0 hts (gV lw_in t_411 t_384 t_385 t_26 t_386) rfl rfl rfl (by decide +kernel) ⟨Nat.le_of_ble_eq_true rfl, Nat.le_of_ble_eq_true rfl⟩) 0 rfl rfl hK hP hD hS hA rfl hl.1 rfl (Nat.le_of_ble_eq_true rfl) dX3_competing_2 ⟨Nat.zero_le _, Nat.zero_le _⟩ (fun H locs hP hD hS => ?_)
  refine W.eq (g2 := F0 m 5 ls [.long (e_first kd pa be mi np lf im ro), .ref (h 0)]) rfl ?_
  refine ct_callV (As := [.long (e_first kd pa be mi np lf im ro)]) (rest := []) ⟨hx, hb, hml, hown, hts⟩ (k_E_twice l D h k tx sz im cm nw nd kd pa be af mi np lf nm dp la so ro (e_first kd pa be mi np lf im ro)  (by omega)) (cwV 1 hts (gV lw_in t_412 t_414 t_20 t_26 t_415) rfl rfl rfl (by decide +kernel) ⟨Nat.le_of_ble_eq_true rfl, Nat.le_of_ble_eq_true rfl⟩) 0 rfl rfl hK hP hD hS hA rfl hl.1 rfl (Nat.le_of_ble_eq_true rfl) dX3_competing_5 ⟨Nat.zero_le _, Nat.zero_le _⟩ (fun H locs hP hD hS => ?_)
  refine W.eq (g2 := F0 m 8 ls [.int (twF (e_first kd pa be mi np lf im ro) nm np)]) rfl ?_
  refine lv_istore_n (lv' := [(1, .int (twF (e_first kd pa be mi np lf im ro) nm np)), (0, .ref (h 0))]) hx hb dX3_competing_8 rfl hl (by decide) rfl (fun ls hl => ?_)
  refine lv_iconst (v := 0) hx hb dX3_competing_9 (by decide) ?_
  refine lv_istore_n (lv' := [(2, .int 0), (1, .int (twF (e_first kd pa be mi np lf im ro) nm np)), (0, .ref (h 0))]) hx hb dX3_competing_10 rfl hl (by decide) rfl (fun ls hl => ?_)
  exact loop np 0 (twF (e_first kd pa be mi np lf im ro) nm np) (by omega) rfl _ _ hP hD hS _ (lv_sub hl [0, 1, 2] rfl)

set_option maxHeartbeats 4000000 in
set_option maxRecDepth 100000 in
theorem k_E_isClear (l : Launch) (D : va_G) (h : Nat → Nat) (k : Nat → ClassId) (tx : Nat → Int32) (sz : Nat) (im : Bool) (cm : Nat) (nw : Int64) (nd : Nat) (kd : Nat → Int32) (pa : Nat → Option Nat) (be : Nat → Option Nat) (af : Nat → Option Nat) (mi : Nat → Bool) (np : Nat) (lf : Nat → Nat) (nm : Nat → Int32) (dp : Nat) (la : Nat → Option Nat) (so : Nat → Int32) (ro : Nat)  (nb : Nat) (ok : okT nb pa be af np lf) (hro : im = true → ro < nb) :
    Ct l yX3_isClear wsX3_isClear (rmN 4) D vwCl (tyM k) [.ref (h 0)] (wM h k tx sz im cm nw (nd, kd, pa, be, af, mi, np, lf, nm, dp, la, so, ro)) (wM h k tx sz im cm nw (nd, kd, pa, be, af, mi, np, lf, nm, dp, la, so, ro)) (some (.int (bI (im && decide (cmL nm np (fun q => e_next kd pa be af mi np lf (nI q)) np 0 (twF (e_first kd pa be mi np lf im ro) nm np) = 0))))) := by
  refine Ct.of (cc := cX3_isClear) (maxL := 1) (ret := (some .boolean)) (lv := [(0, .ref (h 0))]) (by decide) rfl (Nat.le_of_ble_eq_true rfl) rfl ?_
  intro p e s m below meth c A ls hx hb hr hml hts hown hlocks hK hP hD hS hA hl
  refine lv_aload_n hx hb dX3_isClear_0 rfl (lv_at hl 0 rfl) ?_
  refine va_get (D := D) (ci := 3) (v := .int (bI im)) (C := RX3) (T := TX3) (N := 18) hx hb hts (fun w h => lw_in w (inX3 w h)) hown hK hP 0 rfl rfl 11 (by decide) (hts _ (lw_in _ t_299)) (fun _ h9 => h9) rfl dX3_isClear_1 ?_
  refine lv_if_eq (tgt := 18) hx hb dX3_isClear_4 (by decide) (fun c_4 => ?_) (fun c_4 => ?_)
  · have c_4 : im = false := (bI_eq0 _).mp c_4
    refine lv_iconst (v := 0) hx hb dX3_isClear_18 (by decide) ?_
    exact ct_endi hx hb hr hlocks rfl hP hD hS rfl (by rw [c_4]; rfl) dX3_isClear_19
  · have c_4 : im = true := (bI_ne0 _).mp c_4
    refine lv_aload_n hx hb dX3_isClear_7 rfl (lv_at hl 0 rfl) ?_
    refine ct_callV (As := []) (rest := []) ⟨hx, hb, hml, hown, hts⟩ (k_E_competing l D h k tx sz im cm nw nd kd pa be af mi np lf nm dp la so ro  nb ok hro) (cwV 0 hts (gV lw_in t_421 t_408 t_409 t_26 t_410) rfl rfl rfl (by decide +kernel) ⟨Nat.le_of_ble_eq_true rfl, Nat.le_of_ble_eq_true rfl⟩) 0 rfl rfl hK hP hD hS hA rfl hl.1 rfl (Nat.le_of_ble_eq_true rfl) dX3_isClear_8 ⟨Nat.zero_le _, Nat.zero_le _⟩ (fun H locs hP hD hS => ?_)
    refine W.eq (g2 := F0 m 11 ls [.int (cmL nm np (fun q => e_next kd pa be af mi np lf (nI q)) np 0 (twF (e_first kd pa be mi np lf im ro) nm np))]) rfl ?_
    refine lv_if_ne (tgt := 18) hx hb dX3_isClear_11 (by decide) (fun c_11 => ?_) (fun c_11 => ?_)
    · have c_11 : ¬ (cmL nm np (fun q => e_next kd pa be af mi np lf (nI q)) np 0 (twF (e_first kd pa be mi np lf im ro) nm np)) = 0 := c_11
      refine lv_iconst (v := 0) hx hb dX3_isClear_18 (by decide) ?_
      exact ct_endi hx hb hr hlocks rfl hP hD hS rfl (by rw [decide_eq_false c_11, Bool.and_false]; rfl) dX3_isClear_19
    · have c_11 : (cmL nm np (fun q => e_next kd pa be af mi np lf (nI q)) np 0 (twF (e_first kd pa be mi np lf im ro) nm np)) = 0 := c_11
      refine lv_iconst (v := 1) hx hb dX3_isClear_14 (by decide) ?_
      refine lv_goto (tgt := 19) hx hb dX3_isClear_15 (by decide) ?_
      exact ct_endi hx hb hr hlocks rfl hP hD hS rfl (by rw [decide_eq_true c_11, Bool.and_true, c_4]; rfl) dX3_isClear_19

set_option maxHeartbeats 4000000 in
set_option maxRecDepth 100000 in
theorem k_E_isEmpty (l : Launch) (D : va_G) (h : Nat → Nat) (k : Nat → ClassId) (tx : Nat → Int32) (sz : Nat) (im : Bool) (cm : Nat) (nw : Int64) (nd : Nat) (kd : Nat → Int32) (pa : Nat → Option Nat) (be : Nat → Option Nat) (af : Nat → Option Nat) (mi : Nat → Bool) (np : Nat) (lf : Nat → Nat) (nm : Nat → Int32) (dp : Nat) (la : Nat → Option Nat) (so : Nat → Int32) (ro : Nat)  (nb : Nat) (ok : okT nb pa be af np lf) (hro : im = true → ro < nb) :
    Ct l yX3_isEmpty wsX3_isEmpty (rmN 0) D vwCl (tyM k) [.ref (h 0)] (wM h k tx sz im cm nw (nd, kd, pa, be, af, mi, np, lf, nm, dp, la, so, ro)) (wM h k tx sz im cm nw (nd, kd, pa, be, af, mi, np, lf, nm, dp, la, so, ro)) (some (.int (bI (im && mi ro)))) := by
  refine Ct.of (cc := cX3_isEmpty) (maxL := 1) (ret := (some .boolean)) (lv := [(0, .ref (h 0))]) (by decide) rfl (Nat.le_of_ble_eq_true rfl) rfl ?_
  intro p e s m below meth c A ls hx hb hr hml hts hown hlocks hK hP hD hS hA hl
  obtain ⟨hnb, hnp, okP, okB, okA, okL⟩ := ok
  refine lv_aload_n hx hb dX3_isEmpty_0 rfl (lv_at hl 0 rfl) ?_
  refine va_get (D := D) (ci := 3) (v := .int (bI im)) (C := RX3) (T := TX3) (N := 18) hx hb hts (fun w h => lw_in w (inX3 w h)) hown hK hP 0 rfl rfl 11 (by decide) (hts _ (lw_in _ t_299)) (fun _ h9 => h9) rfl dX3_isEmpty_1 ?_
  refine lv_if_eq (tgt := 23) hx hb dX3_isEmpty_4 (by decide) (fun c_4 => ?_) (fun c_4 => ?_)
  · have c_4 : im = false := (bI_eq0 _).mp c_4
    refine lv_iconst (v := 0) hx hb dX3_isEmpty_23 (by decide) ?_
    exact ct_endi hx hb hr hlocks rfl hP hD hS rfl (by simp [bI, c_4]) dX3_isEmpty_24
  · have c_4 : im = true := (bI_ne0 _).mp c_4
    refine lv_aload_n hx hb dX3_isEmpty_7 rfl (lv_at hl 0 rfl) ?_
    refine va_get (D := D) (ci := 3) (v := .ref (h 6)) (C := RX3) (T := TX3) (N := 18) hx hb hts (fun w h => lw_in w (inX3 w h)) hown hK hP 0 rfl rfl 7 (by decide) (hts _ (lw_in _ t_295)) (fun _ h9 => h9) rfl dX3_isEmpty_8 ?_
    refine lv_aload_n hx hb dX3_isEmpty_11 rfl (lv_at hl 0 rfl) ?_
    refine va_get (D := D) (ci := 3) (v := .int (nI ro)) (C := RX3) (T := TX3) (N := 18) hx hb hts (fun w h => lw_in w (inX3 w h)) hown hK hP 0 rfl rfl 15 (by decide) (hts _ (lw_in _ t_303)) (fun _ h9 => h9) rfl dX3_isEmpty_12 ?_
    refine wx_zald hx hb hK hP 6 5 rfl rfl (i := ro) (by have := hro c_4; omega) (by decide) dX3_isEmpty_15 ?_
    refine lv_if_eq (tgt := 23) hx hb dX3_isEmpty_16 (by decide) (fun c_16 => ?_) (fun c_16 => ?_)
    · have c_16 : (mi ro) = false := (bI_eq0 _).mp c_16
      refine lv_iconst (v := 0) hx hb dX3_isEmpty_23 (by decide) ?_
      exact ct_endi hx hb hr hlocks rfl hP hD hS rfl (by simp [bI, c_4, c_16]) dX3_isEmpty_24
    · have c_16 : (mi ro) = true := (bI_ne0 _).mp c_16
      refine lv_iconst (v := 1) hx hb dX3_isEmpty_19 (by decide) ?_
      refine lv_goto (tgt := 24) hx hb dX3_isEmpty_20 (by decide) ?_
      exact ct_endi hx hb hr hlocks rfl hP hD hS rfl (by simp [bI, c_4, c_16]) dX3_isEmpty_24

set_option maxHeartbeats 4000000 in
set_option maxRecDepth 100000 in
theorem k_E_name (l : Launch) (D : va_G) (h : Nat → Nat) (k : Nat → ClassId) (tx : Nat → Int32) (sz : Nat) (im : Bool) (cm : Nat) (nw : Int64) (nd : Nat) (kd : Nat → Int32) (pa : Nat → Option Nat) (be : Nat → Option Nat) (af : Nat → Option Nat) (mi : Nat → Bool) (np : Nat) (lf : Nat → Nat) (nm : Nat → Int32) (dp : Nat) (la : Nat → Option Nat) (so : Nat → Int32) (ro : Nat) (x : Int32)  (hnp : np ≤ 60) :
    Ct l yX3_name wsX3_name (rmN 0) D vwCl (tyM k) [.ref (h 0), .int x] (wM h k tx sz im cm nw (nd, kd, pa, be, af, mi, np, lf, nm, dp, la, so, ro)) (wM h k tx sz im cm nw (nd, kd, pa, be, af, mi, np, lf, nm, dp, la, so, ro)) (some (.int (d_name nm np x))) := by
  refine Ct.of (cc := cX3_name) (maxL := 2) (ret := (some .int)) (lv := [(0, .ref (h 0)), (1, .int x)]) (by decide) rfl (Nat.le_of_ble_eq_true rfl) rfl ?_
  intro p e s m below meth c A ls hx hb hr hml hts hown hlocks hK hP hD hS hA hl
  refine lv_iload_n hx hb dX3_name_0 rfl (lv_at hl 1 rfl) ?_
  refine lv_if_lt (tgt := 21) hx hb dX3_name_1 (by decide) (fun c_1 => ?_) (fun c_1 => ?_)
  · have c_1 : x < 0 := c_1
    refine lv_iconst (v := -1) hx hb dX3_name_21 (by decide) ?_
    exact ct_endi hx hb hr hlocks rfl hP hD hS rfl (by simp [d_name, m_has, c_1]) dX3_name_22
  · have c_1 : ¬ x < 0 := c_1
    refine lv_iload_n hx hb dX3_name_4 rfl (lv_at hl 1 rfl) ?_
    refine lv_aload_n hx hb dX3_name_5 rfl (lv_at hl 0 rfl) ?_
    refine va_get (D := D) (ci := 3) (v := .int (nI np)) (C := RX3) (T := TX3) (N := 18) hx hb hts (fun w h => lw_in w (inX3 w h)) hown hK hP 0 rfl rfl 8 (by decide) (hts _ (lw_in _ t_296)) (fun _ h9 => h9) rfl dX3_name_6 ?_
    refine lv_icmp_ge (tgt := 21) hx hb dX3_name_9 (by decide) (fun c_9 => ?_) (fun c_9 => ?_)
    · have c_9 : nI np ≤ x := c_9
      refine lv_iconst (v := -1) hx hb dX3_name_21 (by decide) ?_
      exact ct_endi hx hb hr hlocks rfl hP hD hS rfl (by simp [d_name, m_has, c_1, c_9]) dX3_name_22
    · have c_9 : ¬ nI np ≤ x := c_9
      obtain ⟨j, hj, rfl⟩ : ∃ j, j < np ∧ x = nI j := p_ix (by omega) c_1 (Int32.not_le.mp c_9)
      refine lv_aload_n hx hb dX3_name_12 rfl (lv_at hl 0 rfl) ?_
      refine va_get (D := D) (ci := 3) (v := .ref (h 8)) (C := RX3) (T := TX3) (N := 18) hx hb hts (fun w h => lw_in w (inX3 w h)) hown hK hP 0 rfl rfl 10 (by decide) (hts _ (lw_in _ t_298)) (fun _ h9 => h9) rfl dX3_name_13 ?_
      refine lv_iload_n hx hb dX3_name_16 rfl (lv_at hl 1 rfl) ?_
      refine wx_iald hx hb hK hP 8 7 rfl rfl (i := j) (by omega) (by decide) dX3_name_17 ?_
      refine lv_goto (tgt := 22) hx hb dX3_name_18 (by decide) ?_
      exact ct_endi hx hb hr hlocks rfl hP hD hS rfl (by rw [d_name, m_has, if_neg c_1, if_neg c_9, if_pos rfl, nI_clamp (by omega)]) dX3_name_22

set_option maxHeartbeats 4000000 in
set_option maxRecDepth 100000 in
theorem k_E_able (l : Launch) (D : va_G) (h : Nat → Nat) (k : Nat → ClassId) (tx : Nat → Int32) (sz : Nat) (im : Bool) (cm : Nat) (nw : Int64) (nd : Nat) (kd : Nat → Int32) (pa : Nat → Option Nat) (be : Nat → Option Nat) (af : Nat → Option Nat) (mi : Nat → Bool) (np : Nat) (lf : Nat → Nat) (nm : Nat → Int32) (dp : Nat) (la : Nat → Option Nat) (so : Nat → Int32) (ro : Nat) (a : Int64) (nb : Nat) (ok : okT nb pa be af np lf) (hro : im = true → ro < nb) (hcm : cm ≤ 600) :
    Ct l yX3_able wsX3_able (rmN 3) D vwCl (tyM k) [.ref (h 0), .long a] (wM h k tx sz im cm nw (nd, kd, pa, be, af, mi, np, lf, nm, dp, la, so, ro)) (wM h k tx sz im cm nw (nd, kd, pa, be, af, mi, np, lf, nm, dp, la, so, ro)) (some (.long (if cm = 0 then e_first kd pa be mi np lf im ro else abL a (fun q => e_next kd pa be af mi np lf (nI q)) np 0 0))) := by
  refine Ct.of (cc := cX3_able) (maxL := 6) (ret := (some .long)) (lv := [(0, .ref (h 0)), (1, .long a)]) (by decide) rfl (Nat.le_of_ble_eq_true rfl) rfl ?_
  intro p e s m below meth c A ls hx hb hr hml hts hown hlocks hK hP hD hS hA hl
  have ok0 := ok
  obtain ⟨hnb, hnp, okP, okB, okA, okL⟩ := ok
  refine lv_aload_n hx hb dX3_able_0 rfl (lv_at hl 0 rfl) ?_
  refine va_get (D := D) (ci := 3) (v := .int (nI cm)) (C := RX3) (T := TX3) (N := 18) hx hb hts (fun w h => lw_in w (inX3 w h)) hown hK hP 0 rfl rfl 16 (by decide) (hts _ (lw_in _ t_304)) (fun _ h9 => h9) rfl dX3_able_1 ?_
  refine lv_if_ne (tgt := 12) hx hb dX3_able_4 (by decide) (fun c_4 => ?_) (fun c_4 => ?_)
  · have c_4 : ¬ cm = 0 := id (fun z => c_4 ((nI_eq (a := cm) (b := 0) (by omega) (by omega)).mpr z))
    refine lv_lconst (v := 0) hx hb dX3_able_12 (by decide) ?_
    refine lv_lstore_n (lv' := [(3, .long 0), (0, .ref (h 0)), (1, .long a)]) hx hb dX3_able_13 rfl hl (by decide) rfl (fun ls hl => ?_)
    refine lv_iconst (v := 0) hx hb dX3_able_14 (by decide) ?_
    refine lv_istore (lv' := [(5, .int 0), (3, .long 0), (0, .ref (h 0)), (1, .long a)]) hx hb dX3_able_15 hl (by decide) rfl (fun ls hl => ?_)
    have loop : ∀ (n : Nat) (i : Nat) (r : Int64), (i + n = np) → (abL a (fun q => e_next kd pa be af mi np lf (nI q)) n i r = abL a (fun q => e_next kd pa be af mi np lf (nI q)) np 0 0) → ∀ (H : Heap) (locs : List Loc), va_P D vwCl (wM h k tx sz im cm nw (nd, kd, pa, be, af, mi, np, lf, nm, dp, la, so, ro)) H → va_D A (wM h k tx sz im cm nw (nd, kd, pa, be, af, mi, np, lf, nm, dp, la, so, ro)) → va_S A s.heap H locs → ∀ ls : Array Slot, lv_has ls 6 [(5, .int (nI i)), (3, .long r), (0, .ref (h 0)), (1, .long a)] →
        W p l e (rmN 3) s m ([.ref (h 0), .long a] : List Value).toArray below meth c H locs 0 0 (MQ below (CtQ D vwCl A (wM h k tx sz im cm nw (nd, kd, pa, be, af, mi, np, lf, nm, dp, la, so, ro)) (some (.long (if cm = 0 then e_first kd pa be mi np lf im ro else abL a (fun q => e_next kd pa be af mi np lf (nI q)) np 0 0)))) ([.ref (h 0), .long a] : List Value).toArray s 0 0 A) (F0 m 17 ls []) := by
      intro n
      induction n with
      | zero =>
        intro i r hi he H locs hP hD hS ls hl
        refine lv_iload hx hb dX3_able_17 (lv_at hl 0 rfl) ?_
        refine lv_aload_n hx hb dX3_able_19 rfl (lv_at hl 2 rfl) ?_
        refine va_get (D := D) (ci := 3) (v := .int (nI np)) (C := RX3) (T := TX3) (N := 18) hx hb hts (fun w h => lw_in w (inX3 w h)) hown hK hP 0 rfl rfl 8 (by decide) (hts _ (lw_in _ t_296)) (fun _ h9 => h9) rfl dX3_able_20 ?_
        refine lv_icmp_ge (tgt := 56) hx hb dX3_able_23 (by decide) (fun c_23 => ?_) (fun c_23 => ?_)
        · have c_23 : np ≤ i := (nI_leI (a := np) (b := i) (by omega) (by omega)).mp c_23
          refine lv_lload_n hx hb dX3_able_56 rfl (lv_at hl 1 rfl) ?_
          exact ct_endl hx hb hr hlocks hP hD hS rfl (by rw [if_neg c_4, ← he]; rfl) dX3_able_57
        · have c_23 : i < np := Nat.lt_of_not_le (fun z => c_23 ((nI_leI (a := np) (b := i) (by omega) (by omega)).mpr z))
          exact absurd c_23 (by omega)
      | succ n ih =>
        intro i r hi he H locs hP hD hS ls hl
        refine lv_iload hx hb dX3_able_17 (lv_at hl 0 rfl) ?_
        refine lv_aload_n hx hb dX3_able_19 rfl (lv_at hl 2 rfl) ?_
        refine va_get (D := D) (ci := 3) (v := .int (nI np)) (C := RX3) (T := TX3) (N := 18) hx hb hts (fun w h => lw_in w (inX3 w h)) hown hK hP 0 rfl rfl 8 (by decide) (hts _ (lw_in _ t_296)) (fun _ h9 => h9) rfl dX3_able_20 ?_
        refine lv_icmp_ge (tgt := 56) hx hb dX3_able_23 (by decide) (fun c_23 => ?_) (fun c_23 => ?_)
        · have c_23 : np ≤ i := (nI_leI (a := np) (b := i) (by omega) (by omega)).mp c_23
          exact absurd c_23 (by omega)
        · have c_23 : i < np := Nat.lt_of_not_le (fun z => c_23 ((nI_leI (a := np) (b := i) (by omega) (by omega)).mpr z))
          refine lv_lload_n hx hb dX3_able_26 rfl (lv_at hl 1 rfl) ?_
          refine lv_lload_n hx hb dX3_able_27 rfl (lv_at hl 3 rfl) ?_
          refine lv_iload hx hb dX3_able_28 (lv_at hl 0 rfl) ?_
          refine lv_lshr (v := ((a : Int64) >>> ((nI i).toInt64 &&& 63))) hx hb dX3_able_30 rfl ?_
          refine lv_lconst (v := 1) hx hb dX3_able_31 (by decide) ?_
          refine lv_land hx hb dX3_able_32 ?_
          refine lv_lconst (v := 1) hx hb dX3_able_33 (by decide) ?_
          refine W.lcmp hx hb dX3_able_34 ?_
          refine lv_if_ne (tgt := 47) hx hb dX3_able_35 (by decide) (fun c_35 => ?_) (fun c_35 => ?_)
          · have c_35 : ¬ (((a : Int64) >>> ((nI i).toInt64 &&& 63)) &&& 1) = 1 := fun z => c_35 ((lg_cmp_eq _ _).mpr z)
            have c_35 : hB a i = false := hB_nr (by omega) c_35
            refine lv_lconst (v := 0) hx hb dX3_able_47 (by decide) ?_
            refine lv_lor hx hb dX3_able_48 ?_
            refine lv_lstore_n (lv' := [(3, .long (r ||| 0)), (5, .int (nI i)), (0, .ref (h 0)), (1, .long a)]) hx hb dX3_able_49 rfl hl (by decide) rfl (fun ls hl => ?_)
            refine lv_iinc (v := nI (i + 1)) (lv' := [(5, .int (nI (i + 1))), (3, .long (r ||| 0)), (0, .ref (h 0)), (1, .long a)]) hx hb dX3_able_50 hl (k := 1) rfl (nI_1 _) (by decide) rfl (fun ls hl => ?_)
            refine lv_goto (tgt := 17) hx hb dX3_able_53 (by decide) ?_
            exact ih (i + 1) (r ||| 0) (by omega) (by rw [← he, abL, if_neg (bF c_35)]) _ _ hP hD hS _ (lv_sub hl [0, 1, 2, 3] rfl)
          · have c_35 : (((a : Int64) >>> ((nI i).toInt64 &&& 63)) &&& 1) = 1 := (lg_cmp_eq _ _).mp c_35
            have c_35 : hB a i = true := (hB_sr a (by omega)).mp c_35
            refine lv_aload_n hx hb dX3_able_38 rfl (lv_at hl 2 rfl) ?_
            refine lv_iload hx hb dX3_able_39 (lv_at hl 0 rfl) ?_
            refine ct_callV (As := [.int (nI i)]) (rest := [.long r]) ⟨hx, hb, hml, hown, hts⟩ (k_E_next l D h k tx sz im cm nw nd kd pa be af mi np lf nm dp la so ro (nI i) nb ok0) (cwV 1 hts (gV lw_in t_416 t_396 t_397 t_26 t_398) rfl rfl rfl (by decide +kernel) ⟨Nat.le_of_ble_eq_true rfl, Nat.le_of_ble_eq_true rfl⟩) 0 rfl rfl hK hP hD hS hA rfl hl.1 rfl (Nat.le_of_ble_eq_true rfl) dX3_able_41 ⟨Nat.zero_le _, Nat.zero_le _⟩ (fun H locs hP hD hS => ?_)
            refine W.eq (g2 := F0 m 44 ls [.long (e_next kd pa be af mi np lf (nI i)), .long r]) rfl ?_
            refine lv_goto (tgt := 48) hx hb dX3_able_44 (by decide) ?_
            refine lv_lor hx hb dX3_able_48 ?_
            refine lv_lstore_n (lv' := [(3, .long (r ||| (e_next kd pa be af mi np lf (nI i)))), (5, .int (nI i)), (0, .ref (h 0)), (1, .long a)]) hx hb dX3_able_49 rfl hl (by decide) rfl (fun ls hl => ?_)
            refine lv_iinc (v := nI (i + 1)) (lv' := [(5, .int (nI (i + 1))), (3, .long (r ||| (e_next kd pa be af mi np lf (nI i)))), (0, .ref (h 0)), (1, .long a)]) hx hb dX3_able_50 hl (k := 1) rfl (nI_1 _) (by decide) rfl (fun ls hl => ?_)
            refine lv_goto (tgt := 17) hx hb dX3_able_53 (by decide) ?_
            exact ih (i + 1) (r ||| (e_next kd pa be af mi np lf (nI i))) (by omega) (by rw [← he, abL, if_pos c_35]) _ _ hP hD hS _ (lv_sub hl [0, 1, 2, 3] rfl)
    exact loop np 0 0 (by omega) rfl _ _ hP hD hS _ (lv_sub hl [0, 1, 2, 3] rfl)
  · have c_4 : cm = 0 := (nI_eq (a := cm) (b := 0) (by omega) (by omega)).mp c_4
    refine lv_aload_n hx hb dX3_able_7 rfl (lv_at hl 0 rfl) ?_
    refine ct_callV (As := []) (rest := []) ⟨hx, hb, hml, hown, hts⟩ (k_E_first l D h k tx sz im cm nw nd kd pa be af mi np lf nm dp la so ro  nb ok0 hro) (cwV 0 hts (gV lw_in t_411 t_384 t_385 t_26 t_386) rfl rfl rfl (by decide +kernel) ⟨Nat.le_of_ble_eq_true rfl, Nat.le_of_ble_eq_true rfl⟩) 0 rfl rfl hK hP hD hS hA rfl hl.1 rfl (Nat.le_of_ble_eq_true rfl) dX3_able_8 ⟨Nat.zero_le _, Nat.zero_le _⟩ (fun H locs hP hD hS => ?_)
    refine W.eq (g2 := F0 m 11 ls [.long (e_first kd pa be mi np lf im ro)]) rfl ?_
    exact ct_endl hx hb hr hlocks hP hD hS rfl (by rw [if_pos c_4]) dX3_able_11

set_option maxHeartbeats 4000000 in
set_option maxRecDepth 100000 in
theorem k_E_come (l : Launch) (D : va_G) (h : Nat → Nat) (k : Nat → ClassId) (tx : Nat → Int32) (sz : Nat) (im : Bool) (cm : Nat) (nw : Int64) (nd : Nat) (kd : Nat → Int32) (pa : Nat → Option Nat) (be : Nat → Option Nat) (af : Nat → Option Nat) (mi : Nat → Bool) (np : Nat) (lf : Nat → Nat) (nm : Nat → Int32) (dp : Nat) (la : Nat → Option Nat) (so : Nat → Int32) (ro : Nat) (x : Int32) (nb : Nat) (ok : okT nb pa be af np lf) (hro : im = true → ro < nb) (hcm : cm ≤ 600) :
    Ct l yX3_come wsX3_come (rmN 4) D vwCl (tyM k) [.ref (h 0), .int x] (wM h k tx sz im cm nw (nd, kd, pa, be, af, mi, np, lf, nm, dp, la, so, ro)) (wM h k tx sz im (if wiL (if cm = 0 then e_first kd pa be mi np lf im ro else abL nw (fun q => e_next kd pa be af mi np lf (nI q)) np 0 0) x nm np 0 0 = 0 then cm else cm + 1) (if wiL (if cm = 0 then e_first kd pa be mi np lf im ro else abL nw (fun q => e_next kd pa be af mi np lf (nI q)) np 0 0) x nm np 0 0 = 0 then nw else wiL (if cm = 0 then e_first kd pa be mi np lf im ro else abL nw (fun q => e_next kd pa be af mi np lf (nI q)) np 0 0) x nm np 0 0) (nd, kd, pa, be, af, mi, np, lf, nm, dp, la, so, ro)) (some (.int (bI (decide (¬ wiL (if cm = 0 then e_first kd pa be mi np lf im ro else abL nw (fun q => e_next kd pa be af mi np lf (nI q)) np 0 0) x nm np 0 0 = 0))))) := by
  refine Ct.of (cc := cX3_come) (maxL := 7) (ret := (some .boolean)) (lv := [(0, .ref (h 0)), (1, .int x)]) (by decide) rfl (Nat.le_of_ble_eq_true rfl) rfl ?_
  intro p e s m below meth c A ls hx hb hr hml hts hown hlocks hK hP hD hS hA hl
  have ok0 := ok
  obtain ⟨hnb, hnp, okP, okB, okA, okL⟩ := ok
  refine lv_aload_n hx hb dX3_come_0 rfl (lv_at hl 0 rfl) ?_
  refine lv_aload_n hx hb dX3_come_1 rfl (lv_at hl 0 rfl) ?_
  refine va_get (D := D) (ci := 3) (v := .long nw) (C := RX3) (T := TX3) (N := 18) hx hb hts (fun w h => lw_in w (inX3 w h)) hown hK hP 0 rfl rfl 17 (by decide) (hts _ (lw_in _ t_305)) (fun _ h9 => h9) rfl dX3_come_2 ?_
  refine ct_callV (As := [.long nw]) (rest := []) ⟨hx, hb, hml, hown, hts⟩ (k_E_able l D h k tx sz im cm nw nd kd pa be af mi np lf nm dp la so ro nw nb ok0 hro hcm) (cwV 1 hts (gV lw_in t_434 t_436 t_21 t_26 t_437) rfl rfl rfl (by decide +kernel) ⟨Nat.le_of_ble_eq_true rfl, Nat.le_of_ble_eq_true rfl⟩) 0 rfl rfl hK hP hD hS hA rfl hl.1 rfl (Nat.le_of_ble_eq_true rfl) dX3_come_5 ⟨Nat.zero_le _, Nat.zero_le _⟩ (fun H locs hP hD hS => ?_)
  refine W.eq (g2 := F0 m 8 ls [.long (if cm = 0 then e_first kd pa be mi np lf im ro else abL nw (fun q => e_next kd pa be af mi np lf (nI q)) np 0 0)]) rfl ?_
  refine lv_topl (fun b9 e_b => ?_)
  refine lv_lstore_n (lv' := [(2, .long b9), (0, .ref (h 0)), (1, .int x)]) hx hb dX3_come_8 rfl hl (by decide) rfl (fun ls hl => ?_)
  refine lv_lconst (v := 0) hx hb dX3_come_9 (by decide) ?_
  refine lv_lstore (lv' := [(4, .long 0), (2, .long b9), (0, .ref (h 0)), (1, .int x)]) hx hb dX3_come_10 hl (by decide) rfl (fun ls hl => ?_)
  refine lv_iconst (v := 0) hx hb dX3_come_12 (by decide) ?_
  refine lv_istore (lv' := [(6, .int 0), (4, .long 0), (2, .long b9), (0, .ref (h 0)), (1, .int x)]) hx hb dX3_come_13 hl (by decide) rfl (fun ls hl => ?_)
  have loop : ∀ (n : Nat) (i : Nat) (r : Int64), (i + n = np) → (wiL b9 x nm n i r = wiL b9 x nm np 0 0) → ∀ (H : Heap) (locs : List Loc), va_P D vwCl (wM h k tx sz im cm nw (nd, kd, pa, be, af, mi, np, lf, nm, dp, la, so, ro)) H → va_D A (wM h k tx sz im cm nw (nd, kd, pa, be, af, mi, np, lf, nm, dp, la, so, ro)) → va_S A s.heap H locs → ∀ ls : Array Slot, lv_has ls 7 [(6, .int (nI i)), (4, .long r), (2, .long b9), (0, .ref (h 0)), (1, .int x)] →
      W p l e (rmN 4) s m ([.ref (h 0), .int x] : List Value).toArray below meth c H locs 0 0 (MQ below (CtQ D vwCl A (wM h k tx sz im (if wiL (if cm = 0 then e_first kd pa be mi np lf im ro else abL nw (fun q => e_next kd pa be af mi np lf (nI q)) np 0 0) x nm np 0 0 = 0 then cm else cm + 1) (if wiL (if cm = 0 then e_first kd pa be mi np lf im ro else abL nw (fun q => e_next kd pa be af mi np lf (nI q)) np 0 0) x nm np 0 0 = 0 then nw else wiL (if cm = 0 then e_first kd pa be mi np lf im ro else abL nw (fun q => e_next kd pa be af mi np lf (nI q)) np 0 0) x nm np 0 0) (nd, kd, pa, be, af, mi, np, lf, nm, dp, la, so, ro)) (some (.int (bI (decide (¬ wiL (if cm = 0 then e_first kd pa be mi np lf im ro else abL nw (fun q => e_next kd pa be af mi np lf (nI q)) np 0 0) x nm np 0 0 = 0)))))) ([.ref (h 0), .int x] : List Value).toArray s 0 0 A) (F0 m 15 ls []) := by
    intro n
    induction n with
    | zero =>
      intro i r hi he H locs hP hD hS ls hl
      refine lv_iload hx hb dX3_come_15 (lv_at hl 0 rfl) ?_
      refine lv_aload_n hx hb dX3_come_17 rfl (lv_at hl 3 rfl) ?_
      refine va_get (D := D) (ci := 3) (v := .int (nI np)) (C := RX3) (T := TX3) (N := 18) hx hb hts (fun w h => lw_in w (inX3 w h)) hown hK hP 0 rfl rfl 8 (by decide) (hts _ (lw_in _ t_296)) (fun _ h9 => h9) rfl dX3_come_18 ?_
      refine lv_icmp_ge (tgt := 56) hx hb dX3_come_21 (by decide) (fun c_21 => ?_) (fun c_21 => ?_)
      · have c_21 : np ≤ i := (nI_leI (a := np) (b := i) (by omega) (by omega)).mp c_21
        have e_r : r = wiL (if cm = 0 then e_first kd pa be mi np lf im ro else abL nw (fun q => e_next kd pa be af mi np lf (nI q)) np 0 0) x nm np 0 0 := by rw [← e_b]; exact he
        refine lv_lload hx hb dX3_come_56 (lv_at hl 1 rfl) ?_
        refine lv_lconst (v := 0) hx hb dX3_come_58 (by decide) ?_
        refine W.lcmp hx hb dX3_come_59 ?_
        refine lv_if_ne (tgt := 65) hx hb dX3_come_60 (by decide) (fun c_60 => ?_) (fun c_60 => ?_)
        · have c_60 : ¬ r = 0 := fun z => c_60 ((lg_cmp_eq _ _).mpr z)
          refine lv_aload_n hx hb dX3_come_65 rfl (lv_at hl 3 rfl) ?_
          refine lv_lload hx hb dX3_come_66 (lv_at hl 1 rfl) ?_
          refine va_put (D := D) (ci := 3) (v := .long r) (ty := .long) (C := RX3) (T := TX3) (N := 18) hx hb hts (fun w h => lw_in w (inX3 w h)) tyX3 tyX3_ok nmX3 hown hK hP hD hS 0 rfl rfl 17 (by decide) (hts _ (lw_in _ t_305)) (fun _ h9 => h9) rfl (by decide +kernel) rfl rfl (Nat.le_of_ble_eq_true rfl) dX3_come_68 (fun H locs hP hD hS => ?_)
          have hP : va_P D vwCl (wM h k tx sz im cm r (nd, kd, pa, be, af, mi, np, lf, nm, dp, la, so, ro)) H := hP
          have hD : va_D A (wM h k tx sz im cm r (nd, kd, pa, be, af, mi, np, lf, nm, dp, la, so, ro)) := hD
          refine lv_aload_n hx hb dX3_come_71 rfl (lv_at hl 3 rfl) ?_
          refine lv_aload_n hx hb dX3_come_72 rfl (lv_at hl 3 rfl) ?_
          refine va_get (D := D) (ci := 3) (v := .int (nI cm)) (C := RX3) (T := TX3) (N := 18) hx hb hts (fun w h => lw_in w (inX3 w h)) hown hK hP 0 rfl rfl 16 (by decide) (hts _ (lw_in _ t_304)) (fun _ h9 => h9) rfl dX3_come_73 ?_
          refine lv_iconst (v := 1) hx hb dX3_come_76 (by decide) ?_
          refine lv_iadd hx hb dX3_come_77 ?_
          refine lv_eqi (show (nI cm + 1) = nI (cm + 1) from nI_1 _) ?_
          refine va_put (D := D) (ci := 3) (v := .int (nI (cm + 1))) (ty := .int) (C := RX3) (T := TX3) (N := 18) hx hb hts (fun w h => lw_in w (inX3 w h)) tyX3 tyX3_ok nmX3 hown hK hP hD hS 0 rfl rfl 16 (by decide) (hts _ (lw_in _ t_304)) (fun _ h9 => h9) rfl (by decide +kernel) rfl rfl (Nat.le_of_ble_eq_true rfl) dX3_come_78 (fun H locs hP hD hS => ?_)
          have hP : va_P D vwCl (wM h k tx sz im (cm + 1) r (nd, kd, pa, be, af, mi, np, lf, nm, dp, la, so, ro)) H := hP
          have hD : va_D A (wM h k tx sz im (cm + 1) r (nd, kd, pa, be, af, mi, np, lf, nm, dp, la, so, ro)) := hD
          refine lv_iconst (v := 1) hx hb dX3_come_81 (by decide) ?_
          exact ct_endi hx hb hr hlocks rfl hP hD hS (by rw [← e_r]; simp [c_60]) (by rw [← e_r]; simp [bI, c_60]) dX3_come_82
        · have c_60 : r = 0 := (lg_cmp_eq _ _).mp c_60
          refine lv_iconst (v := 0) hx hb dX3_come_63 (by decide) ?_
          exact ct_endi hx hb hr hlocks rfl hP hD hS (by rw [← e_r]; simp [c_60]) (by rw [← e_r]; simp [bI, c_60]) dX3_come_64
      · have c_21 : i < np := Nat.lt_of_not_le (fun z => c_21 ((nI_leI (a := np) (b := i) (by omega) (by omega)).mpr z))
        exact absurd c_21 (by omega)
    | succ n ih =>
      intro i r hi he H locs hP hD hS ls hl
      refine lv_iload hx hb dX3_come_15 (lv_at hl 0 rfl) ?_
      refine lv_aload_n hx hb dX3_come_17 rfl (lv_at hl 3 rfl) ?_
      refine va_get (D := D) (ci := 3) (v := .int (nI np)) (C := RX3) (T := TX3) (N := 18) hx hb hts (fun w h => lw_in w (inX3 w h)) hown hK hP 0 rfl rfl 8 (by decide) (hts _ (lw_in _ t_296)) (fun _ h9 => h9) rfl dX3_come_18 ?_
      refine lv_icmp_ge (tgt := 56) hx hb dX3_come_21 (by decide) (fun c_21 => ?_) (fun c_21 => ?_)
      · have c_21 : np ≤ i := (nI_leI (a := np) (b := i) (by omega) (by omega)).mp c_21
        exact absurd c_21 (by omega)
      · have c_21 : i < np := Nat.lt_of_not_le (fun z => c_21 ((nI_leI (a := np) (b := i) (by omega) (by omega)).mpr z))
        refine lv_lload hx hb dX3_come_24 (lv_at hl 1 rfl) ?_
        refine lv_aload_n hx hb dX3_come_26 rfl (lv_at hl 3 rfl) ?_
        refine va_get (D := D) (ci := 3) (v := .ref (h 8)) (C := RX3) (T := TX3) (N := 18) hx hb hts (fun w h => lw_in w (inX3 w h)) hown hK hP 0 rfl rfl 10 (by decide) (hts _ (lw_in _ t_298)) (fun _ h9 => h9) rfl dX3_come_27 ?_
        refine lv_iload hx hb dX3_come_30 (lv_at hl 0 rfl) ?_
        refine wx_iald hx hb hK hP 8 7 rfl rfl (i := i) (by omega) (by decide) dX3_come_32 ?_
        refine lv_iload_n hx hb dX3_come_33 rfl (lv_at hl 4 rfl) ?_
        refine lv_icmp_ne (tgt := 46) hx hb dX3_come_34 (by decide) (fun c_34 => ?_) (fun c_34 => ?_)
        · have c_34 : ¬ (nm i) = x := c_34
          refine lv_lconst (v := 0) hx hb dX3_come_46 (by decide) ?_
          refine lv_lor hx hb dX3_come_47 ?_
          refine lv_lstore (lv' := [(4, .long (r ||| 0)), (6, .int (nI i)), (2, .long b9), (0, .ref (h 0)), (1, .int x)]) hx hb dX3_come_48 hl (by decide) rfl (fun ls hl => ?_)
          refine lv_iinc (v := nI (i + 1)) (lv' := [(6, .int (nI (i + 1))), (4, .long (r ||| 0)), (2, .long b9), (0, .ref (h 0)), (1, .int x)]) hx hb dX3_come_50 hl (k := 1) rfl (nI_1 _) (by decide) rfl (fun ls hl => ?_)
          refine lv_goto (tgt := 15) hx hb dX3_come_53 (by decide) ?_
          exact ih (i + 1) (r ||| 0) (by omega) (by rw [← he, wiL, if_neg c_34]) _ _ hP hD hS _ (lv_sub hl [0, 1, 2, 3, 4] rfl)
        · have c_34 : (nm i) = x := c_34
          refine lv_lload_n hx hb dX3_come_37 rfl (lv_at hl 2 rfl) ?_
          refine lv_lconst (v := 1) hx hb dX3_come_38 (by decide) ?_
          refine lv_iload hx hb dX3_come_39 (lv_at hl 0 rfl) ?_
          refine lv_lshl (v := ((1 : Int64) <<< ((nI i).toInt64 &&& 63))) hx hb dX3_come_41 rfl ?_
          refine lv_land hx hb dX3_come_42 ?_
          refine lv_goto (tgt := 47) hx hb dX3_come_43 (by decide) ?_
          refine lv_lor hx hb dX3_come_47 ?_
          refine lv_lstore (lv' := [(4, .long (r ||| (b9 &&& ((1 : Int64) <<< ((nI i).toInt64 &&& 63))))), (6, .int (nI i)), (2, .long b9), (0, .ref (h 0)), (1, .int x)]) hx hb dX3_come_48 hl (by decide) rfl (fun ls hl => ?_)
          refine lv_iinc (v := nI (i + 1)) (lv' := [(6, .int (nI (i + 1))), (4, .long (r ||| (b9 &&& ((1 : Int64) <<< ((nI i).toInt64 &&& 63))))), (2, .long b9), (0, .ref (h 0)), (1, .int x)]) hx hb dX3_come_50 hl (k := 1) rfl (nI_1 _) (by decide) rfl (fun ls hl => ?_)
          refine lv_goto (tgt := 15) hx hb dX3_come_53 (by decide) ?_
          exact ih (i + 1) (r ||| (b9 &&& ((1 : Int64) <<< ((nI i).toInt64 &&& 63)))) (by omega) (by rw [← he, wiL, if_pos c_34]) _ _ hP hD hS _ (lv_sub hl [0, 1, 2, 3, 4] rfl)
  exact loop np 0 0 (by omega) rfl _ _ hP hD hS _ (lv_sub hl [0, 1, 2, 3, 4] rfl)

set_option maxHeartbeats 4000000 in
set_option maxRecDepth 100000 in
theorem k_E_isWhole (l : Launch) (D : va_G) (h : Nat → Nat) (k : Nat → ClassId) (tx : Nat → Int32) (sz : Nat) (im : Bool) (cm : Nat) (nw : Int64) (nd : Nat) (kd : Nat → Int32) (pa : Nat → Option Nat) (be : Nat → Option Nat) (af : Nat → Option Nat) (mi : Nat → Bool) (np : Nat) (lf : Nat → Nat) (nm : Nat → Int32) (dp : Nat) (la : Nat → Option Nat) (so : Nat → Int32) (ro : Nat)  (nb : Nat) (ok : okT nb pa be af np lf) (hro : im = true → ro < nb) (hcm : cm ≤ 600) :
    Ct l yX3_isWhole wsX3_isWhole (rmN 2) D vwCl (tyM k) [.ref (h 0)] (wM h k tx sz im cm nw (nd, kd, pa, be, af, mi, np, lf, nm, dp, la, so, ro)) (wM h k tx sz im cm nw (nd, kd, pa, be, af, mi, np, lf, nm, dp, la, so, ro)) (some (.int (bI (im && (if cm = 0 then mi ro else decide (¬ (nw &&& laL kd pa af mi lf np 0 0) = 0)))))) := by
  refine Ct.of (cc := cX3_isWhole) (maxL := 1) (ret := (some .boolean)) (lv := [(0, .ref (h 0))]) (by decide) rfl (Nat.le_of_ble_eq_true rfl) rfl ?_
  intro p e s m below meth c A ls hx hb hr hml hts hown hlocks hK hP hD hS hA hl
  have ok0 := ok
  obtain ⟨hnb, hnp, okP, okB, okA, okL⟩ := ok
  refine lv_aload_n hx hb dX3_isWhole_0 rfl (lv_at hl 0 rfl) ?_
  refine va_get (D := D) (ci := 3) (v := .int (bI im)) (C := RX3) (T := TX3) (N := 18) hx hb hts (fun w h => lw_in w (inX3 w h)) hown hK hP 0 rfl rfl 11 (by decide) (hts _ (lw_in _ t_299)) (fun _ h9 => h9) rfl dX3_isWhole_1 ?_
  refine lv_if_eq (tgt := 47) hx hb dX3_isWhole_4 (by decide) (fun c_4 => ?_) (fun c_4 => ?_)
  · have c_4 : im = false := (bI_eq0 _).mp c_4
    refine lv_iconst (v := 0) hx hb dX3_isWhole_47 (by decide) ?_
    exact ct_endi hx hb hr hlocks rfl hP hD hS rfl (by simp [bI, c_4]) dX3_isWhole_48
  · have c_4 : im = true := (bI_ne0 _).mp c_4
    refine lv_aload_n hx hb dX3_isWhole_7 rfl (lv_at hl 0 rfl) ?_
    refine va_get (D := D) (ci := 3) (v := .int (nI cm)) (C := RX3) (T := TX3) (N := 18) hx hb hts (fun w h => lw_in w (inX3 w h)) hown hK hP 0 rfl rfl 16 (by decide) (hts _ (lw_in _ t_304)) (fun _ h9 => h9) rfl dX3_isWhole_8 ?_
    refine lv_if_ne (tgt := 29) hx hb dX3_isWhole_11 (by decide) (fun c_11 => ?_) (fun c_11 => ?_)
    · have c_11 : ¬ cm = 0 := id (fun z => c_11 ((nI_eq (a := cm) (b := 0) (by omega) (by omega)).mpr z))
      refine lv_aload_n hx hb dX3_isWhole_29 rfl (lv_at hl 0 rfl) ?_
      refine va_get (D := D) (ci := 3) (v := .long nw) (C := RX3) (T := TX3) (N := 18) hx hb hts (fun w h => lw_in w (inX3 w h)) hown hK hP 0 rfl rfl 17 (by decide) (hts _ (lw_in _ t_305)) (fun _ h9 => h9) rfl dX3_isWhole_30 ?_
      refine lv_aload_n hx hb dX3_isWhole_33 rfl (lv_at hl 0 rfl) ?_
      refine ct_callV (As := []) (rest := [.long nw]) ⟨hx, hb, hml, hown, hts⟩ (k_E_last l D h k tx sz im cm nw nd kd pa be af mi np lf nm dp la so ro  nb ok0) (cwV 0 hts (gV lw_in t_442 t_400 t_401 t_26 t_402) rfl rfl rfl (by decide +kernel) ⟨Nat.le_of_ble_eq_true rfl, Nat.le_of_ble_eq_true rfl⟩) 0 rfl rfl hK hP hD hS hA rfl hl.1 rfl (Nat.le_of_ble_eq_true rfl) dX3_isWhole_34 ⟨Nat.zero_le _, Nat.zero_le _⟩ (fun H locs hP hD hS => ?_)
      refine W.eq (g2 := F0 m 37 ls [.long (laL kd pa af mi lf np 0 0), .long nw]) rfl ?_
      refine lv_land hx hb dX3_isWhole_37 ?_
      refine lv_lconst (v := 0) hx hb dX3_isWhole_38 (by decide) ?_
      refine W.lcmp hx hb dX3_isWhole_39 ?_
      refine lv_if_eq (tgt := 47) hx hb dX3_isWhole_40 (by decide) (fun c_40 => ?_) (fun c_40 => ?_)
      · have c_40 : (nw &&& (laL kd pa af mi lf np 0 0)) = 0 := (lg_cmp_eq _ _).mp c_40
        refine lv_iconst (v := 0) hx hb dX3_isWhole_47 (by decide) ?_
        exact ct_endi hx hb hr hlocks rfl hP hD hS rfl (by simp [bI, c_4, c_11, c_40]) dX3_isWhole_48
      · have c_40 : ¬ (nw &&& (laL kd pa af mi lf np 0 0)) = 0 := fun z => c_40 ((lg_cmp_eq _ _).mpr z)
        refine lv_iconst (v := 1) hx hb dX3_isWhole_43 (by decide) ?_
        refine lv_goto (tgt := 48) hx hb dX3_isWhole_44 (by decide) ?_
        exact ct_endi hx hb hr hlocks rfl hP hD hS rfl (by simp [bI, c_4, c_11, c_40]) dX3_isWhole_48
    · have c_11 : cm = 0 := (nI_eq (a := cm) (b := 0) (by omega) (by omega)).mp c_11
      refine lv_aload_n hx hb dX3_isWhole_14 rfl (lv_at hl 0 rfl) ?_
      refine va_get (D := D) (ci := 3) (v := .ref (h 6)) (C := RX3) (T := TX3) (N := 18) hx hb hts (fun w h => lw_in w (inX3 w h)) hown hK hP 0 rfl rfl 7 (by decide) (hts _ (lw_in _ t_295)) (fun _ h9 => h9) rfl dX3_isWhole_15 ?_
      refine lv_aload_n hx hb dX3_isWhole_18 rfl (lv_at hl 0 rfl) ?_
      refine va_get (D := D) (ci := 3) (v := .int (nI ro)) (C := RX3) (T := TX3) (N := 18) hx hb hts (fun w h => lw_in w (inX3 w h)) hown hK hP 0 rfl rfl 15 (by decide) (hts _ (lw_in _ t_303)) (fun _ h9 => h9) rfl dX3_isWhole_19 ?_
      refine wx_zald hx hb hK hP 6 5 rfl rfl (i := ro) (by have := hro c_4; omega) (by decide) dX3_isWhole_22 ?_
      refine lv_if_eq (tgt := 47) hx hb dX3_isWhole_23 (by decide) (fun c_23 => ?_) (fun c_23 => ?_)
      · have c_23 : (mi ro) = false := (bI_eq0 _).mp c_23
        refine lv_iconst (v := 0) hx hb dX3_isWhole_47 (by decide) ?_
        exact ct_endi hx hb hr hlocks rfl hP hD hS rfl (by simp [bI, c_4, c_11, c_23]) dX3_isWhole_48
      · have c_23 : (mi ro) = true := (bI_ne0 _).mp c_23
        refine lv_goto (tgt := 43) hx hb dX3_isWhole_26 (by decide) ?_
        refine lv_iconst (v := 1) hx hb dX3_isWhole_43 (by decide) ?_
        refine lv_goto (tgt := 48) hx hb dX3_isWhole_44 (by decide) ?_
        exact ct_endi hx hb hr hlocks rfl hP hD hS rfl (by simp [bI, c_4, c_11, c_23]) dX3_isWhole_48

set_option maxHeartbeats 4000000 in
set_option maxRecDepth 100000 in
theorem k_E_may (l : Launch) (D : va_G) (h : Nat → Nat) (k : Nat → ClassId) (tx : Nat → Int32) (sz : Nat) (im : Bool) (cm : Nat) (nw : Int64) (nd : Nat) (kd : Nat → Int32) (pa : Nat → Option Nat) (be : Nat → Option Nat) (af : Nat → Option Nat) (mi : Nat → Bool) (np : Nat) (lf : Nat → Nat) (nm : Nat → Int32) (dp : Nat) (la : Nat → Option Nat) (so : Nat → Int32) (ro : Nat)  (nb : Nat) (ok : okT nb pa be af np lf) (hro : im = true → ro < nb) (hcm : cm ≤ 600) :
    Ct l yX3_may wsX3_may (rmN 4) D vwCl (tyM k) [.ref (h 0)] (wM h k tx sz im cm nw (nd, kd, pa, be, af, mi, np, lf, nm, dp, la, so, ro)) (wM h k tx sz im cm nw (nd, kd, pa, be, af, mi, np, lf, nm, dp, la, so, ro)) (some (.int (myL (if cm = 0 then e_first kd pa be mi np lf im ro else abL nw (fun q => e_next kd pa be af mi np lf (nI q)) np 0 0) nm np 0 0))) := by
  refine Ct.of (cc := cX3_may) (maxL := 5) (ret := (some .int)) (lv := [(0, .ref (h 0))]) (by decide) rfl (Nat.le_of_ble_eq_true rfl) rfl ?_
  intro p e s m below meth c A ls hx hb hr hml hts hown hlocks hK hP hD hS hA hl
  have ok0 := ok
  obtain ⟨hnb, hnp, okP, okB, okA, okL⟩ := ok
  refine lv_aload_n hx hb dX3_may_0 rfl (lv_at hl 0 rfl) ?_
  refine lv_aload_n hx hb dX3_may_1 rfl (lv_at hl 0 rfl) ?_
  refine va_get (D := D) (ci := 3) (v := .long nw) (C := RX3) (T := TX3) (N := 18) hx hb hts (fun w h => lw_in w (inX3 w h)) hown hK hP 0 rfl rfl 17 (by decide) (hts _ (lw_in _ t_305)) (fun _ h9 => h9) rfl dX3_may_2 ?_
  refine ct_callV (As := [.long nw]) (rest := []) ⟨hx, hb, hml, hown, hts⟩ (k_E_able l D h k tx sz im cm nw nd kd pa be af mi np lf nm dp la so ro nw nb ok0 hro hcm) (cwV 1 hts (gV lw_in t_434 t_436 t_21 t_26 t_437) rfl rfl rfl (by decide +kernel) ⟨Nat.le_of_ble_eq_true rfl, Nat.le_of_ble_eq_true rfl⟩) 0 rfl rfl hK hP hD hS hA rfl hl.1 rfl (Nat.le_of_ble_eq_true rfl) dX3_may_5 ⟨Nat.zero_le _, Nat.zero_le _⟩ (fun H locs hP hD hS => ?_)
  refine W.eq (g2 := F0 m 8 ls [.long (if cm = 0 then e_first kd pa be mi np lf im ro else abL nw (fun q => e_next kd pa be af mi np lf (nI q)) np 0 0)]) rfl ?_
  refine lv_topl (fun b9 e_b => ?_)
  refine lv_lstore_n (lv' := [(1, .long b9), (0, .ref (h 0))]) hx hb dX3_may_8 rfl hl (by decide) rfl (fun ls hl => ?_)
  refine lv_iconst (v := 0) hx hb dX3_may_9 (by decide) ?_
  refine lv_istore_n (lv' := [(3, .int 0), (1, .long b9), (0, .ref (h 0))]) hx hb dX3_may_10 rfl hl (by decide) rfl (fun ls hl => ?_)
  refine lv_iconst (v := 0) hx hb dX3_may_11 (by decide) ?_
  refine lv_istore (lv' := [(4, .int 0), (3, .int 0), (1, .long b9), (0, .ref (h 0))]) hx hb dX3_may_12 hl (by decide) rfl (fun ls hl => ?_)
  have loop : ∀ (n : Nat) (i : Nat) (r : Int32), (i + n = np) → (myL b9 nm n i r = myL b9 nm np 0 0) → ∀ (H : Heap) (locs : List Loc), va_P D vwCl (wM h k tx sz im cm nw (nd, kd, pa, be, af, mi, np, lf, nm, dp, la, so, ro)) H → va_D A (wM h k tx sz im cm nw (nd, kd, pa, be, af, mi, np, lf, nm, dp, la, so, ro)) → va_S A s.heap H locs → ∀ ls : Array Slot, lv_has ls 5 [(4, .int (nI i)), (3, .int r), (1, .long b9), (0, .ref (h 0))] →
      W p l e (rmN 4) s m ([.ref (h 0)] : List Value).toArray below meth c H locs 0 0 (MQ below (CtQ D vwCl A (wM h k tx sz im cm nw (nd, kd, pa, be, af, mi, np, lf, nm, dp, la, so, ro)) (some (.int (myL (if cm = 0 then e_first kd pa be mi np lf im ro else abL nw (fun q => e_next kd pa be af mi np lf (nI q)) np 0 0) nm np 0 0)))) ([.ref (h 0)] : List Value).toArray s 0 0 A) (F0 m 14 ls []) := by
    intro n
    induction n with
    | zero =>
      intro i r hi he H locs hP hD hS ls hl
      refine lv_iload hx hb dX3_may_14 (lv_at hl 0 rfl) ?_
      refine lv_aload_n hx hb dX3_may_16 rfl (lv_at hl 3 rfl) ?_
      refine va_get (D := D) (ci := 3) (v := .int (nI np)) (C := RX3) (T := TX3) (N := 18) hx hb hts (fun w h => lw_in w (inX3 w h)) hown hK hP 0 rfl rfl 8 (by decide) (hts _ (lw_in _ t_296)) (fun _ h9 => h9) rfl dX3_may_17 ?_
      refine lv_icmp_ge (tgt := 56) hx hb dX3_may_20 (by decide) (fun c_20 => ?_) (fun c_20 => ?_)
      · have c_20 : np ≤ i := (nI_leI (a := np) (b := i) (by omega) (by omega)).mp c_20
        refine lv_iload_n hx hb dX3_may_56 rfl (lv_at hl 1 rfl) ?_
        exact ct_endi hx hb hr hlocks rfl hP hD hS rfl (by rw [← e_b, ← he]; rfl) dX3_may_57
      · have c_20 : i < np := Nat.lt_of_not_le (fun z => c_20 ((nI_leI (a := np) (b := i) (by omega) (by omega)).mpr z))
        exact absurd c_20 (by omega)
    | succ n ih =>
      intro i r hi he H locs hP hD hS ls hl
      refine lv_iload hx hb dX3_may_14 (lv_at hl 0 rfl) ?_
      refine lv_aload_n hx hb dX3_may_16 rfl (lv_at hl 3 rfl) ?_
      refine va_get (D := D) (ci := 3) (v := .int (nI np)) (C := RX3) (T := TX3) (N := 18) hx hb hts (fun w h => lw_in w (inX3 w h)) hown hK hP 0 rfl rfl 8 (by decide) (hts _ (lw_in _ t_296)) (fun _ h9 => h9) rfl dX3_may_17 ?_
      refine lv_icmp_ge (tgt := 56) hx hb dX3_may_20 (by decide) (fun c_20 => ?_) (fun c_20 => ?_)
      · have c_20 : np ≤ i := (nI_leI (a := np) (b := i) (by omega) (by omega)).mp c_20
        exact absurd c_20 (by omega)
      · have c_20 : i < np := Nat.lt_of_not_le (fun z => c_20 ((nI_leI (a := np) (b := i) (by omega) (by omega)).mpr z))
        refine lv_iload_n hx hb dX3_may_23 rfl (lv_at hl 1 rfl) ?_
        refine lv_lload_n hx hb dX3_may_24 rfl (lv_at hl 2 rfl) ?_
        refine lv_iload hx hb dX3_may_25 (lv_at hl 0 rfl) ?_
        refine lv_lshr (v := ((b9 : Int64) >>> ((nI i).toInt64 &&& 63))) hx hb dX3_may_27 rfl ?_
        refine lv_lconst (v := 1) hx hb dX3_may_28 (by decide) ?_
        refine lv_land hx hb dX3_may_29 ?_
        refine lv_lconst (v := 1) hx hb dX3_may_30 (by decide) ?_
        refine W.lcmp hx hb dX3_may_31 ?_
        refine lv_if_ne (tgt := 47) hx hb dX3_may_32 (by decide) (fun c_32 => ?_) (fun c_32 => ?_)
        · have c_32 : ¬ (((b9 : Int64) >>> ((nI i).toInt64 &&& 63)) &&& 1) = 1 := fun z => c_32 ((lg_cmp_eq _ _).mpr z)
          have c_32 : hB b9 i = false := hB_nr (by omega) c_32
          refine lv_iconst (v := 0) hx hb dX3_may_47 (by decide) ?_
          refine lv_ior hx hb dX3_may_48 ?_
          refine lv_istore_n (lv' := [(3, .int (r ||| 0)), (4, .int (nI i)), (1, .long b9), (0, .ref (h 0))]) hx hb dX3_may_49 rfl hl (by decide) rfl (fun ls hl => ?_)
          refine lv_iinc (v := nI (i + 1)) (lv' := [(4, .int (nI (i + 1))), (3, .int (r ||| 0)), (1, .long b9), (0, .ref (h 0))]) hx hb dX3_may_50 hl (k := 1) rfl (nI_1 _) (by decide) rfl (fun ls hl => ?_)
          refine lv_goto (tgt := 14) hx hb dX3_may_53 (by decide) ?_
          exact ih (i + 1) (r ||| 0) (by omega) (by rw [← he, myL, if_neg (bF c_32)]) _ _ hP hD hS _ (lv_sub hl [0, 1, 2, 3] rfl)
        · have c_32 : (((b9 : Int64) >>> ((nI i).toInt64 &&& 63)) &&& 1) = 1 := (lg_cmp_eq _ _).mp c_32
          have c_32 : hB b9 i = true := (hB_sr b9 (by omega)).mp c_32
          refine lv_iconst (v := 1) hx hb dX3_may_35 (by decide) ?_
          refine lv_aload_n hx hb dX3_may_36 rfl (lv_at hl 3 rfl) ?_
          refine va_get (D := D) (ci := 3) (v := .ref (h 8)) (C := RX3) (T := TX3) (N := 18) hx hb hts (fun w h => lw_in w (inX3 w h)) hown hK hP 0 rfl rfl 10 (by decide) (hts _ (lw_in _ t_298)) (fun _ h9 => h9) rfl dX3_may_37 ?_
          refine lv_iload hx hb dX3_may_40 (lv_at hl 0 rfl) ?_
          refine wx_iald hx hb hK hP 8 7 rfl rfl (i := i) (by omega) (by decide) dX3_may_42 ?_
          refine lv_ishl hx hb dX3_may_43 ?_
          refine lv_goto (tgt := 48) hx hb dX3_may_44 (by decide) ?_
          refine lv_ior hx hb dX3_may_48 ?_
          refine lv_istore_n (lv' := [(3, .int (r ||| (1 <<< ((nm i) &&& 31)))), (4, .int (nI i)), (1, .long b9), (0, .ref (h 0))]) hx hb dX3_may_49 rfl hl (by decide) rfl (fun ls hl => ?_)
          refine lv_iinc (v := nI (i + 1)) (lv' := [(4, .int (nI (i + 1))), (3, .int (r ||| (1 <<< ((nm i) &&& 31)))), (1, .long b9), (0, .ref (h 0))]) hx hb dX3_may_50 hl (k := 1) rfl (nI_1 _) (by decide) rfl (fun ls hl => ?_)
          refine lv_goto (tgt := 14) hx hb dX3_may_53 (by decide) ?_
          exact ih (i + 1) (r ||| (1 <<< ((nm i) &&& 31))) (by omega) (by rw [← he, myL, if_pos c_32]) _ _ hP hD hS _ (lv_sub hl [0, 1, 2, 3] rfl)
  exact loop np 0 0 (by omega) rfl _ _ hP hD hS _ (lv_sub hl [0, 1, 2, 3] rfl)

set_option maxHeartbeats 4000000 in
set_option maxRecDepth 100000 in
theorem k_E_again (l : Launch) (D : va_G) (h : Nat → Nat) (k : Nat → ClassId) (tx : Nat → Int32) (sz : Nat) (im : Bool) (cm : Nat) (nw : Int64) (T : TS)    :
    Ct l yX3_again wsX3_again (rmN 0) D vwCl (tyM k) [.ref (h 0)] (wM h k tx sz im cm nw T) (wM h k tx sz im 0 0 T) (some (.int (nI cm))) := by
  refine Ct.of (cc := cX3_again) (maxL := 2) (ret := (some .int)) (lv := [(0, .ref (h 0))]) (by decide) rfl (Nat.le_of_ble_eq_true rfl) rfl ?_
  intro p e s m below meth c A ls hx hb hr hml hts hown hlocks hK hP hD hS hA hl
  refine lv_aload_n hx hb dX3_again_0 rfl (lv_at hl 0 rfl) ?_
  refine va_get (D := D) (ci := 3) (v := .int (nI cm)) (C := RX3) (T := TX3) (N := 18) hx hb hts (fun w h => lw_in w (inX3 w h)) hown hK hP 0 rfl rfl 16 (by decide) (hts _ (lw_in _ t_304)) (fun _ h9 => h9) rfl dX3_again_1 ?_
  refine lv_istore_n (lv' := [(1, .int (nI cm)), (0, .ref (h 0))]) hx hb dX3_again_4 rfl hl (by decide) rfl (fun ls hl => ?_)
  refine lv_aload_n hx hb dX3_again_5 rfl (lv_at hl 1 rfl) ?_
  refine lv_iconst (v := 0) hx hb dX3_again_6 (by decide) ?_
  refine lv_eqi (show 0 = nI 0 from rfl) ?_
  refine va_put (D := D) (ci := 3) (v := .int (nI 0)) (ty := .int) (C := RX3) (T := TX3) (N := 18) hx hb hts (fun w h => lw_in w (inX3 w h)) tyX3 tyX3_ok nmX3 hown hK hP hD hS 0 rfl rfl 16 (by decide) (hts _ (lw_in _ t_304)) (fun _ h9 => h9) rfl (by decide +kernel) rfl rfl (Nat.le_of_ble_eq_true rfl) dX3_again_7 (fun H locs hP hD hS => ?_)
  have hP : va_P D vwCl (wM h k tx sz im 0 nw T) H := hP
  have hD : va_D A (wM h k tx sz im 0 nw T) := hD
  refine lv_aload_n hx hb dX3_again_10 rfl (lv_at hl 1 rfl) ?_
  refine lv_lconst (v := 0) hx hb dX3_again_11 (by decide) ?_
  refine va_put (D := D) (ci := 3) (v := .long 0) (ty := .long) (C := RX3) (T := TX3) (N := 18) hx hb hts (fun w h => lw_in w (inX3 w h)) tyX3 tyX3_ok nmX3 hown hK hP hD hS 0 rfl rfl 17 (by decide) (hts _ (lw_in _ t_305)) (fun _ h9 => h9) rfl (by decide +kernel) rfl rfl (Nat.le_of_ble_eq_true rfl) dX3_again_12 (fun H locs hP hD hS => ?_)
  have hP : va_P D vwCl (wM h k tx sz im 0 0 T) H := hP
  have hD : va_D A (wM h k tx sz im 0 0 T) := hD
  refine lv_iload_n hx hb dX3_again_15 rfl (lv_at hl 0 rfl) ?_
  exact ct_endi hx hb hr hlocks rfl hP hD hS rfl rfl dX3_again_16
end
section
/-! The methods of the reference: parse (laid by program) -/
set_option maxHeartbeats 4000000 in
set_option maxRecDepth 100000 in
theorem k_E_put (l : Launch) (D : va_G) (h : Nat → Nat) (k : Nat → ClassId) (tx : Nat → Int32) (sz : Nat) (im : Bool) (cm : Nat) (nw : Int64) (T : TS) (v : Int64) (x : Int32)  (hsz : sz ≤ 300) :
    Ct l yX3_put wsX3_put (rmN 0) D vwCl (tyM k) [.ref (h 0), .long v, .int x] (wM h k tx sz im cm nw T) (wM h k (e_put tx sz v x).1 (e_put tx sz v x).2.1 im cm nw T) (some (.int (bI (e_put tx sz v x).2.2))) := by
  refine Ct.of (cc := cX3_put) (maxL := 5) (ret := (some .boolean)) (lv := [(0, .ref (h 0)), (1, .long v), (3, .int x)]) (by decide) rfl (Nat.le_of_ble_eq_true rfl) rfl ?_
  intro p e s m below meth c A ls hx hb hr hml hts hown hlocks hK hP hD hS hA hl
  refine lv_iload_n hx hb dX3_put_0 rfl (lv_at hl 2 rfl) ?_
  refine lv_iconst (v := 1) hx hb dX3_put_1 (by decide) ?_
  refine lv_icmp_lt (tgt := 23) hx hb dX3_put_2 (by decide) (fun c_2 => ?_) (fun c_2 => ?_)
  · have c_2 : x < 1 := c_2
    refine lv_iconst (v := 0) hx hb dX3_put_23 (by decide) ?_
    have e_24 : e_put tx sz v x = (tx, sz, false) := by unfold e_put; rw [if_pos c_2]
    exact ct_endi hx hb hr hlocks rfl hP hD hS (by rw [e_24]) (by rw [e_24]; rfl) dX3_put_24
  · have c_2 : ¬ x < 1 := c_2
    refine lv_iload_n hx hb dX3_put_5 rfl (lv_at hl 2 rfl) ?_
    refine lv_bipush (v := 8) hx hb dX3_put_6 (by decide) ?_
    refine lv_icmp_gt (tgt := 23) hx hb dX3_put_8 (by decide) (fun c_8 => ?_) (fun c_8 => ?_)
    · have c_8 : 8 < x := c_8
      refine lv_iconst (v := 0) hx hb dX3_put_23 (by decide) ?_
      have e_24 : e_put tx sz v x = (tx, sz, false) := by unfold e_put; rw [if_neg c_2, if_pos c_8]
      exact ct_endi hx hb hr hlocks rfl hP hD hS (by rw [e_24]) (by rw [e_24]; rfl) dX3_put_24
    · have c_8 : ¬ 8 < x := c_8
      obtain ⟨q, hq1, hq8, rfl⟩ : ∃ q : Nat, 1 ≤ q ∧ q ≤ 8 ∧ x = nI q := p_count c_2 c_8
      refine lv_aload_n hx hb dX3_put_11 rfl (lv_at hl 0 rfl) ?_
      refine va_get (D := D) (ci := 3) (v := .int (nI sz)) (C := RX3) (T := TX3) (N := 18) hx hb hts (fun w h => lw_in w (inX3 w h)) hown hK hP 0 rfl rfl 1 (by decide) (hts _ (lw_in _ t_289)) (fun _ h9 => h9) rfl dX3_put_12 ?_
      refine lv_iload_n hx hb dX3_put_15 rfl (lv_at hl 2 rfl) ?_
      refine lv_iadd hx hb dX3_put_16 ?_
      refine lv_eqi (show (nI sz + nI q) = nI (sz + q) from nI_add _ _) ?_
      refine lv_sipush (v := 300) hx hb dX3_put_17 (by decide) ?_
      refine lv_icmp_le (tgt := 25) hx hb dX3_put_20 (by decide) (fun c_20 => ?_) (fun c_20 => ?_)
      · have c_20 : (sz + q) ≤ 300 := (nI_leI (a := (sz + q)) (b := 300) (by omega) (by omega)).mp c_20
        refine lv_iconst (v := 0) hx hb dX3_put_25 (by decide) ?_
        refine lv_istore (lv' := [(4, .int 0), (0, .ref (h 0)), (1, .long v), (3, .int (nI q))]) hx hb dX3_put_26 hl (by decide) rfl (fun ls hl => ?_)
        have loop : ∀ (n : Nat) (k9 : Nat) (tx1 : Nat → Int32), (k9 + n = q) → (ptR v sz q n k9 tx1 = ptR v sz q q 0 tx) → ∀ (H : Heap) (locs : List Loc), va_P D vwCl (wM h k tx1 sz im cm nw T) H → va_D A (wM h k tx1 sz im cm nw T) → va_S A s.heap H locs → ∀ ls : Array Slot, lv_has ls 5 [(4, .int (nI k9)), (0, .ref (h 0)), (1, .long v), (3, .int (nI q))] →
            W p l e (rmN 0) s m ([.ref (h 0), .long v, .int (nI q)] : List Value).toArray below meth c H locs 0 0 (MQ below (CtQ D vwCl A (wM h k (e_put tx sz v (nI q)).1 (e_put tx sz v (nI q)).2.1 im cm nw T) (some (.int (bI (e_put tx sz v (nI q)).2.2)))) ([.ref (h 0), .long v, .int (nI q)] : List Value).toArray s 0 0 A) (F0 m 28 ls []) := by
          intro n
          induction n with
          | zero =>
            intro k9 tx1 hi he H locs hP hD hS ls hl
            refine lv_iload hx hb dX3_put_28 (lv_at hl 0 rfl) ?_
            refine lv_iload_n hx hb dX3_put_30 rfl (lv_at hl 3 rfl) ?_
            refine lv_icmp_ge (tgt := 68) hx hb dX3_put_31 (by decide) (fun c_31 => ?_) (fun c_31 => ?_)
            · have c_31 : q ≤ k9 := (nI_leI (a := q) (b := k9) (by omega) (by omega)).mp c_31
              refine lv_aload_n hx hb dX3_put_68 rfl (lv_at hl 1 rfl) ?_
              refine lv_aload_n hx hb dX3_put_69 rfl (lv_at hl 1 rfl) ?_
              refine va_get (D := D) (ci := 3) (v := .int (nI sz)) (C := RX3) (T := TX3) (N := 18) hx hb hts (fun w h => lw_in w (inX3 w h)) hown hK hP 0 rfl rfl 1 (by decide) (hts _ (lw_in _ t_289)) (fun _ h9 => h9) rfl dX3_put_70 ?_
              refine lv_iload_n hx hb dX3_put_73 rfl (lv_at hl 3 rfl) ?_
              refine lv_iadd hx hb dX3_put_74 ?_
              refine lv_eqi (show (nI sz + nI q) = nI (sz + q) from nI_add _ _) ?_
              refine va_put (D := D) (ci := 3) (v := .int (nI (sz + q))) (ty := .int) (C := RX3) (T := TX3) (N := 18) hx hb hts (fun w h => lw_in w (inX3 w h)) tyX3 tyX3_ok nmX3 hown hK hP hD hS 0 rfl rfl 1 (by decide) (hts _ (lw_in _ t_289)) (fun _ h9 => h9) rfl (by decide +kernel) rfl rfl (Nat.le_of_ble_eq_true rfl) dX3_put_75 (fun H locs hP hD hS => ?_)
              have hP : va_P D vwCl (wM h k tx1 (sz + q) im cm nw T) H := hP
              have hD : va_D A (wM h k tx1 (sz + q) im cm nw T) := hD
              refine lv_iconst (v := 1) hx hb dX3_put_78 (by decide) ?_
              have e_69 : e_put tx sz v (nI q) = (ptR v sz q q 0 tx, sz + q, true) := by unfold e_put; rw [if_neg c_2, if_neg c_8, nI_clamp (by omega), if_neg (by omega)]
              exact ct_endi hx hb hr hlocks rfl hP hD hS (by rw [e_69, ← he]; rfl) (by rw [e_69]; rfl) dX3_put_79
            · have c_31 : k9 < q := Nat.lt_of_not_le (fun z => c_31 ((nI_leI (a := q) (b := k9) (by omega) (by omega)).mpr z))
              exact absurd c_31 (by omega)
          | succ n ih =>
            intro k9 tx1 hi he H locs hP hD hS ls hl
            refine lv_iload hx hb dX3_put_28 (lv_at hl 0 rfl) ?_
            refine lv_iload_n hx hb dX3_put_30 rfl (lv_at hl 3 rfl) ?_
            refine lv_icmp_ge (tgt := 68) hx hb dX3_put_31 (by decide) (fun c_31 => ?_) (fun c_31 => ?_)
            · have c_31 : q ≤ k9 := (nI_leI (a := q) (b := k9) (by omega) (by omega)).mp c_31
              exact absurd c_31 (by omega)
            · have c_31 : k9 < q := Nat.lt_of_not_le (fun z => c_31 ((nI_leI (a := q) (b := k9) (by omega) (by omega)).mpr z))
              refine lv_aload_n hx hb dX3_put_34 rfl (lv_at hl 1 rfl) ?_
              refine va_get (D := D) (ci := 3) (v := .ref (h 1)) (C := RX3) (T := TX3) (N := 18) hx hb hts (fun w h => lw_in w (inX3 w h)) hown hK hP 0 rfl rfl 0 (by decide) (hts _ (lw_in _ t_288)) (fun _ h9 => h9) rfl dX3_put_35 ?_
              refine lv_aload_n hx hb dX3_put_38 rfl (lv_at hl 1 rfl) ?_
              refine va_get (D := D) (ci := 3) (v := .int (nI sz)) (C := RX3) (T := TX3) (N := 18) hx hb hts (fun w h => lw_in w (inX3 w h)) hown hK hP 0 rfl rfl 1 (by decide) (hts _ (lw_in _ t_289)) (fun _ h9 => h9) rfl dX3_put_39 ?_
              refine lv_iload hx hb dX3_put_42 (lv_at hl 0 rfl) ?_
              refine lv_iadd hx hb dX3_put_44 ?_
              refine lv_eqi (show (nI sz + nI k9) = nI (sz + k9) from nI_add _ _) ?_
              refine lv_lload_n hx hb dX3_put_45 rfl (lv_at hl 2 rfl) ?_
              refine lv_bipush (v := 8) hx hb dX3_put_46 (by decide) ?_
              refine lv_iload_n hx hb dX3_put_48 rfl (lv_at hl 3 rfl) ?_
              refine lv_iconst (v := 1) hx hb dX3_put_49 (by decide) ?_
              refine lv_isub hx hb dX3_put_50 ?_
              refine lv_iload hx hb dX3_put_51 (lv_at hl 0 rfl) ?_
              refine lv_isub hx hb dX3_put_53 ?_
              refine lv_imul hx hb dX3_put_54 ?_
              refine lv_lshr (v := ((v : Int64) >>> ((8 * ((nI q - 1) - nI k9)).toInt64 &&& 63))) hx hb dX3_put_55 rfl ?_
              refine lv_ldc2 (v := 255) hx hb hown (hts _ (lw_in _ t_347)) dX3_put_56 ?_
              refine lv_land hx hb dX3_put_59 ?_
              refine lv_l2i (v := (((v : Int64) >>> ((8 * ((nI q - 1) - nI k9)).toInt64 &&& 63)) &&& 255).toInt32) hx hb dX3_put_60 rfl ?_
              refine wx_iast hx hb hK hP hD hS 1 0 rfl rfl (i := (sz + k9)) (by omega) (by decide) dX3_put_61 (fun H locs hP hD hS => ?_)
              have hP : va_P D vwCl (wM h k (upd tx1 (sz + k9) ((((v : Int64) >>> ((8 * ((nI q - 1) - nI k9)).toInt64 &&& 63)) &&& 255).toInt32)) sz im cm nw T) H := hP
              have hD : va_D A (wM h k (upd tx1 (sz + k9) ((((v : Int64) >>> ((8 * ((nI q - 1) - nI k9)).toInt64 &&& 63)) &&& 255).toInt32)) sz im cm nw T) := hD
              refine lv_iinc (v := nI (k9 + 1)) (lv' := [(4, .int (nI (k9 + 1))), (0, .ref (h 0)), (1, .long v), (3, .int (nI q))]) hx hb dX3_put_62 hl (k := 0) rfl (nI_1 _) (by decide) rfl (fun ls hl => ?_)
              refine lv_goto (tgt := 28) hx hb dX3_put_65 (by decide) ?_
              exact ih (k9 + 1) (upd tx1 (sz + k9) ((((v : Int64) >>> ((8 * ((nI q - 1) - nI k9)).toInt64 &&& 63)) &&& 255).toInt32)) (by omega) (by rw [← he, ptR, byteR]) _ _ hP hD hS _ (lv_sub hl [0, 1, 2, 3] rfl)
        exact loop q 0 tx (by omega) rfl _ _ hP hD hS _ (lv_sub hl [0, 1, 2, 3] rfl)
      · have c_20 : 300 < (sz + q) := Nat.lt_of_not_le (fun z => c_20 ((nI_leI (a := (sz + q)) (b := 300) (by omega) (by omega)).mpr z))
        refine lv_iconst (v := 0) hx hb dX3_put_23 (by decide) ?_
        have e_24 : e_put tx sz v (nI q) = (tx, sz, false) := by unfold e_put; rw [if_neg c_2, if_neg c_8, nI_clamp (by omega), if_pos (by omega)]
        exact ct_endi hx hb hr hlocks rfl hP hD hS (by rw [e_24]) (by rw [e_24]; rfl) dX3_put_24

set_option maxHeartbeats 4000000 in
set_option maxRecDepth 100000 in
theorem k_E_close (l : Launch) (D : va_G) (h : Nat → Nat) (k : Nat → ClassId) (tx : Nat → Int32) (sz : Nat) (im : Bool) (cm : Nat) (nw : Int64) (nd : Nat) (kd : Nat → Int32) (pa : Nat → Option Nat) (be : Nat → Option Nat) (af : Nat → Option Nat) (mi : Nat → Bool) (np : Nat) (lf : Nat → Nat) (nm : Nat → Int32) (d : Nat) (la : Nat → Option Nat) (so : Nat → Int32) (ro : Nat)   (hnd : nd < 700) (hd : d < 12) (hla : ∀ w0, la d = some w0 → w0 < nd) (hbe : ∀ x y, x < nd → be x = some y → y < x) :
    Ct l yX3_close wsX3_close (rmN 1) D vwCl (tyM k) [.ref (h 0)] (wM h k tx sz im cm nw (nd, kd, pa, be, af, mi, np, lf, nm, (d + 1), la, so, ro)) (wM h k tx sz im cm nw (t_close (nd, kd, pa, be, af, mi, np, lf, nm, d + 1, la, so, ro) d)) (some (.int (nI nd))) := by
  refine Ct.of (cc := cX3_close) (maxL := 5) (ret := (some .int)) (lv := [(0, .ref (h 0))]) (by decide) rfl (Nat.le_of_ble_eq_true rfl) rfl ?_
  intro p e s m below meth c A ls hx hb hr hml hts hown hlocks hK hP hD hS hA hl
  refine lv_aload_n hx hb dX3_close_0 rfl (lv_at hl 0 rfl) ?_
  refine lv_aload_n hx hb dX3_close_1 rfl (lv_at hl 0 rfl) ?_
  refine va_get (D := D) (ci := 3) (v := .ref (h 10)) (C := RX3) (T := TX3) (N := 18) hx hb hts (fun w h => lw_in w (inX3 w h)) hown hK hP 0 rfl rfl 14 (by decide) (hts _ (lw_in _ t_302)) (fun _ h9 => h9) rfl dX3_close_2 ?_
  refine lv_aload_n hx hb dX3_close_5 rfl (lv_at hl 0 rfl) ?_
  refine va_get (D := D) (ci := 3) (v := .int (nI (d + 1))) (C := RX3) (T := TX3) (N := 18) hx hb hts (fun w h => lw_in w (inX3 w h)) hown hK hP 0 rfl rfl 12 (by decide) (hts _ (lw_in _ t_300)) (fun _ h9 => h9) rfl dX3_close_6 ?_
  refine lv_iconst (v := 1) hx hb dX3_close_9 (by decide) ?_
  refine lv_isub hx hb dX3_close_10 ?_
  refine lv_eqi (show (nI (d + 1) - 1) = nI d from nI_pred _) ?_
  refine wx_iald hx hb hK hP 10 9 rfl rfl (i := d) hd (by decide) dX3_close_11 ?_
  refine lv_iconst (v := 1) hx hb dX3_close_12 (by decide) ?_
  refine lv_icmp_ne (tgt := 20) hx hb dX3_close_13 (by decide) (fun c_13 => ?_) (fun c_13 => ?_)
  · have c_13 : ¬ (so d) = 1 := c_13
    refine lv_iconst (v := 2) hx hb dX3_close_20 (by decide) ?_
    refine ct_callV (As := [.int 2]) (rest := []) ⟨hx, hb, hml, hown, hts⟩ (k_E_node l D h k tx sz im cm nw nd kd pa be af mi np lf nm (d + 1) la so ro 2  (by omega)) (cwV 1 hts (gV lw_in t_364 t_366 t_13 t_26 t_367) rfl rfl rfl (by decide +kernel) ⟨Nat.le_of_ble_eq_true rfl, Nat.le_of_ble_eq_true rfl⟩) 0 rfl rfl hK hP hD hS hA rfl hl.1 rfl (Nat.le_of_ble_eq_true rfl) dX3_close_21 ⟨Nat.zero_le _, Nat.zero_le _⟩ (fun H locs hP hD hS => ?_)
    refine W.eq (g2 := F0 m 24 ls [.int (nI nd)]) rfl ?_
    have hP : va_P D vwCl (wM h k tx sz im cm nw ((nd + 1), (upd kd nd 2), (va_up pa nd none), (va_up be nd none), (va_up af nd none), (va_up mi nd (nkM 2)), np, lf, nm, (d + 1), la, so, ro)) H := hP
    have hD : va_D A (wM h k tx sz im cm nw ((nd + 1), (upd kd nd 2), (va_up pa nd none), (va_up be nd none), (va_up af nd none), (va_up mi nd (nkM 2)), np, lf, nm, (d + 1), la, so, ro)) := hD
    refine lv_istore_n (lv' := [(1, .int (nI nd)), (0, .ref (h 0))]) hx hb dX3_close_24 rfl hl (by decide) rfl (fun ls hl => ?_)
    refine lv_iconst (v := 1) hx hb dX3_close_25 (by decide) ?_
    refine lv_istore_n (lv' := [(2, .int 1), (1, .int (nI nd)), (0, .ref (h 0))]) hx hb dX3_close_26 rfl hl (by decide) rfl (fun ls hl => ?_)
    refine lv_iconst (v := 0) hx hb dX3_close_27 (by decide) ?_
    refine lv_istore_n (lv' := [(3, .int 0), (2, .int 1), (1, .int (nI nd)), (0, .ref (h 0))]) hx hb dX3_close_28 rfl hl (by decide) rfl (fun ls hl => ?_)
    refine lv_aload_n hx hb dX3_close_29 rfl (lv_at hl 3 rfl) ?_
    refine va_get (D := D) (ci := 3) (v := .ref (h 9)) (C := RX3) (T := TX3) (N := 18) hx hb hts (fun w h => lw_in w (inX3 w h)) hown hK hP 0 rfl rfl 13 (by decide) (hts _ (lw_in _ t_301)) (fun _ h9 => h9) rfl dX3_close_30 ?_
    refine lv_aload_n hx hb dX3_close_33 rfl (lv_at hl 3 rfl) ?_
    refine va_get (D := D) (ci := 3) (v := .int (nI (d + 1))) (C := RX3) (T := TX3) (N := 18) hx hb hts (fun w h => lw_in w (inX3 w h)) hown hK hP 0 rfl rfl 12 (by decide) (hts _ (lw_in _ t_300)) (fun _ h9 => h9) rfl dX3_close_34 ?_
    refine lv_iconst (v := 1) hx hb dX3_close_37 (by decide) ?_
    refine lv_isub hx hb dX3_close_38 ?_
    refine lv_eqi (show (nI (d + 1) - 1) = nI d from nI_pred _) ?_
    refine wx_pald hx hb hK hP 9 8 rfl rfl (i := d) hd (by decide) dX3_close_39 ?_
    refine lv_istore (lv' := [(4, .int (pI (la d))), (3, .int 0), (2, .int 1), (1, .int (nI nd)), (0, .ref (h 0))]) hx hb dX3_close_40 hl (by decide) rfl (fun ls hl => ?_)
    have loop2 : ∀ (g : Nat) (o : Option Nat) (pa1 : Nat → Option Nat) (a9 : Bool) (b9 : Bool), (∀ w0, o = some w0 → w0 < g ∧ w0 < nd) → (clL (va_up be nd none) (va_up mi nd (nkM 2)) nd g o pa1 a9 b9 = clL (va_up be nd none) (va_up mi nd (nkM 2)) nd 701 (la d) (va_up pa nd none) true false) → ∀ (H : Heap) (locs : List Loc), va_P D vwCl (wM h k tx sz im cm nw ((nd + 1), (upd kd nd 2), pa1, (va_up be nd none), (va_up af nd none), (va_up mi nd (nkM 2)), np, lf, nm, (d + 1), la, so, ro)) H → va_D A (wM h k tx sz im cm nw ((nd + 1), (upd kd nd 2), pa1, (va_up be nd none), (va_up af nd none), (va_up mi nd (nkM 2)), np, lf, nm, (d + 1), la, so, ro)) → va_S A s.heap H locs → ∀ ls : Array Slot, lv_has ls 5 [(4, .int (pI o)), (3, .int (bI b9)), (2, .int (bI a9)), (1, .int (nI nd)), (0, .ref (h 0))] →
        W p l e (rmN 1) s m ([.ref (h 0)] : List Value).toArray below meth c H locs 0 0 (MQ below (CtQ D vwCl A (wM h k tx sz im cm nw (t_close (nd, kd, pa, be, af, mi, np, lf, nm, d + 1, la, so, ro) d)) (some (.int (nI nd)))) ([.ref (h 0)] : List Value).toArray s 0 0 A) (F0 m 42 ls []) := by
      intro g
      induction g with
      | zero =>
        intro o pa1 a9 b9 ho hk H locs hP hD hS ls hl
        rcases o with _ | w0
        · have hl : lv_has ls 5 [(4, .int (-1)), (3, .int (bI b9)), (2, .int (bI a9)), (1, .int (nI nd)), (0, .ref (h 0))] := hl
          refine lv_iload hx hb dX3_close_42 (lv_at hl 0 rfl) ?_
          refine lv_if_lt (tgt := 107) hx hb dX3_close_44 (by decide) (fun c_44 => ?_) (fun c_44 => ?_)
          · refine lv_aload_n hx hb dX3_close_107 rfl (lv_at hl 4 rfl) ?_
            refine va_get (D := D) (ci := 3) (v := .ref (h 6)) (C := RX3) (T := TX3) (N := 18) hx hb hts (fun w h => lw_in w (inX3 w h)) hown hK hP 0 rfl rfl 7 (by decide) (hts _ (lw_in _ t_295)) (fun _ h9 => h9) rfl dX3_close_108 ?_
            refine lv_iload_n hx hb dX3_close_111 rfl (lv_at hl 3 rfl) ?_
            refine lv_aload_n hx hb dX3_close_112 rfl (lv_at hl 4 rfl) ?_
            refine va_get (D := D) (ci := 3) (v := .ref (h 2)) (C := RX3) (T := TX3) (N := 18) hx hb hts (fun w h => lw_in w (inX3 w h)) hown hK hP 0 rfl rfl 3 (by decide) (hts _ (lw_in _ t_291)) (fun _ h9 => h9) rfl dX3_close_113 ?_
            refine lv_iload_n hx hb dX3_close_116 rfl (lv_at hl 3 rfl) ?_
            refine wx_iald hx hb hK hP 2 1 rfl rfl (i := nd) hnd (by decide) dX3_close_117 ?_
            refine lv_iconst (v := 1) hx hb dX3_close_118 (by decide) ?_
            refine lv_icmp_ne (tgt := 126) hx hb dX3_close_119 (by decide) (fun c_119 => ?_) (fun c_119 => ?_)
            · have c_119 : ¬ ((upd kd nd 2) nd) = 1 := c_119
              refine lv_iload_n hx hb dX3_close_126 rfl (lv_at hl 2 rfl) ?_
              refine wx_zastB (x := a9) (g := (va_up mi nd (nkM 2))) hx hb hK hP hD hS 6 5 rfl rfl (i := nd) hnd (by decide) dX3_close_127 (fun H locs hP hD hS => ?_)
              have hP : va_P D vwCl (wM h k tx sz im cm nw ((nd + 1), (upd kd nd 2), pa1, (va_up be nd none), (va_up af nd none), (va_up (va_up mi nd (nkM 2)) nd a9), np, lf, nm, (d + 1), la, so, ro)) H := hP
              have hD : va_D A (wM h k tx sz im cm nw ((nd + 1), (upd kd nd 2), pa1, (va_up be nd none), (va_up af nd none), (va_up (va_up mi nd (nkM 2)) nd a9), np, lf, nm, (d + 1), la, so, ro)) := hD
              refine lv_aload_n hx hb dX3_close_128 rfl (lv_at hl 4 rfl) ?_
              refine lv_aload_n hx hb dX3_close_129 rfl (lv_at hl 4 rfl) ?_
              refine va_get (D := D) (ci := 3) (v := .int (nI (d + 1))) (C := RX3) (T := TX3) (N := 18) hx hb hts (fun w h => lw_in w (inX3 w h)) hown hK hP 0 rfl rfl 12 (by decide) (hts _ (lw_in _ t_300)) (fun _ h9 => h9) rfl dX3_close_130 ?_
              refine lv_iconst (v := 1) hx hb dX3_close_133 (by decide) ?_
              refine lv_isub hx hb dX3_close_134 ?_
              refine lv_eqi (show (nI (d + 1) - 1) = nI d from nI_pred _) ?_
              refine va_put (D := D) (ci := 3) (v := .int (nI d)) (ty := .int) (C := RX3) (T := TX3) (N := 18) hx hb hts (fun w h => lw_in w (inX3 w h)) tyX3 tyX3_ok nmX3 hown hK hP hD hS 0 rfl rfl 12 (by decide) (hts _ (lw_in _ t_300)) (fun _ h9 => h9) rfl (by decide +kernel) rfl rfl (Nat.le_of_ble_eq_true rfl) dX3_close_135 (fun H locs hP hD hS => ?_)
              have hP : va_P D vwCl (wM h k tx sz im cm nw ((nd + 1), (upd kd nd 2), pa1, (va_up be nd none), (va_up af nd none), (va_up (va_up mi nd (nkM 2)) nd a9), np, lf, nm, d, la, so, ro)) H := hP
              have hD : va_D A (wM h k tx sz im cm nw ((nd + 1), (upd kd nd 2), pa1, (va_up be nd none), (va_up af nd none), (va_up (va_up mi nd (nkM 2)) nd a9), np, lf, nm, d, la, so, ro)) := hD
              refine lv_iload_n hx hb dX3_close_138 rfl (lv_at hl 3 rfl) ?_
              have e_k : clK (so d) = 2 := by rw [clK, if_neg c_13]
              have e_c : clL (va_up be nd none) (va_up mi nd (nkM 2)) nd 701 (la d) (va_up pa nd none) true false = (pa1, a9, b9) := by rw [← hk]; rfl
              have e_t : t_close (nd, kd, pa, be, af, mi, np, lf, nm, d + 1, la, so, ro) d = ((nd + 1), (upd kd nd 2), pa1, (va_up be nd none), (va_up af nd none), (va_up (va_up mi nd (nkM 2)) nd a9), np, lf, nm, d, la, so, ro) := by
                simp only [t_close, e_k]
                rw [e_c]
                simp only [if_neg c_119]
              exact ct_endi hx hb hr hlocks rfl hP hD hS (by rw [e_t]) rfl dX3_close_139
            · have c_119 : ((upd kd nd 2) nd) = 1 := c_119
              refine lv_iload_n hx hb dX3_close_122 rfl (lv_at hl 1 rfl) ?_
              refine lv_goto (tgt := 127) hx hb dX3_close_123 (by decide) ?_
              refine wx_zastB (x := b9) (g := (va_up mi nd (nkM 2))) hx hb hK hP hD hS 6 5 rfl rfl (i := nd) hnd (by decide) dX3_close_127 (fun H locs hP hD hS => ?_)
              have hP : va_P D vwCl (wM h k tx sz im cm nw ((nd + 1), (upd kd nd 2), pa1, (va_up be nd none), (va_up af nd none), (va_up (va_up mi nd (nkM 2)) nd b9), np, lf, nm, (d + 1), la, so, ro)) H := hP
              have hD : va_D A (wM h k tx sz im cm nw ((nd + 1), (upd kd nd 2), pa1, (va_up be nd none), (va_up af nd none), (va_up (va_up mi nd (nkM 2)) nd b9), np, lf, nm, (d + 1), la, so, ro)) := hD
              refine lv_aload_n hx hb dX3_close_128 rfl (lv_at hl 4 rfl) ?_
              refine lv_aload_n hx hb dX3_close_129 rfl (lv_at hl 4 rfl) ?_
              refine va_get (D := D) (ci := 3) (v := .int (nI (d + 1))) (C := RX3) (T := TX3) (N := 18) hx hb hts (fun w h => lw_in w (inX3 w h)) hown hK hP 0 rfl rfl 12 (by decide) (hts _ (lw_in _ t_300)) (fun _ h9 => h9) rfl dX3_close_130 ?_
              refine lv_iconst (v := 1) hx hb dX3_close_133 (by decide) ?_
              refine lv_isub hx hb dX3_close_134 ?_
              refine lv_eqi (show (nI (d + 1) - 1) = nI d from nI_pred _) ?_
              refine va_put (D := D) (ci := 3) (v := .int (nI d)) (ty := .int) (C := RX3) (T := TX3) (N := 18) hx hb hts (fun w h => lw_in w (inX3 w h)) tyX3 tyX3_ok nmX3 hown hK hP hD hS 0 rfl rfl 12 (by decide) (hts _ (lw_in _ t_300)) (fun _ h9 => h9) rfl (by decide +kernel) rfl rfl (Nat.le_of_ble_eq_true rfl) dX3_close_135 (fun H locs hP hD hS => ?_)
              have hP : va_P D vwCl (wM h k tx sz im cm nw ((nd + 1), (upd kd nd 2), pa1, (va_up be nd none), (va_up af nd none), (va_up (va_up mi nd (nkM 2)) nd b9), np, lf, nm, d, la, so, ro)) H := hP
              have hD : va_D A (wM h k tx sz im cm nw ((nd + 1), (upd kd nd 2), pa1, (va_up be nd none), (va_up af nd none), (va_up (va_up mi nd (nkM 2)) nd b9), np, lf, nm, d, la, so, ro)) := hD
              refine lv_iload_n hx hb dX3_close_138 rfl (lv_at hl 3 rfl) ?_
              have e_k : clK (so d) = 2 := by rw [clK, if_neg c_13]
              have e_c : clL (va_up be nd none) (va_up mi nd (nkM 2)) nd 701 (la d) (va_up pa nd none) true false = (pa1, a9, b9) := by rw [← hk]; rfl
              have e_t : t_close (nd, kd, pa, be, af, mi, np, lf, nm, d + 1, la, so, ro) d = ((nd + 1), (upd kd nd 2), pa1, (va_up be nd none), (va_up af nd none), (va_up (va_up mi nd (nkM 2)) nd b9), np, lf, nm, d, la, so, ro) := by
                simp only [t_close, e_k]
                rw [e_c]
                simp only [if_pos c_119]
              exact ct_endi hx hb hr hlocks rfl hP hD hS (by rw [e_t]) rfl dX3_close_139
          · exact absurd (by decide) c_44
        · have hl : lv_has ls 5 [(4, .int (nI w0)), (3, .int (bI b9)), (2, .int (bI a9)), (1, .int (nI nd)), (0, .ref (h 0))] := hl
          exact absurd (ho w0 rfl).1 (Nat.not_lt_zero _)
      | succ g ih2 =>
        intro o pa1 a9 b9 ho hk H locs hP hD hS ls hl
        rcases o with _ | w0
        · have hl : lv_has ls 5 [(4, .int (-1)), (3, .int (bI b9)), (2, .int (bI a9)), (1, .int (nI nd)), (0, .ref (h 0))] := hl
          refine lv_iload hx hb dX3_close_42 (lv_at hl 0 rfl) ?_
          refine lv_if_lt (tgt := 107) hx hb dX3_close_44 (by decide) (fun c_44 => ?_) (fun c_44 => ?_)
          · refine lv_aload_n hx hb dX3_close_107 rfl (lv_at hl 4 rfl) ?_
            refine va_get (D := D) (ci := 3) (v := .ref (h 6)) (C := RX3) (T := TX3) (N := 18) hx hb hts (fun w h => lw_in w (inX3 w h)) hown hK hP 0 rfl rfl 7 (by decide) (hts _ (lw_in _ t_295)) (fun _ h9 => h9) rfl dX3_close_108 ?_
            refine lv_iload_n hx hb dX3_close_111 rfl (lv_at hl 3 rfl) ?_
            refine lv_aload_n hx hb dX3_close_112 rfl (lv_at hl 4 rfl) ?_
            refine va_get (D := D) (ci := 3) (v := .ref (h 2)) (C := RX3) (T := TX3) (N := 18) hx hb hts (fun w h => lw_in w (inX3 w h)) hown hK hP 0 rfl rfl 3 (by decide) (hts _ (lw_in _ t_291)) (fun _ h9 => h9) rfl dX3_close_113 ?_
            refine lv_iload_n hx hb dX3_close_116 rfl (lv_at hl 3 rfl) ?_
            refine wx_iald hx hb hK hP 2 1 rfl rfl (i := nd) hnd (by decide) dX3_close_117 ?_
            refine lv_iconst (v := 1) hx hb dX3_close_118 (by decide) ?_
            refine lv_icmp_ne (tgt := 126) hx hb dX3_close_119 (by decide) (fun c_119 => ?_) (fun c_119 => ?_)
            · have c_119 : ¬ ((upd kd nd 2) nd) = 1 := c_119
              refine lv_iload_n hx hb dX3_close_126 rfl (lv_at hl 2 rfl) ?_
              refine wx_zastB (x := a9) (g := (va_up mi nd (nkM 2))) hx hb hK hP hD hS 6 5 rfl rfl (i := nd) hnd (by decide) dX3_close_127 (fun H locs hP hD hS => ?_)
              have hP : va_P D vwCl (wM h k tx sz im cm nw ((nd + 1), (upd kd nd 2), pa1, (va_up be nd none), (va_up af nd none), (va_up (va_up mi nd (nkM 2)) nd a9), np, lf, nm, (d + 1), la, so, ro)) H := hP
              have hD : va_D A (wM h k tx sz im cm nw ((nd + 1), (upd kd nd 2), pa1, (va_up be nd none), (va_up af nd none), (va_up (va_up mi nd (nkM 2)) nd a9), np, lf, nm, (d + 1), la, so, ro)) := hD
              refine lv_aload_n hx hb dX3_close_128 rfl (lv_at hl 4 rfl) ?_
              refine lv_aload_n hx hb dX3_close_129 rfl (lv_at hl 4 rfl) ?_
              refine va_get (D := D) (ci := 3) (v := .int (nI (d + 1))) (C := RX3) (T := TX3) (N := 18) hx hb hts (fun w h => lw_in w (inX3 w h)) hown hK hP 0 rfl rfl 12 (by decide) (hts _ (lw_in _ t_300)) (fun _ h9 => h9) rfl dX3_close_130 ?_
              refine lv_iconst (v := 1) hx hb dX3_close_133 (by decide) ?_
              refine lv_isub hx hb dX3_close_134 ?_
              refine lv_eqi (show (nI (d + 1) - 1) = nI d from nI_pred _) ?_
              refine va_put (D := D) (ci := 3) (v := .int (nI d)) (ty := .int) (C := RX3) (T := TX3) (N := 18) hx hb hts (fun w h => lw_in w (inX3 w h)) tyX3 tyX3_ok nmX3 hown hK hP hD hS 0 rfl rfl 12 (by decide) (hts _ (lw_in _ t_300)) (fun _ h9 => h9) rfl (by decide +kernel) rfl rfl (Nat.le_of_ble_eq_true rfl) dX3_close_135 (fun H locs hP hD hS => ?_)
              have hP : va_P D vwCl (wM h k tx sz im cm nw ((nd + 1), (upd kd nd 2), pa1, (va_up be nd none), (va_up af nd none), (va_up (va_up mi nd (nkM 2)) nd a9), np, lf, nm, d, la, so, ro)) H := hP
              have hD : va_D A (wM h k tx sz im cm nw ((nd + 1), (upd kd nd 2), pa1, (va_up be nd none), (va_up af nd none), (va_up (va_up mi nd (nkM 2)) nd a9), np, lf, nm, d, la, so, ro)) := hD
              refine lv_iload_n hx hb dX3_close_138 rfl (lv_at hl 3 rfl) ?_
              have e_k : clK (so d) = 2 := by rw [clK, if_neg c_13]
              have e_c : clL (va_up be nd none) (va_up mi nd (nkM 2)) nd 701 (la d) (va_up pa nd none) true false = (pa1, a9, b9) := by rw [← hk]; rfl
              have e_t : t_close (nd, kd, pa, be, af, mi, np, lf, nm, d + 1, la, so, ro) d = ((nd + 1), (upd kd nd 2), pa1, (va_up be nd none), (va_up af nd none), (va_up (va_up mi nd (nkM 2)) nd a9), np, lf, nm, d, la, so, ro) := by
                simp only [t_close, e_k]
                rw [e_c]
                simp only [if_neg c_119]
              exact ct_endi hx hb hr hlocks rfl hP hD hS (by rw [e_t]) rfl dX3_close_139
            · have c_119 : ((upd kd nd 2) nd) = 1 := c_119
              refine lv_iload_n hx hb dX3_close_122 rfl (lv_at hl 1 rfl) ?_
              refine lv_goto (tgt := 127) hx hb dX3_close_123 (by decide) ?_
              refine wx_zastB (x := b9) (g := (va_up mi nd (nkM 2))) hx hb hK hP hD hS 6 5 rfl rfl (i := nd) hnd (by decide) dX3_close_127 (fun H locs hP hD hS => ?_)
              have hP : va_P D vwCl (wM h k tx sz im cm nw ((nd + 1), (upd kd nd 2), pa1, (va_up be nd none), (va_up af nd none), (va_up (va_up mi nd (nkM 2)) nd b9), np, lf, nm, (d + 1), la, so, ro)) H := hP
              have hD : va_D A (wM h k tx sz im cm nw ((nd + 1), (upd kd nd 2), pa1, (va_up be nd none), (va_up af nd none), (va_up (va_up mi nd (nkM 2)) nd b9), np, lf, nm, (d + 1), la, so, ro)) := hD
              refine lv_aload_n hx hb dX3_close_128 rfl (lv_at hl 4 rfl) ?_
              refine lv_aload_n hx hb dX3_close_129 rfl (lv_at hl 4 rfl) ?_
              refine va_get (D := D) (ci := 3) (v := .int (nI (d + 1))) (C := RX3) (T := TX3) (N := 18) hx hb hts (fun w h => lw_in w (inX3 w h)) hown hK hP 0 rfl rfl 12 (by decide) (hts _ (lw_in _ t_300)) (fun _ h9 => h9) rfl dX3_close_130 ?_
              refine lv_iconst (v := 1) hx hb dX3_close_133 (by decide) ?_
              refine lv_isub hx hb dX3_close_134 ?_
              refine lv_eqi (show (nI (d + 1) - 1) = nI d from nI_pred _) ?_
              refine va_put (D := D) (ci := 3) (v := .int (nI d)) (ty := .int) (C := RX3) (T := TX3) (N := 18) hx hb hts (fun w h => lw_in w (inX3 w h)) tyX3 tyX3_ok nmX3 hown hK hP hD hS 0 rfl rfl 12 (by decide) (hts _ (lw_in _ t_300)) (fun _ h9 => h9) rfl (by decide +kernel) rfl rfl (Nat.le_of_ble_eq_true rfl) dX3_close_135 (fun H locs hP hD hS => ?_)
              have hP : va_P D vwCl (wM h k tx sz im cm nw ((nd + 1), (upd kd nd 2), pa1, (va_up be nd none), (va_up af nd none), (va_up (va_up mi nd (nkM 2)) nd b9), np, lf, nm, d, la, so, ro)) H := hP
              have hD : va_D A (wM h k tx sz im cm nw ((nd + 1), (upd kd nd 2), pa1, (va_up be nd none), (va_up af nd none), (va_up (va_up mi nd (nkM 2)) nd b9), np, lf, nm, d, la, so, ro)) := hD
              refine lv_iload_n hx hb dX3_close_138 rfl (lv_at hl 3 rfl) ?_
              have e_k : clK (so d) = 2 := by rw [clK, if_neg c_13]
              have e_c : clL (va_up be nd none) (va_up mi nd (nkM 2)) nd 701 (la d) (va_up pa nd none) true false = (pa1, a9, b9) := by rw [← hk]; rfl
              have e_t : t_close (nd, kd, pa, be, af, mi, np, lf, nm, d + 1, la, so, ro) d = ((nd + 1), (upd kd nd 2), pa1, (va_up be nd none), (va_up af nd none), (va_up (va_up mi nd (nkM 2)) nd b9), np, lf, nm, d, la, so, ro) := by
                simp only [t_close, e_k]
                rw [e_c]
                simp only [if_pos c_119]
              exact ct_endi hx hb hr hlocks rfl hP hD hS (by rw [e_t]) rfl dX3_close_139
          · exact absurd (by decide) c_44
        · have hl : lv_has ls 5 [(4, .int (nI w0)), (3, .int (bI b9)), (2, .int (bI a9)), (1, .int (nI nd)), (0, .ref (h 0))] := hl
          have hz := ho w0 rfl
          refine lv_iload hx hb dX3_close_42 (lv_at hl 0 rfl) ?_
          refine lv_if_lt (tgt := 107) hx hb dX3_close_44 (by decide) (fun c_44 => ?_) (fun c_44 => ?_)
          · have c_44 : w0 < 0 := (nI_ltI (a := w0) (b := 0) (by omega) (by omega)).mp c_44
            exact absurd c_44 (Nat.not_lt_zero _)
          · have c_44 : 0 ≤ w0 := Nat.le_of_not_lt (fun z => c_44 ((nI_ltI (a := w0) (b := 0) (by omega) (by omega)).mpr z))
            refine lv_aload_n hx hb dX3_close_47 rfl (lv_at hl 4 rfl) ?_
            refine va_get (D := D) (ci := 3) (v := .ref (h 3)) (C := RX3) (T := TX3) (N := 18) hx hb hts (fun w h => lw_in w (inX3 w h)) hown hK hP 0 rfl rfl 4 (by decide) (hts _ (lw_in _ t_292)) (fun _ h9 => h9) rfl dX3_close_48 ?_
            refine lv_iload hx hb dX3_close_51 (lv_at hl 0 rfl) ?_
            refine lv_iload_n hx hb dX3_close_53 rfl (lv_at hl 3 rfl) ?_
            refine wx_past (x := some nd) (g := pa1) hx hb hK hP hD hS 3 2 rfl rfl (i := w0) (by omega) (by decide) dX3_close_54 (fun H locs hP hD hS => ?_)
            have hP : va_P D vwCl (wM h k tx sz im cm nw ((nd + 1), (upd kd nd 2), (va_up pa1 w0 (some nd)), (va_up be nd none), (va_up af nd none), (va_up mi nd (nkM 2)), np, lf, nm, (d + 1), la, so, ro)) H := hP
            have hD : va_D A (wM h k tx sz im cm nw ((nd + 1), (upd kd nd 2), (va_up pa1 w0 (some nd)), (va_up be nd none), (va_up af nd none), (va_up mi nd (nkM 2)), np, lf, nm, (d + 1), la, so, ro)) := hD
            refine lv_iload_n hx hb dX3_close_55 rfl (lv_at hl 2 rfl) ?_
            refine lv_if_eq (tgt := 73) hx hb dX3_close_56 (by decide) (fun c_56 => ?_) (fun c_56 => ?_)
            · have c_56 : a9 = false := (bI_eq0 _).mp c_56
              refine lv_iconst (v := 0) hx hb dX3_close_73 (by decide) ?_
              refine lv_istore_n (lv' := [(2, .int 0), (4, .int (nI w0)), (3, .int (bI b9)), (1, .int (nI nd)), (0, .ref (h 0))]) hx hb dX3_close_74 rfl hl (by decide) rfl (fun ls hl => ?_)
              refine lv_iload_n hx hb dX3_close_75 rfl (lv_at hl 2 rfl) ?_
              refine lv_if_ne (tgt := 89) hx hb dX3_close_76 (by decide) (fun c_76 => ?_) (fun c_76 => ?_)
              · have c_76 : b9 = true := (bI_ne0 _).mp c_76
                refine lv_iconst (v := 1) hx hb dX3_close_89 (by decide) ?_
                refine lv_goto (tgt := 94) hx hb dX3_close_90 (by decide) ?_
                refine lv_istore_n (lv' := [(3, .int 1), (2, .int 0), (4, .int (nI w0)), (1, .int (nI nd)), (0, .ref (h 0))]) hx hb dX3_close_94 rfl hl (by decide) rfl (fun ls hl => ?_)
                refine lv_aload_n hx hb dX3_close_95 rfl (lv_at hl 4 rfl) ?_
                refine va_get (D := D) (ci := 3) (v := .ref (h 4)) (C := RX3) (T := TX3) (N := 18) hx hb hts (fun w h => lw_in w (inX3 w h)) hown hK hP 0 rfl rfl 5 (by decide) (hts _ (lw_in _ t_293)) (fun _ h9 => h9) rfl dX3_close_96 ?_
                refine lv_iload hx hb dX3_close_99 (lv_at hl 2 rfl) ?_
                refine wx_pald hx hb hK hP 4 3 rfl rfl (i := w0) (by omega) (by decide) dX3_close_101 ?_
                refine lv_istore (lv' := [(4, .int (pI ((va_up be nd none) w0))), (3, .int 1), (2, .int 0), (1, .int (nI nd)), (0, .ref (h 0))]) hx hb dX3_close_102 hl (by decide) rfl (fun ls hl => ?_)
                refine lv_goto (tgt := 42) hx hb dX3_close_104 (by decide) ?_
                exact ih2 ((va_up be nd none) w0) (va_up pa1 w0 (some nd)) false true (fun y hy => by rw [va_up_ne _ _ (by omega)] at hy; have := hbe w0 y hz.2 hy; omega) (by rw [← hk, clL]; simp [c_56, c_76]) _ _ hP hD hS _ (lv_sub hl [0, 1, 2, 3, 4] rfl)
              · have c_76 : b9 = false := (bI_eq0 _).mp c_76
                refine lv_aload_n hx hb dX3_close_79 rfl (lv_at hl 4 rfl) ?_
                refine va_get (D := D) (ci := 3) (v := .ref (h 6)) (C := RX3) (T := TX3) (N := 18) hx hb hts (fun w h => lw_in w (inX3 w h)) hown hK hP 0 rfl rfl 7 (by decide) (hts _ (lw_in _ t_295)) (fun _ h9 => h9) rfl dX3_close_80 ?_
                refine lv_iload hx hb dX3_close_83 (lv_at hl 1 rfl) ?_
                refine wx_zald hx hb hK hP 6 5 rfl rfl (i := w0) (by omega) (by decide) dX3_close_85 ?_
                refine lv_if_eq (tgt := 93) hx hb dX3_close_86 (by decide) (fun c_86 => ?_) (fun c_86 => ?_)
                · have c_86 : ((va_up mi nd (nkM 2)) w0) = false := (bI_eq0 _).mp c_86
                  refine lv_iconst (v := 0) hx hb dX3_close_93 (by decide) ?_
                  refine lv_istore_n (lv' := [(3, .int 0), (2, .int 0), (4, .int (nI w0)), (1, .int (nI nd)), (0, .ref (h 0))]) hx hb dX3_close_94 rfl hl (by decide) rfl (fun ls hl => ?_)
                  refine lv_aload_n hx hb dX3_close_95 rfl (lv_at hl 4 rfl) ?_
                  refine va_get (D := D) (ci := 3) (v := .ref (h 4)) (C := RX3) (T := TX3) (N := 18) hx hb hts (fun w h => lw_in w (inX3 w h)) hown hK hP 0 rfl rfl 5 (by decide) (hts _ (lw_in _ t_293)) (fun _ h9 => h9) rfl dX3_close_96 ?_
                  refine lv_iload hx hb dX3_close_99 (lv_at hl 2 rfl) ?_
                  refine wx_pald hx hb hK hP 4 3 rfl rfl (i := w0) (by omega) (by decide) dX3_close_101 ?_
                  refine lv_istore (lv' := [(4, .int (pI ((va_up be nd none) w0))), (3, .int 0), (2, .int 0), (1, .int (nI nd)), (0, .ref (h 0))]) hx hb dX3_close_102 hl (by decide) rfl (fun ls hl => ?_)
                  refine lv_goto (tgt := 42) hx hb dX3_close_104 (by decide) ?_
                  exact ih2 ((va_up be nd none) w0) (va_up pa1 w0 (some nd)) false false (fun y hy => by rw [va_up_ne _ _ (by omega)] at hy; have := hbe w0 y hz.2 hy; omega) (by rw [← hk, clL]; simp [c_56, c_76, c_86]) _ _ hP hD hS _ (lv_sub hl [0, 1, 2, 3, 4] rfl)
                · have c_86 : ((va_up mi nd (nkM 2)) w0) = true := (bI_ne0 _).mp c_86
                  refine lv_iconst (v := 1) hx hb dX3_close_89 (by decide) ?_
                  refine lv_goto (tgt := 94) hx hb dX3_close_90 (by decide) ?_
                  refine lv_istore_n (lv' := [(3, .int 1), (2, .int 0), (4, .int (nI w0)), (1, .int (nI nd)), (0, .ref (h 0))]) hx hb dX3_close_94 rfl hl (by decide) rfl (fun ls hl => ?_)
                  refine lv_aload_n hx hb dX3_close_95 rfl (lv_at hl 4 rfl) ?_
                  refine va_get (D := D) (ci := 3) (v := .ref (h 4)) (C := RX3) (T := TX3) (N := 18) hx hb hts (fun w h => lw_in w (inX3 w h)) hown hK hP 0 rfl rfl 5 (by decide) (hts _ (lw_in _ t_293)) (fun _ h9 => h9) rfl dX3_close_96 ?_
                  refine lv_iload hx hb dX3_close_99 (lv_at hl 2 rfl) ?_
                  refine wx_pald hx hb hK hP 4 3 rfl rfl (i := w0) (by omega) (by decide) dX3_close_101 ?_
                  refine lv_istore (lv' := [(4, .int (pI ((va_up be nd none) w0))), (3, .int 1), (2, .int 0), (1, .int (nI nd)), (0, .ref (h 0))]) hx hb dX3_close_102 hl (by decide) rfl (fun ls hl => ?_)
                  refine lv_goto (tgt := 42) hx hb dX3_close_104 (by decide) ?_
                  exact ih2 ((va_up be nd none) w0) (va_up pa1 w0 (some nd)) false true (fun y hy => by rw [va_up_ne _ _ (by omega)] at hy; have := hbe w0 y hz.2 hy; omega) (by rw [← hk, clL]; simp [c_56, c_76, c_86]) _ _ hP hD hS _ (lv_sub hl [0, 1, 2, 3, 4] rfl)
            · have c_56 : a9 = true := (bI_ne0 _).mp c_56
              refine lv_aload_n hx hb dX3_close_59 rfl (lv_at hl 4 rfl) ?_
              refine va_get (D := D) (ci := 3) (v := .ref (h 6)) (C := RX3) (T := TX3) (N := 18) hx hb hts (fun w h => lw_in w (inX3 w h)) hown hK hP 0 rfl rfl 7 (by decide) (hts _ (lw_in _ t_295)) (fun _ h9 => h9) rfl dX3_close_60 ?_
              refine lv_iload hx hb dX3_close_63 (lv_at hl 0 rfl) ?_
              refine wx_zald hx hb hK hP 6 5 rfl rfl (i := w0) (by omega) (by decide) dX3_close_65 ?_
              refine lv_if_eq (tgt := 73) hx hb dX3_close_66 (by decide) (fun c_66 => ?_) (fun c_66 => ?_)
              · have c_66 : ((va_up mi nd (nkM 2)) w0) = false := (bI_eq0 _).mp c_66
                refine lv_iconst (v := 0) hx hb dX3_close_73 (by decide) ?_
                refine lv_istore_n (lv' := [(2, .int 0), (4, .int (nI w0)), (3, .int (bI b9)), (1, .int (nI nd)), (0, .ref (h 0))]) hx hb dX3_close_74 rfl hl (by decide) rfl (fun ls hl => ?_)
                refine lv_iload_n hx hb dX3_close_75 rfl (lv_at hl 2 rfl) ?_
                refine lv_if_ne (tgt := 89) hx hb dX3_close_76 (by decide) (fun c_76 => ?_) (fun c_76 => ?_)
                · have c_76 : b9 = true := (bI_ne0 _).mp c_76
                  refine lv_iconst (v := 1) hx hb dX3_close_89 (by decide) ?_
                  refine lv_goto (tgt := 94) hx hb dX3_close_90 (by decide) ?_
                  refine lv_istore_n (lv' := [(3, .int 1), (2, .int 0), (4, .int (nI w0)), (1, .int (nI nd)), (0, .ref (h 0))]) hx hb dX3_close_94 rfl hl (by decide) rfl (fun ls hl => ?_)
                  refine lv_aload_n hx hb dX3_close_95 rfl (lv_at hl 4 rfl) ?_
                  refine va_get (D := D) (ci := 3) (v := .ref (h 4)) (C := RX3) (T := TX3) (N := 18) hx hb hts (fun w h => lw_in w (inX3 w h)) hown hK hP 0 rfl rfl 5 (by decide) (hts _ (lw_in _ t_293)) (fun _ h9 => h9) rfl dX3_close_96 ?_
                  refine lv_iload hx hb dX3_close_99 (lv_at hl 2 rfl) ?_
                  refine wx_pald hx hb hK hP 4 3 rfl rfl (i := w0) (by omega) (by decide) dX3_close_101 ?_
                  refine lv_istore (lv' := [(4, .int (pI ((va_up be nd none) w0))), (3, .int 1), (2, .int 0), (1, .int (nI nd)), (0, .ref (h 0))]) hx hb dX3_close_102 hl (by decide) rfl (fun ls hl => ?_)
                  refine lv_goto (tgt := 42) hx hb dX3_close_104 (by decide) ?_
                  exact ih2 ((va_up be nd none) w0) (va_up pa1 w0 (some nd)) false true (fun y hy => by rw [va_up_ne _ _ (by omega)] at hy; have := hbe w0 y hz.2 hy; omega) (by rw [← hk, clL]; simp [c_56, c_66, c_76]) _ _ hP hD hS _ (lv_sub hl [0, 1, 2, 3, 4] rfl)
                · have c_76 : b9 = false := (bI_eq0 _).mp c_76
                  refine lv_aload_n hx hb dX3_close_79 rfl (lv_at hl 4 rfl) ?_
                  refine va_get (D := D) (ci := 3) (v := .ref (h 6)) (C := RX3) (T := TX3) (N := 18) hx hb hts (fun w h => lw_in w (inX3 w h)) hown hK hP 0 rfl rfl 7 (by decide) (hts _ (lw_in _ t_295)) (fun _ h9 => h9) rfl dX3_close_80 ?_
                  refine lv_iload hx hb dX3_close_83 (lv_at hl 1 rfl) ?_
                  refine wx_zald hx hb hK hP 6 5 rfl rfl (i := w0) (by omega) (by decide) dX3_close_85 ?_
                  refine lv_if_eq (tgt := 93) hx hb dX3_close_86 (by decide) (fun c_86 => ?_) (fun c_86 => ?_)
                  · have c_86 : ((va_up mi nd (nkM 2)) w0) = false := (bI_eq0 _).mp c_86
                    refine lv_iconst (v := 0) hx hb dX3_close_93 (by decide) ?_
                    refine lv_istore_n (lv' := [(3, .int 0), (2, .int 0), (4, .int (nI w0)), (1, .int (nI nd)), (0, .ref (h 0))]) hx hb dX3_close_94 rfl hl (by decide) rfl (fun ls hl => ?_)
                    refine lv_aload_n hx hb dX3_close_95 rfl (lv_at hl 4 rfl) ?_
                    refine va_get (D := D) (ci := 3) (v := .ref (h 4)) (C := RX3) (T := TX3) (N := 18) hx hb hts (fun w h => lw_in w (inX3 w h)) hown hK hP 0 rfl rfl 5 (by decide) (hts _ (lw_in _ t_293)) (fun _ h9 => h9) rfl dX3_close_96 ?_
                    refine lv_iload hx hb dX3_close_99 (lv_at hl 2 rfl) ?_
                    refine wx_pald hx hb hK hP 4 3 rfl rfl (i := w0) (by omega) (by decide) dX3_close_101 ?_
                    refine lv_istore (lv' := [(4, .int (pI ((va_up be nd none) w0))), (3, .int 0), (2, .int 0), (1, .int (nI nd)), (0, .ref (h 0))]) hx hb dX3_close_102 hl (by decide) rfl (fun ls hl => ?_)
                    refine lv_goto (tgt := 42) hx hb dX3_close_104 (by decide) ?_
                    exact ih2 ((va_up be nd none) w0) (va_up pa1 w0 (some nd)) false false (fun y hy => by rw [va_up_ne _ _ (by omega)] at hy; have := hbe w0 y hz.2 hy; omega) (by rw [← hk, clL]; simp [c_56, c_66, c_76, c_86]) _ _ hP hD hS _ (lv_sub hl [0, 1, 2, 3, 4] rfl)
                  · have c_86 : ((va_up mi nd (nkM 2)) w0) = true := (bI_ne0 _).mp c_86
                    exact absurd (c_66.symm.trans c_86) (by decide)
              · have c_66 : ((va_up mi nd (nkM 2)) w0) = true := (bI_ne0 _).mp c_66
                refine lv_iconst (v := 1) hx hb dX3_close_69 (by decide) ?_
                refine lv_goto (tgt := 74) hx hb dX3_close_70 (by decide) ?_
                refine lv_istore_n (lv' := [(2, .int 1), (4, .int (nI w0)), (3, .int (bI b9)), (1, .int (nI nd)), (0, .ref (h 0))]) hx hb dX3_close_74 rfl hl (by decide) rfl (fun ls hl => ?_)
                refine lv_iload_n hx hb dX3_close_75 rfl (lv_at hl 2 rfl) ?_
                refine lv_if_ne (tgt := 89) hx hb dX3_close_76 (by decide) (fun c_76 => ?_) (fun c_76 => ?_)
                · have c_76 : b9 = true := (bI_ne0 _).mp c_76
                  refine lv_iconst (v := 1) hx hb dX3_close_89 (by decide) ?_
                  refine lv_goto (tgt := 94) hx hb dX3_close_90 (by decide) ?_
                  refine lv_istore_n (lv' := [(3, .int 1), (2, .int 1), (4, .int (nI w0)), (1, .int (nI nd)), (0, .ref (h 0))]) hx hb dX3_close_94 rfl hl (by decide) rfl (fun ls hl => ?_)
                  refine lv_aload_n hx hb dX3_close_95 rfl (lv_at hl 4 rfl) ?_
                  refine va_get (D := D) (ci := 3) (v := .ref (h 4)) (C := RX3) (T := TX3) (N := 18) hx hb hts (fun w h => lw_in w (inX3 w h)) hown hK hP 0 rfl rfl 5 (by decide) (hts _ (lw_in _ t_293)) (fun _ h9 => h9) rfl dX3_close_96 ?_
                  refine lv_iload hx hb dX3_close_99 (lv_at hl 2 rfl) ?_
                  refine wx_pald hx hb hK hP 4 3 rfl rfl (i := w0) (by omega) (by decide) dX3_close_101 ?_
                  refine lv_istore (lv' := [(4, .int (pI ((va_up be nd none) w0))), (3, .int 1), (2, .int 1), (1, .int (nI nd)), (0, .ref (h 0))]) hx hb dX3_close_102 hl (by decide) rfl (fun ls hl => ?_)
                  refine lv_goto (tgt := 42) hx hb dX3_close_104 (by decide) ?_
                  exact ih2 ((va_up be nd none) w0) (va_up pa1 w0 (some nd)) true true (fun y hy => by rw [va_up_ne _ _ (by omega)] at hy; have := hbe w0 y hz.2 hy; omega) (by rw [← hk, clL]; simp [c_56, c_66, c_76]) _ _ hP hD hS _ (lv_sub hl [0, 1, 2, 3, 4] rfl)
                · have c_76 : b9 = false := (bI_eq0 _).mp c_76
                  refine lv_aload_n hx hb dX3_close_79 rfl (lv_at hl 4 rfl) ?_
                  refine va_get (D := D) (ci := 3) (v := .ref (h 6)) (C := RX3) (T := TX3) (N := 18) hx hb hts (fun w h => lw_in w (inX3 w h)) hown hK hP 0 rfl rfl 7 (by decide) (hts _ (lw_in _ t_295)) (fun _ h9 => h9) rfl dX3_close_80 ?_
                  refine lv_iload hx hb dX3_close_83 (lv_at hl 1 rfl) ?_
                  refine wx_zald hx hb hK hP 6 5 rfl rfl (i := w0) (by omega) (by decide) dX3_close_85 ?_
                  refine lv_if_eq (tgt := 93) hx hb dX3_close_86 (by decide) (fun c_86 => ?_) (fun c_86 => ?_)
                  · have c_86 : ((va_up mi nd (nkM 2)) w0) = false := (bI_eq0 _).mp c_86
                    exact absurd (c_66.symm.trans c_86) (by decide)
                  · have c_86 : ((va_up mi nd (nkM 2)) w0) = true := (bI_ne0 _).mp c_86
                    refine lv_iconst (v := 1) hx hb dX3_close_89 (by decide) ?_
                    refine lv_goto (tgt := 94) hx hb dX3_close_90 (by decide) ?_
                    refine lv_istore_n (lv' := [(3, .int 1), (2, .int 1), (4, .int (nI w0)), (1, .int (nI nd)), (0, .ref (h 0))]) hx hb dX3_close_94 rfl hl (by decide) rfl (fun ls hl => ?_)
                    refine lv_aload_n hx hb dX3_close_95 rfl (lv_at hl 4 rfl) ?_
                    refine va_get (D := D) (ci := 3) (v := .ref (h 4)) (C := RX3) (T := TX3) (N := 18) hx hb hts (fun w h => lw_in w (inX3 w h)) hown hK hP 0 rfl rfl 5 (by decide) (hts _ (lw_in _ t_293)) (fun _ h9 => h9) rfl dX3_close_96 ?_
                    refine lv_iload hx hb dX3_close_99 (lv_at hl 2 rfl) ?_
                    refine wx_pald hx hb hK hP 4 3 rfl rfl (i := w0) (by omega) (by decide) dX3_close_101 ?_
                    refine lv_istore (lv' := [(4, .int (pI ((va_up be nd none) w0))), (3, .int 1), (2, .int 1), (1, .int (nI nd)), (0, .ref (h 0))]) hx hb dX3_close_102 hl (by decide) rfl (fun ls hl => ?_)
                    refine lv_goto (tgt := 42) hx hb dX3_close_104 (by decide) ?_
                    exact ih2 ((va_up be nd none) w0) (va_up pa1 w0 (some nd)) true true (fun y hy => by rw [va_up_ne _ _ (by omega)] at hy; have := hbe w0 y hz.2 hy; omega) (by rw [← hk, clL]; simp [c_56, c_66, c_76, c_86]) _ _ hP hD hS _ (lv_sub hl [0, 1, 2, 3, 4] rfl)
    exact loop2 701 (la d) (va_up pa nd none) true false (fun y hy => by have := hla y hy; omega) rfl _ _ hP hD hS _ (lv_sub hl [0, 1, 2, 3, 4] rfl)
  · have c_13 : (so d) = 1 := c_13
    refine lv_iconst (v := 1) hx hb dX3_close_16 (by decide) ?_
    refine lv_goto (tgt := 21) hx hb dX3_close_17 (by decide) ?_
    refine ct_callV (As := [.int 1]) (rest := []) ⟨hx, hb, hml, hown, hts⟩ (k_E_node l D h k tx sz im cm nw nd kd pa be af mi np lf nm (d + 1) la so ro 1  (by omega)) (cwV 1 hts (gV lw_in t_364 t_366 t_13 t_26 t_367) rfl rfl rfl (by decide +kernel) ⟨Nat.le_of_ble_eq_true rfl, Nat.le_of_ble_eq_true rfl⟩) 0 rfl rfl hK hP hD hS hA rfl hl.1 rfl (Nat.le_of_ble_eq_true rfl) dX3_close_21 ⟨Nat.zero_le _, Nat.zero_le _⟩ (fun H locs hP hD hS => ?_)
    refine W.eq (g2 := F0 m 24 ls [.int (nI nd)]) rfl ?_
    have hP : va_P D vwCl (wM h k tx sz im cm nw ((nd + 1), (upd kd nd 1), (va_up pa nd none), (va_up be nd none), (va_up af nd none), (va_up mi nd (nkM 1)), np, lf, nm, (d + 1), la, so, ro)) H := hP
    have hD : va_D A (wM h k tx sz im cm nw ((nd + 1), (upd kd nd 1), (va_up pa nd none), (va_up be nd none), (va_up af nd none), (va_up mi nd (nkM 1)), np, lf, nm, (d + 1), la, so, ro)) := hD
    refine lv_istore_n (lv' := [(1, .int (nI nd)), (0, .ref (h 0))]) hx hb dX3_close_24 rfl hl (by decide) rfl (fun ls hl => ?_)
    refine lv_iconst (v := 1) hx hb dX3_close_25 (by decide) ?_
    refine lv_istore_n (lv' := [(2, .int 1), (1, .int (nI nd)), (0, .ref (h 0))]) hx hb dX3_close_26 rfl hl (by decide) rfl (fun ls hl => ?_)
    refine lv_iconst (v := 0) hx hb dX3_close_27 (by decide) ?_
    refine lv_istore_n (lv' := [(3, .int 0), (2, .int 1), (1, .int (nI nd)), (0, .ref (h 0))]) hx hb dX3_close_28 rfl hl (by decide) rfl (fun ls hl => ?_)
    refine lv_aload_n hx hb dX3_close_29 rfl (lv_at hl 3 rfl) ?_
    refine va_get (D := D) (ci := 3) (v := .ref (h 9)) (C := RX3) (T := TX3) (N := 18) hx hb hts (fun w h => lw_in w (inX3 w h)) hown hK hP 0 rfl rfl 13 (by decide) (hts _ (lw_in _ t_301)) (fun _ h9 => h9) rfl dX3_close_30 ?_
    refine lv_aload_n hx hb dX3_close_33 rfl (lv_at hl 3 rfl) ?_
    refine va_get (D := D) (ci := 3) (v := .int (nI (d + 1))) (C := RX3) (T := TX3) (N := 18) hx hb hts (fun w h => lw_in w (inX3 w h)) hown hK hP 0 rfl rfl 12 (by decide) (hts _ (lw_in _ t_300)) (fun _ h9 => h9) rfl dX3_close_34 ?_
    refine lv_iconst (v := 1) hx hb dX3_close_37 (by decide) ?_
    refine lv_isub hx hb dX3_close_38 ?_
    refine lv_eqi (show (nI (d + 1) - 1) = nI d from nI_pred _) ?_
    refine wx_pald hx hb hK hP 9 8 rfl rfl (i := d) hd (by decide) dX3_close_39 ?_
    refine lv_istore (lv' := [(4, .int (pI (la d))), (3, .int 0), (2, .int 1), (1, .int (nI nd)), (0, .ref (h 0))]) hx hb dX3_close_40 hl (by decide) rfl (fun ls hl => ?_)
    have loop2 : ∀ (g : Nat) (o : Option Nat) (pa1 : Nat → Option Nat) (a9 : Bool) (b9 : Bool), (∀ w0, o = some w0 → w0 < g ∧ w0 < nd) → (clL (va_up be nd none) (va_up mi nd (nkM 1)) nd g o pa1 a9 b9 = clL (va_up be nd none) (va_up mi nd (nkM 1)) nd 701 (la d) (va_up pa nd none) true false) → ∀ (H : Heap) (locs : List Loc), va_P D vwCl (wM h k tx sz im cm nw ((nd + 1), (upd kd nd 1), pa1, (va_up be nd none), (va_up af nd none), (va_up mi nd (nkM 1)), np, lf, nm, (d + 1), la, so, ro)) H → va_D A (wM h k tx sz im cm nw ((nd + 1), (upd kd nd 1), pa1, (va_up be nd none), (va_up af nd none), (va_up mi nd (nkM 1)), np, lf, nm, (d + 1), la, so, ro)) → va_S A s.heap H locs → ∀ ls : Array Slot, lv_has ls 5 [(4, .int (pI o)), (3, .int (bI b9)), (2, .int (bI a9)), (1, .int (nI nd)), (0, .ref (h 0))] →
        W p l e (rmN 1) s m ([.ref (h 0)] : List Value).toArray below meth c H locs 0 0 (MQ below (CtQ D vwCl A (wM h k tx sz im cm nw (t_close (nd, kd, pa, be, af, mi, np, lf, nm, d + 1, la, so, ro) d)) (some (.int (nI nd)))) ([.ref (h 0)] : List Value).toArray s 0 0 A) (F0 m 42 ls []) := by
      intro g
      induction g with
      | zero =>
        intro o pa1 a9 b9 ho hk H locs hP hD hS ls hl
        rcases o with _ | w0
        · have hl : lv_has ls 5 [(4, .int (-1)), (3, .int (bI b9)), (2, .int (bI a9)), (1, .int (nI nd)), (0, .ref (h 0))] := hl
          refine lv_iload hx hb dX3_close_42 (lv_at hl 0 rfl) ?_
          refine lv_if_lt (tgt := 107) hx hb dX3_close_44 (by decide) (fun c_44 => ?_) (fun c_44 => ?_)
          · refine lv_aload_n hx hb dX3_close_107 rfl (lv_at hl 4 rfl) ?_
            refine va_get (D := D) (ci := 3) (v := .ref (h 6)) (C := RX3) (T := TX3) (N := 18) hx hb hts (fun w h => lw_in w (inX3 w h)) hown hK hP 0 rfl rfl 7 (by decide) (hts _ (lw_in _ t_295)) (fun _ h9 => h9) rfl dX3_close_108 ?_
            refine lv_iload_n hx hb dX3_close_111 rfl (lv_at hl 3 rfl) ?_
            refine lv_aload_n hx hb dX3_close_112 rfl (lv_at hl 4 rfl) ?_
            refine va_get (D := D) (ci := 3) (v := .ref (h 2)) (C := RX3) (T := TX3) (N := 18) hx hb hts (fun w h => lw_in w (inX3 w h)) hown hK hP 0 rfl rfl 3 (by decide) (hts _ (lw_in _ t_291)) (fun _ h9 => h9) rfl dX3_close_113 ?_
            refine lv_iload_n hx hb dX3_close_116 rfl (lv_at hl 3 rfl) ?_
            refine wx_iald hx hb hK hP 2 1 rfl rfl (i := nd) hnd (by decide) dX3_close_117 ?_
            refine lv_iconst (v := 1) hx hb dX3_close_118 (by decide) ?_
            refine lv_icmp_ne (tgt := 126) hx hb dX3_close_119 (by decide) (fun c_119 => ?_) (fun c_119 => ?_)
            · have c_119 : ¬ ((upd kd nd 1) nd) = 1 := c_119
              refine lv_iload_n hx hb dX3_close_126 rfl (lv_at hl 2 rfl) ?_
              refine wx_zastB (x := a9) (g := (va_up mi nd (nkM 1))) hx hb hK hP hD hS 6 5 rfl rfl (i := nd) hnd (by decide) dX3_close_127 (fun H locs hP hD hS => ?_)
              have hP : va_P D vwCl (wM h k tx sz im cm nw ((nd + 1), (upd kd nd 1), pa1, (va_up be nd none), (va_up af nd none), (va_up (va_up mi nd (nkM 1)) nd a9), np, lf, nm, (d + 1), la, so, ro)) H := hP
              have hD : va_D A (wM h k tx sz im cm nw ((nd + 1), (upd kd nd 1), pa1, (va_up be nd none), (va_up af nd none), (va_up (va_up mi nd (nkM 1)) nd a9), np, lf, nm, (d + 1), la, so, ro)) := hD
              refine lv_aload_n hx hb dX3_close_128 rfl (lv_at hl 4 rfl) ?_
              refine lv_aload_n hx hb dX3_close_129 rfl (lv_at hl 4 rfl) ?_
              refine va_get (D := D) (ci := 3) (v := .int (nI (d + 1))) (C := RX3) (T := TX3) (N := 18) hx hb hts (fun w h => lw_in w (inX3 w h)) hown hK hP 0 rfl rfl 12 (by decide) (hts _ (lw_in _ t_300)) (fun _ h9 => h9) rfl dX3_close_130 ?_
              refine lv_iconst (v := 1) hx hb dX3_close_133 (by decide) ?_
              refine lv_isub hx hb dX3_close_134 ?_
              refine lv_eqi (show (nI (d + 1) - 1) = nI d from nI_pred _) ?_
              refine va_put (D := D) (ci := 3) (v := .int (nI d)) (ty := .int) (C := RX3) (T := TX3) (N := 18) hx hb hts (fun w h => lw_in w (inX3 w h)) tyX3 tyX3_ok nmX3 hown hK hP hD hS 0 rfl rfl 12 (by decide) (hts _ (lw_in _ t_300)) (fun _ h9 => h9) rfl (by decide +kernel) rfl rfl (Nat.le_of_ble_eq_true rfl) dX3_close_135 (fun H locs hP hD hS => ?_)
              have hP : va_P D vwCl (wM h k tx sz im cm nw ((nd + 1), (upd kd nd 1), pa1, (va_up be nd none), (va_up af nd none), (va_up (va_up mi nd (nkM 1)) nd a9), np, lf, nm, d, la, so, ro)) H := hP
              have hD : va_D A (wM h k tx sz im cm nw ((nd + 1), (upd kd nd 1), pa1, (va_up be nd none), (va_up af nd none), (va_up (va_up mi nd (nkM 1)) nd a9), np, lf, nm, d, la, so, ro)) := hD
              refine lv_iload_n hx hb dX3_close_138 rfl (lv_at hl 3 rfl) ?_
              have e_k : clK (so d) = 1 := by rw [clK, if_pos c_13]
              have e_c : clL (va_up be nd none) (va_up mi nd (nkM 1)) nd 701 (la d) (va_up pa nd none) true false = (pa1, a9, b9) := by rw [← hk]; rfl
              have e_t : t_close (nd, kd, pa, be, af, mi, np, lf, nm, d + 1, la, so, ro) d = ((nd + 1), (upd kd nd 1), pa1, (va_up be nd none), (va_up af nd none), (va_up (va_up mi nd (nkM 1)) nd a9), np, lf, nm, d, la, so, ro) := by
                simp only [t_close, e_k]
                rw [e_c]
                simp only [if_neg c_119]
              exact ct_endi hx hb hr hlocks rfl hP hD hS (by rw [e_t]) rfl dX3_close_139
            · have c_119 : ((upd kd nd 1) nd) = 1 := c_119
              refine lv_iload_n hx hb dX3_close_122 rfl (lv_at hl 1 rfl) ?_
              refine lv_goto (tgt := 127) hx hb dX3_close_123 (by decide) ?_
              refine wx_zastB (x := b9) (g := (va_up mi nd (nkM 1))) hx hb hK hP hD hS 6 5 rfl rfl (i := nd) hnd (by decide) dX3_close_127 (fun H locs hP hD hS => ?_)
              have hP : va_P D vwCl (wM h k tx sz im cm nw ((nd + 1), (upd kd nd 1), pa1, (va_up be nd none), (va_up af nd none), (va_up (va_up mi nd (nkM 1)) nd b9), np, lf, nm, (d + 1), la, so, ro)) H := hP
              have hD : va_D A (wM h k tx sz im cm nw ((nd + 1), (upd kd nd 1), pa1, (va_up be nd none), (va_up af nd none), (va_up (va_up mi nd (nkM 1)) nd b9), np, lf, nm, (d + 1), la, so, ro)) := hD
              refine lv_aload_n hx hb dX3_close_128 rfl (lv_at hl 4 rfl) ?_
              refine lv_aload_n hx hb dX3_close_129 rfl (lv_at hl 4 rfl) ?_
              refine va_get (D := D) (ci := 3) (v := .int (nI (d + 1))) (C := RX3) (T := TX3) (N := 18) hx hb hts (fun w h => lw_in w (inX3 w h)) hown hK hP 0 rfl rfl 12 (by decide) (hts _ (lw_in _ t_300)) (fun _ h9 => h9) rfl dX3_close_130 ?_
              refine lv_iconst (v := 1) hx hb dX3_close_133 (by decide) ?_
              refine lv_isub hx hb dX3_close_134 ?_
              refine lv_eqi (show (nI (d + 1) - 1) = nI d from nI_pred _) ?_
              refine va_put (D := D) (ci := 3) (v := .int (nI d)) (ty := .int) (C := RX3) (T := TX3) (N := 18) hx hb hts (fun w h => lw_in w (inX3 w h)) tyX3 tyX3_ok nmX3 hown hK hP hD hS 0 rfl rfl 12 (by decide) (hts _ (lw_in _ t_300)) (fun _ h9 => h9) rfl (by decide +kernel) rfl rfl (Nat.le_of_ble_eq_true rfl) dX3_close_135 (fun H locs hP hD hS => ?_)
              have hP : va_P D vwCl (wM h k tx sz im cm nw ((nd + 1), (upd kd nd 1), pa1, (va_up be nd none), (va_up af nd none), (va_up (va_up mi nd (nkM 1)) nd b9), np, lf, nm, d, la, so, ro)) H := hP
              have hD : va_D A (wM h k tx sz im cm nw ((nd + 1), (upd kd nd 1), pa1, (va_up be nd none), (va_up af nd none), (va_up (va_up mi nd (nkM 1)) nd b9), np, lf, nm, d, la, so, ro)) := hD
              refine lv_iload_n hx hb dX3_close_138 rfl (lv_at hl 3 rfl) ?_
              have e_k : clK (so d) = 1 := by rw [clK, if_pos c_13]
              have e_c : clL (va_up be nd none) (va_up mi nd (nkM 1)) nd 701 (la d) (va_up pa nd none) true false = (pa1, a9, b9) := by rw [← hk]; rfl
              have e_t : t_close (nd, kd, pa, be, af, mi, np, lf, nm, d + 1, la, so, ro) d = ((nd + 1), (upd kd nd 1), pa1, (va_up be nd none), (va_up af nd none), (va_up (va_up mi nd (nkM 1)) nd b9), np, lf, nm, d, la, so, ro) := by
                simp only [t_close, e_k]
                rw [e_c]
                simp only [if_pos c_119]
              exact ct_endi hx hb hr hlocks rfl hP hD hS (by rw [e_t]) rfl dX3_close_139
          · exact absurd (by decide) c_44
        · have hl : lv_has ls 5 [(4, .int (nI w0)), (3, .int (bI b9)), (2, .int (bI a9)), (1, .int (nI nd)), (0, .ref (h 0))] := hl
          exact absurd (ho w0 rfl).1 (Nat.not_lt_zero _)
      | succ g ih2 =>
        intro o pa1 a9 b9 ho hk H locs hP hD hS ls hl
        rcases o with _ | w0
        · have hl : lv_has ls 5 [(4, .int (-1)), (3, .int (bI b9)), (2, .int (bI a9)), (1, .int (nI nd)), (0, .ref (h 0))] := hl
          refine lv_iload hx hb dX3_close_42 (lv_at hl 0 rfl) ?_
          refine lv_if_lt (tgt := 107) hx hb dX3_close_44 (by decide) (fun c_44 => ?_) (fun c_44 => ?_)
          · refine lv_aload_n hx hb dX3_close_107 rfl (lv_at hl 4 rfl) ?_
            refine va_get (D := D) (ci := 3) (v := .ref (h 6)) (C := RX3) (T := TX3) (N := 18) hx hb hts (fun w h => lw_in w (inX3 w h)) hown hK hP 0 rfl rfl 7 (by decide) (hts _ (lw_in _ t_295)) (fun _ h9 => h9) rfl dX3_close_108 ?_
            refine lv_iload_n hx hb dX3_close_111 rfl (lv_at hl 3 rfl) ?_
            refine lv_aload_n hx hb dX3_close_112 rfl (lv_at hl 4 rfl) ?_
            refine va_get (D := D) (ci := 3) (v := .ref (h 2)) (C := RX3) (T := TX3) (N := 18) hx hb hts (fun w h => lw_in w (inX3 w h)) hown hK hP 0 rfl rfl 3 (by decide) (hts _ (lw_in _ t_291)) (fun _ h9 => h9) rfl dX3_close_113 ?_
            refine lv_iload_n hx hb dX3_close_116 rfl (lv_at hl 3 rfl) ?_
            refine wx_iald hx hb hK hP 2 1 rfl rfl (i := nd) hnd (by decide) dX3_close_117 ?_
            refine lv_iconst (v := 1) hx hb dX3_close_118 (by decide) ?_
            refine lv_icmp_ne (tgt := 126) hx hb dX3_close_119 (by decide) (fun c_119 => ?_) (fun c_119 => ?_)
            · have c_119 : ¬ ((upd kd nd 1) nd) = 1 := c_119
              refine lv_iload_n hx hb dX3_close_126 rfl (lv_at hl 2 rfl) ?_
              refine wx_zastB (x := a9) (g := (va_up mi nd (nkM 1))) hx hb hK hP hD hS 6 5 rfl rfl (i := nd) hnd (by decide) dX3_close_127 (fun H locs hP hD hS => ?_)
              have hP : va_P D vwCl (wM h k tx sz im cm nw ((nd + 1), (upd kd nd 1), pa1, (va_up be nd none), (va_up af nd none), (va_up (va_up mi nd (nkM 1)) nd a9), np, lf, nm, (d + 1), la, so, ro)) H := hP
              have hD : va_D A (wM h k tx sz im cm nw ((nd + 1), (upd kd nd 1), pa1, (va_up be nd none), (va_up af nd none), (va_up (va_up mi nd (nkM 1)) nd a9), np, lf, nm, (d + 1), la, so, ro)) := hD
              refine lv_aload_n hx hb dX3_close_128 rfl (lv_at hl 4 rfl) ?_
              refine lv_aload_n hx hb dX3_close_129 rfl (lv_at hl 4 rfl) ?_
              refine va_get (D := D) (ci := 3) (v := .int (nI (d + 1))) (C := RX3) (T := TX3) (N := 18) hx hb hts (fun w h => lw_in w (inX3 w h)) hown hK hP 0 rfl rfl 12 (by decide) (hts _ (lw_in _ t_300)) (fun _ h9 => h9) rfl dX3_close_130 ?_
              refine lv_iconst (v := 1) hx hb dX3_close_133 (by decide) ?_
              refine lv_isub hx hb dX3_close_134 ?_
              refine lv_eqi (show (nI (d + 1) - 1) = nI d from nI_pred _) ?_
              refine va_put (D := D) (ci := 3) (v := .int (nI d)) (ty := .int) (C := RX3) (T := TX3) (N := 18) hx hb hts (fun w h => lw_in w (inX3 w h)) tyX3 tyX3_ok nmX3 hown hK hP hD hS 0 rfl rfl 12 (by decide) (hts _ (lw_in _ t_300)) (fun _ h9 => h9) rfl (by decide +kernel) rfl rfl (Nat.le_of_ble_eq_true rfl) dX3_close_135 (fun H locs hP hD hS => ?_)
              have hP : va_P D vwCl (wM h k tx sz im cm nw ((nd + 1), (upd kd nd 1), pa1, (va_up be nd none), (va_up af nd none), (va_up (va_up mi nd (nkM 1)) nd a9), np, lf, nm, d, la, so, ro)) H := hP
              have hD : va_D A (wM h k tx sz im cm nw ((nd + 1), (upd kd nd 1), pa1, (va_up be nd none), (va_up af nd none), (va_up (va_up mi nd (nkM 1)) nd a9), np, lf, nm, d, la, so, ro)) := hD
              refine lv_iload_n hx hb dX3_close_138 rfl (lv_at hl 3 rfl) ?_
              have e_k : clK (so d) = 1 := by rw [clK, if_pos c_13]
              have e_c : clL (va_up be nd none) (va_up mi nd (nkM 1)) nd 701 (la d) (va_up pa nd none) true false = (pa1, a9, b9) := by rw [← hk]; rfl
              have e_t : t_close (nd, kd, pa, be, af, mi, np, lf, nm, d + 1, la, so, ro) d = ((nd + 1), (upd kd nd 1), pa1, (va_up be nd none), (va_up af nd none), (va_up (va_up mi nd (nkM 1)) nd a9), np, lf, nm, d, la, so, ro) := by
                simp only [t_close, e_k]
                rw [e_c]
                simp only [if_neg c_119]
              exact ct_endi hx hb hr hlocks rfl hP hD hS (by rw [e_t]) rfl dX3_close_139
            · have c_119 : ((upd kd nd 1) nd) = 1 := c_119
              refine lv_iload_n hx hb dX3_close_122 rfl (lv_at hl 1 rfl) ?_
              refine lv_goto (tgt := 127) hx hb dX3_close_123 (by decide) ?_
              refine wx_zastB (x := b9) (g := (va_up mi nd (nkM 1))) hx hb hK hP hD hS 6 5 rfl rfl (i := nd) hnd (by decide) dX3_close_127 (fun H locs hP hD hS => ?_)
              have hP : va_P D vwCl (wM h k tx sz im cm nw ((nd + 1), (upd kd nd 1), pa1, (va_up be nd none), (va_up af nd none), (va_up (va_up mi nd (nkM 1)) nd b9), np, lf, nm, (d + 1), la, so, ro)) H := hP
              have hD : va_D A (wM h k tx sz im cm nw ((nd + 1), (upd kd nd 1), pa1, (va_up be nd none), (va_up af nd none), (va_up (va_up mi nd (nkM 1)) nd b9), np, lf, nm, (d + 1), la, so, ro)) := hD
              refine lv_aload_n hx hb dX3_close_128 rfl (lv_at hl 4 rfl) ?_
              refine lv_aload_n hx hb dX3_close_129 rfl (lv_at hl 4 rfl) ?_
              refine va_get (D := D) (ci := 3) (v := .int (nI (d + 1))) (C := RX3) (T := TX3) (N := 18) hx hb hts (fun w h => lw_in w (inX3 w h)) hown hK hP 0 rfl rfl 12 (by decide) (hts _ (lw_in _ t_300)) (fun _ h9 => h9) rfl dX3_close_130 ?_
              refine lv_iconst (v := 1) hx hb dX3_close_133 (by decide) ?_
              refine lv_isub hx hb dX3_close_134 ?_
              refine lv_eqi (show (nI (d + 1) - 1) = nI d from nI_pred _) ?_
              refine va_put (D := D) (ci := 3) (v := .int (nI d)) (ty := .int) (C := RX3) (T := TX3) (N := 18) hx hb hts (fun w h => lw_in w (inX3 w h)) tyX3 tyX3_ok nmX3 hown hK hP hD hS 0 rfl rfl 12 (by decide) (hts _ (lw_in _ t_300)) (fun _ h9 => h9) rfl (by decide +kernel) rfl rfl (Nat.le_of_ble_eq_true rfl) dX3_close_135 (fun H locs hP hD hS => ?_)
              have hP : va_P D vwCl (wM h k tx sz im cm nw ((nd + 1), (upd kd nd 1), pa1, (va_up be nd none), (va_up af nd none), (va_up (va_up mi nd (nkM 1)) nd b9), np, lf, nm, d, la, so, ro)) H := hP
              have hD : va_D A (wM h k tx sz im cm nw ((nd + 1), (upd kd nd 1), pa1, (va_up be nd none), (va_up af nd none), (va_up (va_up mi nd (nkM 1)) nd b9), np, lf, nm, d, la, so, ro)) := hD
              refine lv_iload_n hx hb dX3_close_138 rfl (lv_at hl 3 rfl) ?_
              have e_k : clK (so d) = 1 := by rw [clK, if_pos c_13]
              have e_c : clL (va_up be nd none) (va_up mi nd (nkM 1)) nd 701 (la d) (va_up pa nd none) true false = (pa1, a9, b9) := by rw [← hk]; rfl
              have e_t : t_close (nd, kd, pa, be, af, mi, np, lf, nm, d + 1, la, so, ro) d = ((nd + 1), (upd kd nd 1), pa1, (va_up be nd none), (va_up af nd none), (va_up (va_up mi nd (nkM 1)) nd b9), np, lf, nm, d, la, so, ro) := by
                simp only [t_close, e_k]
                rw [e_c]
                simp only [if_pos c_119]
              exact ct_endi hx hb hr hlocks rfl hP hD hS (by rw [e_t]) rfl dX3_close_139
          · exact absurd (by decide) c_44
        · have hl : lv_has ls 5 [(4, .int (nI w0)), (3, .int (bI b9)), (2, .int (bI a9)), (1, .int (nI nd)), (0, .ref (h 0))] := hl
          have hz := ho w0 rfl
          refine lv_iload hx hb dX3_close_42 (lv_at hl 0 rfl) ?_
          refine lv_if_lt (tgt := 107) hx hb dX3_close_44 (by decide) (fun c_44 => ?_) (fun c_44 => ?_)
          · have c_44 : w0 < 0 := (nI_ltI (a := w0) (b := 0) (by omega) (by omega)).mp c_44
            exact absurd c_44 (Nat.not_lt_zero _)
          · have c_44 : 0 ≤ w0 := Nat.le_of_not_lt (fun z => c_44 ((nI_ltI (a := w0) (b := 0) (by omega) (by omega)).mpr z))
            refine lv_aload_n hx hb dX3_close_47 rfl (lv_at hl 4 rfl) ?_
            refine va_get (D := D) (ci := 3) (v := .ref (h 3)) (C := RX3) (T := TX3) (N := 18) hx hb hts (fun w h => lw_in w (inX3 w h)) hown hK hP 0 rfl rfl 4 (by decide) (hts _ (lw_in _ t_292)) (fun _ h9 => h9) rfl dX3_close_48 ?_
            refine lv_iload hx hb dX3_close_51 (lv_at hl 0 rfl) ?_
            refine lv_iload_n hx hb dX3_close_53 rfl (lv_at hl 3 rfl) ?_
            refine wx_past (x := some nd) (g := pa1) hx hb hK hP hD hS 3 2 rfl rfl (i := w0) (by omega) (by decide) dX3_close_54 (fun H locs hP hD hS => ?_)
            have hP : va_P D vwCl (wM h k tx sz im cm nw ((nd + 1), (upd kd nd 1), (va_up pa1 w0 (some nd)), (va_up be nd none), (va_up af nd none), (va_up mi nd (nkM 1)), np, lf, nm, (d + 1), la, so, ro)) H := hP
            have hD : va_D A (wM h k tx sz im cm nw ((nd + 1), (upd kd nd 1), (va_up pa1 w0 (some nd)), (va_up be nd none), (va_up af nd none), (va_up mi nd (nkM 1)), np, lf, nm, (d + 1), la, so, ro)) := hD
            refine lv_iload_n hx hb dX3_close_55 rfl (lv_at hl 2 rfl) ?_
            refine lv_if_eq (tgt := 73) hx hb dX3_close_56 (by decide) (fun c_56 => ?_) (fun c_56 => ?_)
            · have c_56 : a9 = false := (bI_eq0 _).mp c_56
              refine lv_iconst (v := 0) hx hb dX3_close_73 (by decide) ?_
              refine lv_istore_n (lv' := [(2, .int 0), (4, .int (nI w0)), (3, .int (bI b9)), (1, .int (nI nd)), (0, .ref (h 0))]) hx hb dX3_close_74 rfl hl (by decide) rfl (fun ls hl => ?_)
              refine lv_iload_n hx hb dX3_close_75 rfl (lv_at hl 2 rfl) ?_
              refine lv_if_ne (tgt := 89) hx hb dX3_close_76 (by decide) (fun c_76 => ?_) (fun c_76 => ?_)
              · have c_76 : b9 = true := (bI_ne0 _).mp c_76
                refine lv_iconst (v := 1) hx hb dX3_close_89 (by decide) ?_
                refine lv_goto (tgt := 94) hx hb dX3_close_90 (by decide) ?_
                refine lv_istore_n (lv' := [(3, .int 1), (2, .int 0), (4, .int (nI w0)), (1, .int (nI nd)), (0, .ref (h 0))]) hx hb dX3_close_94 rfl hl (by decide) rfl (fun ls hl => ?_)
                refine lv_aload_n hx hb dX3_close_95 rfl (lv_at hl 4 rfl) ?_
                refine va_get (D := D) (ci := 3) (v := .ref (h 4)) (C := RX3) (T := TX3) (N := 18) hx hb hts (fun w h => lw_in w (inX3 w h)) hown hK hP 0 rfl rfl 5 (by decide) (hts _ (lw_in _ t_293)) (fun _ h9 => h9) rfl dX3_close_96 ?_
                refine lv_iload hx hb dX3_close_99 (lv_at hl 2 rfl) ?_
                refine wx_pald hx hb hK hP 4 3 rfl rfl (i := w0) (by omega) (by decide) dX3_close_101 ?_
                refine lv_istore (lv' := [(4, .int (pI ((va_up be nd none) w0))), (3, .int 1), (2, .int 0), (1, .int (nI nd)), (0, .ref (h 0))]) hx hb dX3_close_102 hl (by decide) rfl (fun ls hl => ?_)
                refine lv_goto (tgt := 42) hx hb dX3_close_104 (by decide) ?_
                exact ih2 ((va_up be nd none) w0) (va_up pa1 w0 (some nd)) false true (fun y hy => by rw [va_up_ne _ _ (by omega)] at hy; have := hbe w0 y hz.2 hy; omega) (by rw [← hk, clL]; simp [c_56, c_76]) _ _ hP hD hS _ (lv_sub hl [0, 1, 2, 3, 4] rfl)
              · have c_76 : b9 = false := (bI_eq0 _).mp c_76
                refine lv_aload_n hx hb dX3_close_79 rfl (lv_at hl 4 rfl) ?_
                refine va_get (D := D) (ci := 3) (v := .ref (h 6)) (C := RX3) (T := TX3) (N := 18) hx hb hts (fun w h => lw_in w (inX3 w h)) hown hK hP 0 rfl rfl 7 (by decide) (hts _ (lw_in _ t_295)) (fun _ h9 => h9) rfl dX3_close_80 ?_
                refine lv_iload hx hb dX3_close_83 (lv_at hl 1 rfl) ?_
                refine wx_zald hx hb hK hP 6 5 rfl rfl (i := w0) (by omega) (by decide) dX3_close_85 ?_
                refine lv_if_eq (tgt := 93) hx hb dX3_close_86 (by decide) (fun c_86 => ?_) (fun c_86 => ?_)
                · have c_86 : ((va_up mi nd (nkM 1)) w0) = false := (bI_eq0 _).mp c_86
                  refine lv_iconst (v := 0) hx hb dX3_close_93 (by decide) ?_
                  refine lv_istore_n (lv' := [(3, .int 0), (2, .int 0), (4, .int (nI w0)), (1, .int (nI nd)), (0, .ref (h 0))]) hx hb dX3_close_94 rfl hl (by decide) rfl (fun ls hl => ?_)
                  refine lv_aload_n hx hb dX3_close_95 rfl (lv_at hl 4 rfl) ?_
                  refine va_get (D := D) (ci := 3) (v := .ref (h 4)) (C := RX3) (T := TX3) (N := 18) hx hb hts (fun w h => lw_in w (inX3 w h)) hown hK hP 0 rfl rfl 5 (by decide) (hts _ (lw_in _ t_293)) (fun _ h9 => h9) rfl dX3_close_96 ?_
                  refine lv_iload hx hb dX3_close_99 (lv_at hl 2 rfl) ?_
                  refine wx_pald hx hb hK hP 4 3 rfl rfl (i := w0) (by omega) (by decide) dX3_close_101 ?_
                  refine lv_istore (lv' := [(4, .int (pI ((va_up be nd none) w0))), (3, .int 0), (2, .int 0), (1, .int (nI nd)), (0, .ref (h 0))]) hx hb dX3_close_102 hl (by decide) rfl (fun ls hl => ?_)
                  refine lv_goto (tgt := 42) hx hb dX3_close_104 (by decide) ?_
                  exact ih2 ((va_up be nd none) w0) (va_up pa1 w0 (some nd)) false false (fun y hy => by rw [va_up_ne _ _ (by omega)] at hy; have := hbe w0 y hz.2 hy; omega) (by rw [← hk, clL]; simp [c_56, c_76, c_86]) _ _ hP hD hS _ (lv_sub hl [0, 1, 2, 3, 4] rfl)
                · have c_86 : ((va_up mi nd (nkM 1)) w0) = true := (bI_ne0 _).mp c_86
                  refine lv_iconst (v := 1) hx hb dX3_close_89 (by decide) ?_
                  refine lv_goto (tgt := 94) hx hb dX3_close_90 (by decide) ?_
                  refine lv_istore_n (lv' := [(3, .int 1), (2, .int 0), (4, .int (nI w0)), (1, .int (nI nd)), (0, .ref (h 0))]) hx hb dX3_close_94 rfl hl (by decide) rfl (fun ls hl => ?_)
                  refine lv_aload_n hx hb dX3_close_95 rfl (lv_at hl 4 rfl) ?_
                  refine va_get (D := D) (ci := 3) (v := .ref (h 4)) (C := RX3) (T := TX3) (N := 18) hx hb hts (fun w h => lw_in w (inX3 w h)) hown hK hP 0 rfl rfl 5 (by decide) (hts _ (lw_in _ t_293)) (fun _ h9 => h9) rfl dX3_close_96 ?_
                  refine lv_iload hx hb dX3_close_99 (lv_at hl 2 rfl) ?_
                  refine wx_pald hx hb hK hP 4 3 rfl rfl (i := w0) (by omega) (by decide) dX3_close_101 ?_
                  refine lv_istore (lv' := [(4, .int (pI ((va_up be nd none) w0))), (3, .int 1), (2, .int 0), (1, .int (nI nd)), (0, .ref (h 0))]) hx hb dX3_close_102 hl (by decide) rfl (fun ls hl => ?_)
                  refine lv_goto (tgt := 42) hx hb dX3_close_104 (by decide) ?_
                  exact ih2 ((va_up be nd none) w0) (va_up pa1 w0 (some nd)) false true (fun y hy => by rw [va_up_ne _ _ (by omega)] at hy; have := hbe w0 y hz.2 hy; omega) (by rw [← hk, clL]; simp [c_56, c_76, c_86]) _ _ hP hD hS _ (lv_sub hl [0, 1, 2, 3, 4] rfl)
            · have c_56 : a9 = true := (bI_ne0 _).mp c_56
              refine lv_aload_n hx hb dX3_close_59 rfl (lv_at hl 4 rfl) ?_
              refine va_get (D := D) (ci := 3) (v := .ref (h 6)) (C := RX3) (T := TX3) (N := 18) hx hb hts (fun w h => lw_in w (inX3 w h)) hown hK hP 0 rfl rfl 7 (by decide) (hts _ (lw_in _ t_295)) (fun _ h9 => h9) rfl dX3_close_60 ?_
              refine lv_iload hx hb dX3_close_63 (lv_at hl 0 rfl) ?_
              refine wx_zald hx hb hK hP 6 5 rfl rfl (i := w0) (by omega) (by decide) dX3_close_65 ?_
              refine lv_if_eq (tgt := 73) hx hb dX3_close_66 (by decide) (fun c_66 => ?_) (fun c_66 => ?_)
              · have c_66 : ((va_up mi nd (nkM 1)) w0) = false := (bI_eq0 _).mp c_66
                refine lv_iconst (v := 0) hx hb dX3_close_73 (by decide) ?_
                refine lv_istore_n (lv' := [(2, .int 0), (4, .int (nI w0)), (3, .int (bI b9)), (1, .int (nI nd)), (0, .ref (h 0))]) hx hb dX3_close_74 rfl hl (by decide) rfl (fun ls hl => ?_)
                refine lv_iload_n hx hb dX3_close_75 rfl (lv_at hl 2 rfl) ?_
                refine lv_if_ne (tgt := 89) hx hb dX3_close_76 (by decide) (fun c_76 => ?_) (fun c_76 => ?_)
                · have c_76 : b9 = true := (bI_ne0 _).mp c_76
                  refine lv_iconst (v := 1) hx hb dX3_close_89 (by decide) ?_
                  refine lv_goto (tgt := 94) hx hb dX3_close_90 (by decide) ?_
                  refine lv_istore_n (lv' := [(3, .int 1), (2, .int 0), (4, .int (nI w0)), (1, .int (nI nd)), (0, .ref (h 0))]) hx hb dX3_close_94 rfl hl (by decide) rfl (fun ls hl => ?_)
                  refine lv_aload_n hx hb dX3_close_95 rfl (lv_at hl 4 rfl) ?_
                  refine va_get (D := D) (ci := 3) (v := .ref (h 4)) (C := RX3) (T := TX3) (N := 18) hx hb hts (fun w h => lw_in w (inX3 w h)) hown hK hP 0 rfl rfl 5 (by decide) (hts _ (lw_in _ t_293)) (fun _ h9 => h9) rfl dX3_close_96 ?_
                  refine lv_iload hx hb dX3_close_99 (lv_at hl 2 rfl) ?_
                  refine wx_pald hx hb hK hP 4 3 rfl rfl (i := w0) (by omega) (by decide) dX3_close_101 ?_
                  refine lv_istore (lv' := [(4, .int (pI ((va_up be nd none) w0))), (3, .int 1), (2, .int 0), (1, .int (nI nd)), (0, .ref (h 0))]) hx hb dX3_close_102 hl (by decide) rfl (fun ls hl => ?_)
                  refine lv_goto (tgt := 42) hx hb dX3_close_104 (by decide) ?_
                  exact ih2 ((va_up be nd none) w0) (va_up pa1 w0 (some nd)) false true (fun y hy => by rw [va_up_ne _ _ (by omega)] at hy; have := hbe w0 y hz.2 hy; omega) (by rw [← hk, clL]; simp [c_56, c_66, c_76]) _ _ hP hD hS _ (lv_sub hl [0, 1, 2, 3, 4] rfl)
                · have c_76 : b9 = false := (bI_eq0 _).mp c_76
                  refine lv_aload_n hx hb dX3_close_79 rfl (lv_at hl 4 rfl) ?_
                  refine va_get (D := D) (ci := 3) (v := .ref (h 6)) (C := RX3) (T := TX3) (N := 18) hx hb hts (fun w h => lw_in w (inX3 w h)) hown hK hP 0 rfl rfl 7 (by decide) (hts _ (lw_in _ t_295)) (fun _ h9 => h9) rfl dX3_close_80 ?_
                  refine lv_iload hx hb dX3_close_83 (lv_at hl 1 rfl) ?_
                  refine wx_zald hx hb hK hP 6 5 rfl rfl (i := w0) (by omega) (by decide) dX3_close_85 ?_
                  refine lv_if_eq (tgt := 93) hx hb dX3_close_86 (by decide) (fun c_86 => ?_) (fun c_86 => ?_)
                  · have c_86 : ((va_up mi nd (nkM 1)) w0) = false := (bI_eq0 _).mp c_86
                    refine lv_iconst (v := 0) hx hb dX3_close_93 (by decide) ?_
                    refine lv_istore_n (lv' := [(3, .int 0), (2, .int 0), (4, .int (nI w0)), (1, .int (nI nd)), (0, .ref (h 0))]) hx hb dX3_close_94 rfl hl (by decide) rfl (fun ls hl => ?_)
                    refine lv_aload_n hx hb dX3_close_95 rfl (lv_at hl 4 rfl) ?_
                    refine va_get (D := D) (ci := 3) (v := .ref (h 4)) (C := RX3) (T := TX3) (N := 18) hx hb hts (fun w h => lw_in w (inX3 w h)) hown hK hP 0 rfl rfl 5 (by decide) (hts _ (lw_in _ t_293)) (fun _ h9 => h9) rfl dX3_close_96 ?_
                    refine lv_iload hx hb dX3_close_99 (lv_at hl 2 rfl) ?_
                    refine wx_pald hx hb hK hP 4 3 rfl rfl (i := w0) (by omega) (by decide) dX3_close_101 ?_
                    refine lv_istore (lv' := [(4, .int (pI ((va_up be nd none) w0))), (3, .int 0), (2, .int 0), (1, .int (nI nd)), (0, .ref (h 0))]) hx hb dX3_close_102 hl (by decide) rfl (fun ls hl => ?_)
                    refine lv_goto (tgt := 42) hx hb dX3_close_104 (by decide) ?_
                    exact ih2 ((va_up be nd none) w0) (va_up pa1 w0 (some nd)) false false (fun y hy => by rw [va_up_ne _ _ (by omega)] at hy; have := hbe w0 y hz.2 hy; omega) (by rw [← hk, clL]; simp [c_56, c_66, c_76, c_86]) _ _ hP hD hS _ (lv_sub hl [0, 1, 2, 3, 4] rfl)
                  · have c_86 : ((va_up mi nd (nkM 1)) w0) = true := (bI_ne0 _).mp c_86
                    exact absurd (c_66.symm.trans c_86) (by decide)
              · have c_66 : ((va_up mi nd (nkM 1)) w0) = true := (bI_ne0 _).mp c_66
                refine lv_iconst (v := 1) hx hb dX3_close_69 (by decide) ?_
                refine lv_goto (tgt := 74) hx hb dX3_close_70 (by decide) ?_
                refine lv_istore_n (lv' := [(2, .int 1), (4, .int (nI w0)), (3, .int (bI b9)), (1, .int (nI nd)), (0, .ref (h 0))]) hx hb dX3_close_74 rfl hl (by decide) rfl (fun ls hl => ?_)
                refine lv_iload_n hx hb dX3_close_75 rfl (lv_at hl 2 rfl) ?_
                refine lv_if_ne (tgt := 89) hx hb dX3_close_76 (by decide) (fun c_76 => ?_) (fun c_76 => ?_)
                · have c_76 : b9 = true := (bI_ne0 _).mp c_76
                  refine lv_iconst (v := 1) hx hb dX3_close_89 (by decide) ?_
                  refine lv_goto (tgt := 94) hx hb dX3_close_90 (by decide) ?_
                  refine lv_istore_n (lv' := [(3, .int 1), (2, .int 1), (4, .int (nI w0)), (1, .int (nI nd)), (0, .ref (h 0))]) hx hb dX3_close_94 rfl hl (by decide) rfl (fun ls hl => ?_)
                  refine lv_aload_n hx hb dX3_close_95 rfl (lv_at hl 4 rfl) ?_
                  refine va_get (D := D) (ci := 3) (v := .ref (h 4)) (C := RX3) (T := TX3) (N := 18) hx hb hts (fun w h => lw_in w (inX3 w h)) hown hK hP 0 rfl rfl 5 (by decide) (hts _ (lw_in _ t_293)) (fun _ h9 => h9) rfl dX3_close_96 ?_
                  refine lv_iload hx hb dX3_close_99 (lv_at hl 2 rfl) ?_
                  refine wx_pald hx hb hK hP 4 3 rfl rfl (i := w0) (by omega) (by decide) dX3_close_101 ?_
                  refine lv_istore (lv' := [(4, .int (pI ((va_up be nd none) w0))), (3, .int 1), (2, .int 1), (1, .int (nI nd)), (0, .ref (h 0))]) hx hb dX3_close_102 hl (by decide) rfl (fun ls hl => ?_)
                  refine lv_goto (tgt := 42) hx hb dX3_close_104 (by decide) ?_
                  exact ih2 ((va_up be nd none) w0) (va_up pa1 w0 (some nd)) true true (fun y hy => by rw [va_up_ne _ _ (by omega)] at hy; have := hbe w0 y hz.2 hy; omega) (by rw [← hk, clL]; simp [c_56, c_66, c_76]) _ _ hP hD hS _ (lv_sub hl [0, 1, 2, 3, 4] rfl)
                · have c_76 : b9 = false := (bI_eq0 _).mp c_76
                  refine lv_aload_n hx hb dX3_close_79 rfl (lv_at hl 4 rfl) ?_
                  refine va_get (D := D) (ci := 3) (v := .ref (h 6)) (C := RX3) (T := TX3) (N := 18) hx hb hts (fun w h => lw_in w (inX3 w h)) hown hK hP 0 rfl rfl 7 (by decide) (hts _ (lw_in _ t_295)) (fun _ h9 => h9) rfl dX3_close_80 ?_
                  refine lv_iload hx hb dX3_close_83 (lv_at hl 1 rfl) ?_
                  refine wx_zald hx hb hK hP 6 5 rfl rfl (i := w0) (by omega) (by decide) dX3_close_85 ?_
                  refine lv_if_eq (tgt := 93) hx hb dX3_close_86 (by decide) (fun c_86 => ?_) (fun c_86 => ?_)
                  · have c_86 : ((va_up mi nd (nkM 1)) w0) = false := (bI_eq0 _).mp c_86
                    exact absurd (c_66.symm.trans c_86) (by decide)
                  · have c_86 : ((va_up mi nd (nkM 1)) w0) = true := (bI_ne0 _).mp c_86
                    refine lv_iconst (v := 1) hx hb dX3_close_89 (by decide) ?_
                    refine lv_goto (tgt := 94) hx hb dX3_close_90 (by decide) ?_
                    refine lv_istore_n (lv' := [(3, .int 1), (2, .int 1), (4, .int (nI w0)), (1, .int (nI nd)), (0, .ref (h 0))]) hx hb dX3_close_94 rfl hl (by decide) rfl (fun ls hl => ?_)
                    refine lv_aload_n hx hb dX3_close_95 rfl (lv_at hl 4 rfl) ?_
                    refine va_get (D := D) (ci := 3) (v := .ref (h 4)) (C := RX3) (T := TX3) (N := 18) hx hb hts (fun w h => lw_in w (inX3 w h)) hown hK hP 0 rfl rfl 5 (by decide) (hts _ (lw_in _ t_293)) (fun _ h9 => h9) rfl dX3_close_96 ?_
                    refine lv_iload hx hb dX3_close_99 (lv_at hl 2 rfl) ?_
                    refine wx_pald hx hb hK hP 4 3 rfl rfl (i := w0) (by omega) (by decide) dX3_close_101 ?_
                    refine lv_istore (lv' := [(4, .int (pI ((va_up be nd none) w0))), (3, .int 1), (2, .int 1), (1, .int (nI nd)), (0, .ref (h 0))]) hx hb dX3_close_102 hl (by decide) rfl (fun ls hl => ?_)
                    refine lv_goto (tgt := 42) hx hb dX3_close_104 (by decide) ?_
                    exact ih2 ((va_up be nd none) w0) (va_up pa1 w0 (some nd)) true true (fun y hy => by rw [va_up_ne _ _ (by omega)] at hy; have := hbe w0 y hz.2 hy; omega) (by rw [← hk, clL]; simp [c_56, c_66, c_76, c_86]) _ _ hP hD hS _ (lv_sub hl [0, 1, 2, 3, 4] rfl)
    exact loop2 701 (la d) (va_up pa nd none) true false (fun y hy => by have := hla y hy; omega) rfl _ _ hP hD hS _ (lv_sub hl [0, 1, 2, 3, 4] rfl)
end
