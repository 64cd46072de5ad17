/-! NAMES: classes, fields, methods, words by their places in the tables (laid by program) -/
def tbG : List Cond := lw_tbl.filter goodWord
def RX0 : String := "ModelDesk$Model"
def TX0 : u_T := fun k => match k with
  | 0 => ("ModelDesk$Model", "names", "[I", true)
  | 1 => ("ModelDesk$Model", "nexts", "[J", true)
  | 2 => ("ModelDesk$Model", "places", "I", false)
  | 3 => ("ModelDesk$Model", "firsts", "J", false)
  | 4 => ("ModelDesk$Model", "lasts", "J", false)
  | _ => ("ModelDesk$Model", "empty", "Z", false)
def tyX0 : Nat → FieldType := fun k => match k with
  | 0 => .array .int
  | 1 => .array .long
  | 2 => .int
  | 3 => .long
  | 4 => .long
  | _ => .boolean
theorem nmX0 : ∀ a, a < 6 → ∀ b, b < 6 → a ≠ b → (TX0 a).2.1 ≠ (TX0 b).2.1 := by decide +kernel
theorem tyX0_ok : ∀ k, k < 6 → parseFieldDescriptor (TX0 k).2.2.1 = some (tyX0 k) := by decide +kernel
def RX1 : String := "ModelDesk$Reader"
def TX1 : u_T := fun k => match k with
  | 0 => ("ModelDesk$Reader", "model", "LModelDesk$Model;", true)
  | 1 => ("ModelDesk$Reader", "openFirsts", "[J", true)
  | 2 => ("ModelDesk$Reader", "openLasts", "[J", true)
  | 3 => ("ModelDesk$Reader", "openEmpty", "[Z", true)
  | 4 => ("ModelDesk$Reader", "separators", "[I", true)
  | 5 => ("ModelDesk$Reader", "depth", "I", false)
  | 6 => ("ModelDesk$Reader", "state", "I", false)
  | 7 => ("ModelDesk$Reader", "partFirsts", "J", false)
  | 8 => ("ModelDesk$Reader", "partLasts", "J", false)
  | _ => ("ModelDesk$Reader", "partEmpty", "Z", false)
def tyX1 : Nat → FieldType := fun k => match k with
  | 0 => .object "ModelDesk$Model"
  | 1 => .array .long
  | 2 => .array .long
  | 3 => .array .boolean
  | 4 => .array .int
  | 5 => .int
  | 6 => .int
  | 7 => .long
  | 8 => .long
  | _ => .boolean
theorem nmX1 : ∀ a, a < 10 → ∀ b, b < 10 → a ≠ b → (TX1 a).2.1 ≠ (TX1 b).2.1 := by decide +kernel
theorem tyX1_ok : ∀ k, k < 10 → parseFieldDescriptor (TX1 k).2.2.1 = some (tyX1 k) := by decide +kernel
def RX2 : String := "ModelDesk"
def TX2 : u_T := fun k => match k with
  | 0 => ("ModelDesk", "text", "[B", true)
  | 1 => ("ModelDesk", "length", "I", false)
  | 2 => ("ModelDesk", "reader", "LModelDesk$Reader;", true)
  | 3 => ("ModelDesk", "model", "LModelDesk$Model;", true)
  | 4 => ("ModelDesk", "ready", "J", false)
  | 5 => ("ModelDesk", "whole", "Z", false)
  | _ => ("ModelDesk", "came", "I", false)
def tyX2 : Nat → FieldType := fun k => match k with
  | 0 => .array .byte
  | 1 => .int
  | 2 => .object "ModelDesk$Reader"
  | 3 => .object "ModelDesk$Model"
  | 4 => .long
  | 5 => .boolean
  | _ => .int
theorem nmX2 : ∀ a, a < 7 → ∀ b, b < 7 → a ≠ b → (TX2 a).2.1 ≠ (TX2 b).2.1 := by decide +kernel
theorem tyX2_ok : ∀ k, k < 7 → parseFieldDescriptor (TX2 k).2.2.1 = some (tyX2 k) := by decide +kernel
def RX3 : String := "ModelDeskModel"
def TX3 : u_T := fun k => match k with
  | 0 => ("ModelDeskModel", "text", "[I", true)
  | 1 => ("ModelDeskModel", "size", "I", false)
  | 2 => ("ModelDeskModel", "nodes", "I", false)
  | 3 => ("ModelDeskModel", "kinds", "[I", true)
  | 4 => ("ModelDeskModel", "parents", "[I", true)
  | 5 => ("ModelDeskModel", "before", "[I", true)
  | 6 => ("ModelDeskModel", "after", "[I", true)
  | 7 => ("ModelDeskModel", "missing", "[Z", true)
  | 8 => ("ModelDeskModel", "places", "I", false)
  | 9 => ("ModelDeskModel", "leaf", "[I", true)
  | 10 => ("ModelDeskModel", "names", "[I", true)
  | 11 => ("ModelDeskModel", "isModel", "Z", false)
  | 12 => ("ModelDeskModel", "depth", "I", false)
  | 13 => ("ModelDeskModel", "lasts", "[I", true)
  | 14 => ("ModelDeskModel", "sorts", "[I", true)
  | 15 => ("ModelDeskModel", "root", "I", false)
  | 16 => ("ModelDeskModel", "came", "I", false)
  | _ => ("ModelDeskModel", "now", "J", false)
def tyX3 : Nat → FieldType := fun k => match k with
  | 0 => .array .int
  | 1 => .int
  | 2 => .int
  | 3 => .array .int
  | 4 => .array .int
  | 5 => .array .int
  | 6 => .array .int
  | 7 => .array .boolean
  | 8 => .int
  | 9 => .array .int
  | 10 => .array .int
  | 11 => .boolean
  | 12 => .int
  | 13 => .array .int
  | 14 => .array .int
  | 15 => .int
  | 16 => .int
  | _ => .long
theorem nmX3 : ∀ a, a < 18 → ∀ b, b < 18 → a ≠ b → (TX3 a).2.1 ≠ (TX3 b).2.1 := by decide +kernel
theorem tyX3_ok : ∀ k, k < 18 → parseFieldDescriptor (TX3 k).2.2.1 = some (tyX3 k) := by decide +kernel
abbrev vwCl : List vw_C := [(RX0, TX0, 6), (RX1, TX1, 10), (RX2, TX2, 7), (RX3, TX3, 18)]
abbrev cX0_init : ByteArray := prog_2_method_1_code
def yX0_init : MethodName := ⟨RX0, "<init>", "()V"⟩
abbrev wsX0_init : List Cond := .code yX0_init cX0_init 1 none :: tbG
abbrev cX0_clear : ByteArray := prog_2_method_2_code
def yX0_clear : MethodName := ⟨RX0, "clear", "()V"⟩
abbrev wsX0_clear : List Cond := .code yX0_clear cX0_clear 1 none :: tbG
abbrev cX0_isFull : ByteArray := prog_2_method_3_code
def yX0_isFull : MethodName := ⟨RX0, "isFull", "()Z"⟩
abbrev wsX0_isFull : List Cond := .code yX0_isFull cX0_isFull 1 (some .boolean) :: tbG
abbrev cX0_addPlace : ByteArray := prog_2_method_5_code
def yX0_addPlace : MethodName := ⟨RX0, "addPlace", "(I)V"⟩
abbrev wsX0_addPlace : List Cond := .code yX0_addPlace cX0_addPlace 2 none :: tbG
abbrev cX0_connect : ByteArray := prog_2_method_6_code
def yX0_connect : MethodName := ⟨RX0, "connect", "(JJ)V"⟩
abbrev wsX0_connect : List Cond := .code yX0_connect cX0_connect 6 none :: tbG
abbrev cX0_holds : ByteArray := prog_2_method_12_code
def yX0_holds : MethodName := ⟨RX0, "holds", "(JI)Z"⟩
abbrev wsX0_holds : List Cond := .code yX0_holds cX0_holds 3 (some .boolean) :: tbG
abbrev cX0_competingNames : ByteArray := prog_2_method_10_code
def yX0_competingNames : MethodName := ⟨RX0, "competingNames", "()I"⟩
abbrev wsX0_competingNames : List Cond := .code yX0_competingNames cX0_competingNames 3 (some .int) :: tbG
abbrev cX0_namesTwiceIn : ByteArray := prog_2_method_11_code
def yX0_namesTwiceIn : MethodName := ⟨RX0, "namesTwiceIn", "(J)I"⟩
abbrev wsX0_namesTwiceIn : List Cond := .code yX0_namesTwiceIn cX0_namesTwiceIn 7 (some .int) :: tbG
abbrev cX0_has : ByteArray := prog_2_method_4_code
def yX0_has : MethodName := ⟨RX0, "has", "(I)Z"⟩
abbrev wsX0_has : List Cond := .code yX0_has cX0_has 2 (some .boolean) :: tbG
abbrev cX0_placesNamed : ByteArray := prog_2_method_8_code
def yX0_placesNamed : MethodName := ⟨RX0, "placesNamed", "(IJ)J"⟩
abbrev wsX0_placesNamed : List Cond := .code yX0_placesNamed cX0_placesNamed 7 (some .long) :: tbG
abbrev cX0_nextBehindAny : ByteArray := prog_2_method_7_code
def yX0_nextBehindAny : MethodName := ⟨RX0, "nextBehindAny", "(J)J"⟩
abbrev wsX0_nextBehindAny : List Cond := .code yX0_nextBehindAny cX0_nextBehindAny 6 (some .long) :: tbG
abbrev cX0_namesOf : ByteArray := prog_2_method_9_code
def yX0_namesOf : MethodName := ⟨RX0, "namesOf", "(J)I"⟩
abbrev wsX0_namesOf : List Cond := .code yX0_namesOf cX0_namesOf 5 (some .int) :: tbG
abbrev cX1_init : ByteArray := prog_3_method_1_code
def yX1_init : MethodName := ⟨RX1, "<init>", "()V"⟩
abbrev wsX1_init : List Cond := .code yX1_init cX1_init 1 none :: tbG
abbrev cX1_begin : ByteArray := prog_3_method_2_code
def yX1_begin : MethodName := ⟨RX1, "begin", "()V"⟩
abbrev wsX1_begin : List Cond := .code yX1_begin cX1_begin 1 none :: tbG
abbrev cX1_take : ByteArray := prog_3_method_3_code
def yX1_take : MethodName := ⟨RX1, "take", "(I)I"⟩
abbrev wsX1_take : List Cond := .code yX1_take cX1_take 2 (some .int) :: tbG
abbrev cX1_open : ByteArray := prog_3_method_6_code
def yX1_open : MethodName := ⟨RX1, "open", "()I"⟩
abbrev wsX1_open : List Cond := .code yX1_open cX1_open 1 (some .int) :: tbG
abbrev cX1_takeBeforePart : ByteArray := prog_3_method_5_code
def yX1_takeBeforePart : MethodName := ⟨RX1, "takeBeforePart", "(I)I"⟩
abbrev wsX1_takeBeforePart : List Cond := .code yX1_takeBeforePart cX1_takeBeforePart 2 (some .int) :: tbG
abbrev cX1_takeName : ByteArray := prog_3_method_7_code
def yX1_takeName : MethodName := ⟨RX1, "takeName", "(I)I"⟩
abbrev wsX1_takeName : List Cond := .code yX1_takeName cX1_takeName 2 (some .int) :: tbG
abbrev cX1_isSign : ByteArray := prog_3_method_12_code
def yX1_isSign : MethodName := ⟨RX1, "isSign", "(I)Z"⟩
abbrev wsX1_isSign : List Cond := .code yX1_isSign cX1_isSign 1 (some .boolean) :: tbG
abbrev cX1_takeSign : ByteArray := prog_3_method_8_code
def yX1_takeSign : MethodName := ⟨RX1, "takeSign", "(I)I"⟩
abbrev wsX1_takeSign : List Cond := .code yX1_takeSign cX1_takeSign 2 (some .int) :: tbG
abbrev cX1_close : ByteArray := prog_3_method_10_code
def yX1_close : MethodName := ⟨RX1, "close", "()I"⟩
abbrev wsX1_close : List Cond := .code yX1_close cX1_close 2 (some .int) :: tbG
abbrev cX1_joinPart : ByteArray := prog_3_method_11_code
def yX1_joinPart : MethodName := ⟨RX1, "joinPart", "(I)V"⟩
abbrev wsX1_joinPart : List Cond := .code yX1_joinPart cX1_joinPart 2 none :: tbG
abbrev cX1_takeSeparator : ByteArray := prog_3_method_9_code
def yX1_takeSeparator : MethodName := ⟨RX1, "takeSeparator", "(I)I"⟩
abbrev wsX1_takeSeparator : List Cond := .code yX1_takeSeparator cX1_takeSeparator 3 (some .int) :: tbG
abbrev cX1_finish : ByteArray := prog_3_method_4_code
def yX1_finish : MethodName := ⟨RX1, "finish", "()Z"⟩
abbrev wsX1_finish : List Cond := .code yX1_finish cX1_finish 1 (some .boolean) :: tbG
abbrev cX2_init : ByteArray := prog_1_method_1_code
def yX2_init : MethodName := ⟨RX2, "<init>", "()V"⟩
abbrev wsX2_init : List Cond := .code yX2_init cX2_init 1 none :: tbG
abbrev cX2_put : ByteArray := prog_1_method_2_code
def yX2_put : MethodName := ⟨RX2, "put", "(JI)Z"⟩
abbrev wsX2_put : List Cond := .code yX2_put cX2_put 5 (some .boolean) :: tbG
abbrev cX2_read : ByteArray := prog_1_method_3_code
def yX2_read : MethodName := ⟨RX2, "read", "()I"⟩
abbrev wsX2_read : List Cond := .code yX2_read cX2_read 2 (some .int) :: tbG
abbrev cX2_readText : ByteArray := prog_1_method_15_code
def yX2_readText : MethodName := ⟨RX2, "readText", "()I"⟩
abbrev wsX2_readText : List Cond := .code yX2_readText cX2_readText 3 (some .int) :: tbG
abbrev cX2_startRow : ByteArray := prog_1_method_16_code
def yX2_startRow : MethodName := ⟨RX2, "startRow", "()V"⟩
abbrev wsX2_startRow : List Cond := .code yX2_startRow cX2_startRow 1 none :: tbG
abbrev cX2_isClear : ByteArray := prog_1_method_4_code
def yX2_isClear : MethodName := ⟨RX2, "isClear", "()Z"⟩
abbrev wsX2_isClear : List Cond := .code yX2_isClear cX2_isClear 1 (some .boolean) :: tbG
abbrev cX2_competing : ByteArray := prog_1_method_5_code
def yX2_competing : MethodName := ⟨RX2, "competing", "()I"⟩
abbrev wsX2_competing : List Cond := .code yX2_competing cX2_competing 1 (some .int) :: tbG
abbrev cX2_isEmpty : ByteArray := prog_1_method_6_code
def yX2_isEmpty : MethodName := ⟨RX2, "isEmpty", "()Z"⟩
abbrev wsX2_isEmpty : List Cond := .code yX2_isEmpty cX2_isEmpty 1 (some .boolean) :: tbG
abbrev cX2_first : ByteArray := prog_1_method_7_code
def yX2_first : MethodName := ⟨RX2, "first", "()J"⟩
abbrev wsX2_first : List Cond := .code yX2_first cX2_first 1 (some .long) :: tbG
abbrev cX2_next : ByteArray := prog_1_method_8_code
def yX2_next : MethodName := ⟨RX2, "next", "(I)J"⟩
abbrev wsX2_next : List Cond := .code yX2_next cX2_next 2 (some .long) :: tbG
abbrev cX2_last : ByteArray := prog_1_method_9_code
def yX2_last : MethodName := ⟨RX2, "last", "()J"⟩
abbrev wsX2_last : List Cond := .code yX2_last cX2_last 1 (some .long) :: tbG
abbrev cX2_name : ByteArray := prog_1_method_10_code
def yX2_name : MethodName := ⟨RX2, "name", "(I)I"⟩
abbrev wsX2_name : List Cond := .code yX2_name cX2_name 2 (some .int) :: tbG
abbrev cX2_come : ByteArray := prog_1_method_11_code
def yX2_come : MethodName := ⟨RX2, "come", "(I)Z"⟩
abbrev wsX2_come : List Cond := .code yX2_come cX2_come 4 (some .boolean) :: tbG
abbrev cX2_isWhole : ByteArray := prog_1_method_12_code
def yX2_isWhole : MethodName := ⟨RX2, "isWhole", "()Z"⟩
abbrev wsX2_isWhole : List Cond := .code yX2_isWhole cX2_isWhole 1 (some .boolean) :: tbG
abbrev cX2_may : ByteArray := prog_1_method_13_code
def yX2_may : MethodName := ⟨RX2, "may", "()I"⟩
abbrev wsX2_may : List Cond := .code yX2_may cX2_may 1 (some .int) :: tbG
abbrev cX2_again : ByteArray := prog_1_method_14_code
def yX2_again : MethodName := ⟨RX2, "again", "()I"⟩
abbrev wsX2_again : List Cond := .code yX2_again cX2_again 2 (some .int) :: tbG
abbrev cX3_init : ByteArray := prog_5_method_1_code
def yX3_init : MethodName := ⟨RX3, "<init>", "()V"⟩
abbrev wsX3_init : List Cond := .code yX3_init cX3_init 1 none :: tbG
abbrev cX3_put : ByteArray := prog_5_method_2_code
def yX3_put : MethodName := ⟨RX3, "put", "(JI)Z"⟩
abbrev wsX3_put : List Cond := .code yX3_put cX3_put 5 (some .boolean) :: tbG
abbrev cX3_read : ByteArray := prog_5_method_11_code
def yX3_read : MethodName := ⟨RX3, "read", "()I"⟩
abbrev wsX3_read : List Cond := .code yX3_read cX3_read 2 (some .int) :: tbG
abbrev cX3_parse : ByteArray := prog_5_method_10_code
def yX3_parse : MethodName := ⟨RX3, "parse", "()I"⟩
abbrev wsX3_parse : List Cond := .code yX3_parse cX3_parse 5 (some .int) :: tbG
abbrev cX3_at : ByteArray := prog_5_method_3_code
def yX3_at : MethodName := ⟨RX3, "at", "(I)I"⟩
abbrev wsX3_at : List Cond := .code yX3_at cX3_at 2 (some .int) :: tbG
abbrev cX3_open : ByteArray := prog_5_method_9_code
def yX3_open : MethodName := ⟨RX3, "open", "()Z"⟩
abbrev wsX3_open : List Cond := .code yX3_open cX3_open 1 (some .boolean) :: tbG
abbrev cX3_node : ByteArray := prog_5_method_4_code
def yX3_node : MethodName := ⟨RX3, "node", "(I)I"⟩
abbrev wsX3_node : List Cond := .code yX3_node cX3_node 2 (some .int) :: tbG
abbrev cX3_isSign : ByteArray := prog_5_method_7_code
def yX3_isSign : MethodName := ⟨RX3, "isSign", "(I)Z"⟩
abbrev wsX3_isSign : List Cond := .code yX3_isSign cX3_isSign 1 (some .boolean) :: tbG
abbrev cX3_signed : ByteArray := prog_5_method_6_code
def yX3_signed : MethodName := ⟨RX3, "signed", "(II)I"⟩
abbrev wsX3_signed : List Cond := .code yX3_signed cX3_signed 4 (some .int) :: tbG
abbrev cX3_add : ByteArray := prog_5_method_5_code
def yX3_add : MethodName := ⟨RX3, "add", "(I)V"⟩
abbrev wsX3_add : List Cond := .code yX3_add cX3_add 3 none :: tbG
abbrev cX3_close : ByteArray := prog_5_method_8_code
def yX3_close : MethodName := ⟨RX3, "close", "()I"⟩
abbrev wsX3_close : List Cond := .code yX3_close cX3_close 5 (some .int) :: tbG
abbrev cX3_first : ByteArray := prog_5_method_15_code
def yX3_first : MethodName := ⟨RX3, "first", "()J"⟩
abbrev wsX3_first : List Cond := .code yX3_first cX3_first 1 (some .long) :: tbG
abbrev cX3_firsts : ByteArray := prog_5_method_13_code
def yX3_firsts : MethodName := ⟨RX3, "firsts", "(I)J"⟩
abbrev wsX3_firsts : List Cond := .code yX3_firsts cX3_firsts 5 (some .long) :: tbG
abbrev cX3_begins : ByteArray := prog_5_method_12_code
def yX3_begins : MethodName := ⟨RX3, "begins", "(II)Z"⟩
abbrev wsX3_begins : List Cond := .code yX3_begins cX3_begins 6 (some .boolean) :: tbG
abbrev cX3_next : ByteArray := prog_5_method_16_code
def yX3_next : MethodName := ⟨RX3, "next", "(I)J"⟩
abbrev wsX3_next : List Cond := .code yX3_next cX3_next 7 (some .long) :: tbG
abbrev cX3_last : ByteArray := prog_5_method_17_code
def yX3_last : MethodName := ⟨RX3, "last", "()J"⟩
abbrev wsX3_last : List Cond := .code yX3_last cX3_last 4 (some .long) :: tbG
abbrev cX3_ends : ByteArray := prog_5_method_14_code
def yX3_ends : MethodName := ⟨RX3, "ends", "(I)Z"⟩
abbrev wsX3_ends : List Cond := .code yX3_ends cX3_ends 4 (some .boolean) :: tbG
abbrev cX3_competing : ByteArray := prog_5_method_19_code
def yX3_competing : MethodName := ⟨RX3, "competing", "()I"⟩
abbrev wsX3_competing : List Cond := .code yX3_competing cX3_competing 3 (some .int) :: tbG
abbrev cX3_twice : ByteArray := prog_5_method_18_code
def yX3_twice : MethodName := ⟨RX3, "twice", "(J)I"⟩
abbrev wsX3_twice : List Cond := .code yX3_twice cX3_twice 7 (some .int) :: tbG
abbrev cX3_isClear : ByteArray := prog_5_method_20_code
def yX3_isClear : MethodName := ⟨RX3, "isClear", "()Z"⟩
abbrev wsX3_isClear : List Cond := .code yX3_isClear cX3_isClear 1 (some .boolean) :: tbG
abbrev cX3_isEmpty : ByteArray := prog_5_method_21_code
def yX3_isEmpty : MethodName := ⟨RX3, "isEmpty", "()Z"⟩
abbrev wsX3_isEmpty : List Cond := .code yX3_isEmpty cX3_isEmpty 1 (some .boolean) :: tbG
abbrev cX3_name : ByteArray := prog_5_method_22_code
def yX3_name : MethodName := ⟨RX3, "name", "(I)I"⟩
abbrev wsX3_name : List Cond := .code yX3_name cX3_name 2 (some .int) :: tbG
abbrev cX3_come : ByteArray := prog_5_method_24_code
def yX3_come : MethodName := ⟨RX3, "come", "(I)Z"⟩
abbrev wsX3_come : List Cond := .code yX3_come cX3_come 7 (some .boolean) :: tbG
abbrev cX3_able : ByteArray := prog_5_method_23_code
def yX3_able : MethodName := ⟨RX3, "able", "(J)J"⟩
abbrev wsX3_able : List Cond := .code yX3_able cX3_able 6 (some .long) :: tbG
abbrev cX3_isWhole : ByteArray := prog_5_method_25_code
def yX3_isWhole : MethodName := ⟨RX3, "isWhole", "()Z"⟩
abbrev wsX3_isWhole : List Cond := .code yX3_isWhole cX3_isWhole 1 (some .boolean) :: tbG
abbrev cX3_may : ByteArray := prog_5_method_26_code
def yX3_may : MethodName := ⟨RX3, "may", "()I"⟩
abbrev wsX3_may : List Cond := .code yX3_may cX3_may 5 (some .int) :: tbG
abbrev cX3_again : ByteArray := prog_5_method_27_code
def yX3_again : MethodName := ⟨RX3, "again", "()I"⟩
abbrev wsX3_again : List Cond := .code yX3_again cX3_again 2 (some .int) :: tbG
def RL : String := "ModelDeskLaw"
theorem lw_gd {w : Cond} (h : w ∈ tbG) : (w.onTables && w.keeps) = true ∨ ∃ ty, w = .arrayClass ty := good_of_word (List.mem_filter.mp h).2
theorem lw_in {x : Cond} : ∀ w ∈ tbG, w ∈ x :: tbG := fun _ h => List.mem_cons_of_mem _ h
theorem lw_sub : ∀ w ∈ tbG, w ∈ lw_tbl := fun _ h => (List.mem_filter.mp h).1
theorem gW {big : List Cond} (hb : ∀ w ∈ tbG, w ∈ big) {y : MethodName} {b : ByteArray} {n : Nat} {r : Option FieldType} (h5 : Cond.code y b n r ∈ tbG) : GoodIn big (Cond.code y b n r :: tbG) := fun w hw => by
  have h : w ∈ tbG := by
    rcases List.mem_cons.mp hw with rfl | h
    · exact h5
    · exact h
  exact ⟨hb w h, lw_gd h⟩
theorem gV {big : List Cond} (hb : ∀ w ∈ tbG, w ∈ big) {own C : String} {idx : Nat} {y : MethodName} {b : ByteArray} {n : Nat} {r : Option FieldType} (h1 : Cond.methodLink own idx y ∈ tbG) (h2 : Cond.instanceMethod y ∈ tbG) (h3 : Cond.selects C y y ∈ tbG) (h4 : Cond.initialized C ∈ tbG) (h5 : Cond.code y b n r ∈ tbG) : GoodIn big (wsV own idx C y (Cond.code y b n r :: tbG)) := fun w hw => by
  unfold wsV at hw
  rcases List.mem_append.mp hw with h | h
  · have h : w ∈ tbG := by
      simp only [List.mem_cons, List.not_mem_nil, or_false] at h
      rcases h with rfl | rfl | rfl | rfl
      · exact h1
      · exact h2
      · exact h3
      · exact h4
    exact ⟨hb w h, lw_gd h⟩
  · exact gW hb h5 w h
theorem gS {big : List Cond} (hb : ∀ w ∈ tbG, w ∈ big) {own : String} {idx : Nat} {y : MethodName} {b : ByteArray} {n : Nat} {r : Option FieldType} (h1 : Cond.methodLink own idx y ∈ tbG) (h2 : Cond.static y ∈ tbG) (h3 : Cond.initialized own ∈ tbG) (h5 : Cond.code y b n r ∈ tbG) : GoodIn big (wsS own idx y (Cond.code y b n r :: tbG)) := fun w hw => by
  unfold wsS at hw
  rcases List.mem_append.mp hw with h | h
  · have h : w ∈ tbG := by
      simp only [List.mem_cons, List.not_mem_nil, or_false] at h
      rcases h with rfl | rfl | rfl
      · exact h1
      · exact h2
      · exact h3
    exact ⟨hb w h, lw_gd h⟩
  · exact gW hb h5 w h
theorem t_0 : (Jvm.Cond.selects "ModelDesk" ({ cls := "ModelDesk", name := "readText", desc := "()I" } : Jvm.MethodName) ({ cls := "ModelDesk", name := "readText", desc := "()I" } : Jvm.MethodName)) ∈ tbG := List.mem_filter.mpr ⟨List.mem_of_getElem? (i := 0) (by decide +kernel), by decide +kernel⟩
theorem t_1 : (Jvm.Cond.selects "ModelDesk$Reader" ({ cls := "ModelDesk$Reader", name := "open", desc := "()I" } : Jvm.MethodName) ({ cls := "ModelDesk$Reader", name := "open", desc := "()I" } : Jvm.MethodName)) ∈ tbG := List.mem_filter.mpr ⟨List.mem_of_getElem? (i := 1) (by decide +kernel), by decide +kernel⟩
theorem t_2 : (Jvm.Cond.selects "ModelDesk$Reader" ({ cls := "ModelDesk$Reader", name := "takeBeforePart", desc := "(I)I" } : Jvm.MethodName) ({ cls := "ModelDesk$Reader", name := "takeBeforePart", desc := "(I)I" } : Jvm.MethodName)) ∈ tbG := List.mem_filter.mpr ⟨List.mem_of_getElem? (i := 2) (by decide +kernel), by decide +kernel⟩
theorem t_3 : (Jvm.Cond.selects "ModelDesk$Reader" ({ cls := "ModelDesk$Reader", name := "takeName", desc := "(I)I" } : Jvm.MethodName) ({ cls := "ModelDesk$Reader", name := "takeName", desc := "(I)I" } : Jvm.MethodName)) ∈ tbG := List.mem_filter.mpr ⟨List.mem_of_getElem? (i := 3) (by decide +kernel), by decide +kernel⟩
theorem t_4 : (Jvm.Cond.selects "ModelDesk$Reader" ({ cls := "ModelDesk$Reader", name := "takeSign", desc := "(I)I" } : Jvm.MethodName) ({ cls := "ModelDesk$Reader", name := "takeSign", desc := "(I)I" } : Jvm.MethodName)) ∈ tbG := List.mem_filter.mpr ⟨List.mem_of_getElem? (i := 4) (by decide +kernel), by decide +kernel⟩
theorem t_5 : (Jvm.Cond.selects "ModelDesk$Reader" ({ cls := "ModelDesk$Reader", name := "close", desc := "()I" } : Jvm.MethodName) ({ cls := "ModelDesk$Reader", name := "close", desc := "()I" } : Jvm.MethodName)) ∈ tbG := List.mem_filter.mpr ⟨List.mem_of_getElem? (i := 5) (by decide +kernel), by decide +kernel⟩
theorem t_6 : (Jvm.Cond.selects "ModelDesk$Reader" ({ cls := "ModelDesk$Reader", name := "joinPart", desc := "(I)V" } : Jvm.MethodName) ({ cls := "ModelDesk$Reader", name := "joinPart", desc := "(I)V" } : Jvm.MethodName)) ∈ tbG := List.mem_filter.mpr ⟨List.mem_of_getElem? (i := 6) (by decide +kernel), by decide +kernel⟩
theorem t_7 : (Jvm.Cond.selects "ModelDesk$Reader" ({ cls := "ModelDesk$Reader", name := "takeSeparator", desc := "(I)I" } : Jvm.MethodName) ({ cls := "ModelDesk$Reader", name := "takeSeparator", desc := "(I)I" } : Jvm.MethodName)) ∈ tbG := List.mem_filter.mpr ⟨List.mem_of_getElem? (i := 7) (by decide +kernel), by decide +kernel⟩
theorem t_8 : (Jvm.Cond.selects "ModelDesk" ({ cls := "ModelDesk", name := "startRow", desc := "()V" } : Jvm.MethodName) ({ cls := "ModelDesk", name := "startRow", desc := "()V" } : Jvm.MethodName)) ∈ tbG := List.mem_filter.mpr ⟨List.mem_of_getElem? (i := 8) (by decide +kernel), by decide +kernel⟩
theorem t_9 : (Jvm.Cond.selects "ModelDesk$Model" ({ cls := "ModelDesk$Model", name := "namesTwiceIn", desc := "(J)I" } : Jvm.MethodName) ({ cls := "ModelDesk$Model", name := "namesTwiceIn", desc := "(J)I" } : Jvm.MethodName)) ∈ tbG := List.mem_filter.mpr ⟨List.mem_of_getElem? (i := 9) (by decide +kernel), by decide +kernel⟩
theorem t_10 : (Jvm.Cond.selects "ModelDeskModel" ({ cls := "ModelDeskModel", name := "parse", desc := "()I" } : Jvm.MethodName) ({ cls := "ModelDeskModel", name := "parse", desc := "()I" } : Jvm.MethodName)) ∈ tbG := List.mem_filter.mpr ⟨List.mem_of_getElem? (i := 10) (by decide +kernel), by decide +kernel⟩
theorem t_11 : (Jvm.Cond.selects "ModelDeskModel" ({ cls := "ModelDeskModel", name := "at", desc := "(I)I" } : Jvm.MethodName) ({ cls := "ModelDeskModel", name := "at", desc := "(I)I" } : Jvm.MethodName)) ∈ tbG := List.mem_filter.mpr ⟨List.mem_of_getElem? (i := 11) (by decide +kernel), by decide +kernel⟩
theorem t_12 : (Jvm.Cond.selects "ModelDeskModel" ({ cls := "ModelDeskModel", name := "open", desc := "()Z" } : Jvm.MethodName) ({ cls := "ModelDeskModel", name := "open", desc := "()Z" } : Jvm.MethodName)) ∈ tbG := List.mem_filter.mpr ⟨List.mem_of_getElem? (i := 12) (by decide +kernel), by decide +kernel⟩
theorem t_13 : (Jvm.Cond.selects "ModelDeskModel" ({ cls := "ModelDeskModel", name := "node", desc := "(I)I" } : Jvm.MethodName) ({ cls := "ModelDeskModel", name := "node", desc := "(I)I" } : Jvm.MethodName)) ∈ tbG := List.mem_filter.mpr ⟨List.mem_of_getElem? (i := 13) (by decide +kernel), by decide +kernel⟩
theorem t_14 : (Jvm.Cond.selects "ModelDeskModel" ({ cls := "ModelDeskModel", name := "signed", desc := "(II)I" } : Jvm.MethodName) ({ cls := "ModelDeskModel", name := "signed", desc := "(II)I" } : Jvm.MethodName)) ∈ tbG := List.mem_filter.mpr ⟨List.mem_of_getElem? (i := 14) (by decide +kernel), by decide +kernel⟩
theorem t_15 : (Jvm.Cond.selects "ModelDeskModel" ({ cls := "ModelDeskModel", name := "add", desc := "(I)V" } : Jvm.MethodName) ({ cls := "ModelDeskModel", name := "add", desc := "(I)V" } : Jvm.MethodName)) ∈ tbG := List.mem_filter.mpr ⟨List.mem_of_getElem? (i := 15) (by decide +kernel), by decide +kernel⟩
theorem t_16 : (Jvm.Cond.selects "ModelDeskModel" ({ cls := "ModelDeskModel", name := "close", desc := "()I" } : Jvm.MethodName) ({ cls := "ModelDeskModel", name := "close", desc := "()I" } : Jvm.MethodName)) ∈ tbG := List.mem_filter.mpr ⟨List.mem_of_getElem? (i := 16) (by decide +kernel), by decide +kernel⟩
theorem t_17 : (Jvm.Cond.selects "ModelDeskModel" ({ cls := "ModelDeskModel", name := "firsts", desc := "(I)J" } : Jvm.MethodName) ({ cls := "ModelDeskModel", name := "firsts", desc := "(I)J" } : Jvm.MethodName)) ∈ tbG := List.mem_filter.mpr ⟨List.mem_of_getElem? (i := 17) (by decide +kernel), by decide +kernel⟩
theorem t_18 : (Jvm.Cond.selects "ModelDeskModel" ({ cls := "ModelDeskModel", name := "begins", desc := "(II)Z" } : Jvm.MethodName) ({ cls := "ModelDeskModel", name := "begins", desc := "(II)Z" } : Jvm.MethodName)) ∈ tbG := List.mem_filter.mpr ⟨List.mem_of_getElem? (i := 18) (by decide +kernel), by decide +kernel⟩
theorem t_19 : (Jvm.Cond.selects "ModelDeskModel" ({ cls := "ModelDeskModel", name := "ends", desc := "(I)Z" } : Jvm.MethodName) ({ cls := "ModelDeskModel", name := "ends", desc := "(I)Z" } : Jvm.MethodName)) ∈ tbG := List.mem_filter.mpr ⟨List.mem_of_getElem? (i := 19) (by decide +kernel), by decide +kernel⟩
theorem t_20 : (Jvm.Cond.selects "ModelDeskModel" ({ cls := "ModelDeskModel", name := "twice", desc := "(J)I" } : Jvm.MethodName) ({ cls := "ModelDeskModel", name := "twice", desc := "(J)I" } : Jvm.MethodName)) ∈ tbG := List.mem_filter.mpr ⟨List.mem_of_getElem? (i := 20) (by decide +kernel), by decide +kernel⟩
theorem t_21 : (Jvm.Cond.selects "ModelDeskModel" ({ cls := "ModelDeskModel", name := "able", desc := "(J)J" } : Jvm.MethodName) ({ cls := "ModelDeskModel", name := "able", desc := "(J)J" } : Jvm.MethodName)) ∈ tbG := List.mem_filter.mpr ⟨List.mem_of_getElem? (i := 21) (by decide +kernel), by decide +kernel⟩
theorem t_22 : (Jvm.Cond.initialized "ModelDeskLaw") ∈ tbG := List.mem_filter.mpr ⟨List.mem_of_getElem? (i := 22) (by decide +kernel), by decide +kernel⟩
theorem t_23 : (Jvm.Cond.initialized "ModelDesk") ∈ tbG := List.mem_filter.mpr ⟨List.mem_of_getElem? (i := 23) (by decide +kernel), by decide +kernel⟩
theorem t_24 : (Jvm.Cond.initialized "ModelDesk$Reader") ∈ tbG := List.mem_filter.mpr ⟨List.mem_of_getElem? (i := 24) (by decide +kernel), by decide +kernel⟩
theorem t_25 : (Jvm.Cond.initialized "ModelDesk$Model") ∈ tbG := List.mem_filter.mpr ⟨List.mem_of_getElem? (i := 25) (by decide +kernel), by decide +kernel⟩
theorem t_26 : (Jvm.Cond.initialized "ModelDeskModel") ∈ tbG := List.mem_filter.mpr ⟨List.mem_of_getElem? (i := 26) (by decide +kernel), by decide +kernel⟩
theorem t_27 : (Jvm.Cond.classLink "ModelDeskLaw" (7 : Nat) "ModelDesk") ∈ tbG := List.mem_filter.mpr ⟨List.mem_of_getElem? (i := 27) (by decide +kernel), by decide +kernel⟩
theorem t_28 : (Jvm.Cond.instantiable "ModelDesk" (7 : Nat)) ∈ tbG := List.mem_filter.mpr ⟨List.mem_of_getElem? (i := 28) (by decide +kernel), by decide +kernel⟩
theorem t_29 : (Jvm.Cond.methodLink "ModelDeskLaw" (9 : Nat) ({ cls := "ModelDesk", name := "<init>", desc := "()V" } : Jvm.MethodName)) ∈ tbG := List.mem_filter.mpr ⟨List.mem_of_getElem? (i := 29) (by decide +kernel), by decide +kernel⟩
theorem t_30 : (Jvm.Cond.instanceMethod ({ cls := "ModelDesk", name := "<init>", desc := "()V" } : Jvm.MethodName)) ∈ tbG := List.mem_filter.mpr ⟨List.mem_of_getElem? (i := 30) (by decide +kernel), by decide +kernel⟩
theorem t_31 : (Jvm.Cond.code ({ cls := "ModelDesk", name := "<init>", desc := "()V" } : Jvm.MethodName) prog_1_method_1_code (1 : Nat) (Option.none : Option Jvm.ClassFile.FieldType)) ∈ tbG := List.mem_filter.mpr ⟨List.mem_of_getElem? (i := 31) (by decide +kernel), by decide +kernel⟩
theorem t_32 : (Jvm.Cond.methodLink "ModelDesk" (1 : Nat) ({ cls := "java/lang/Object", name := "<init>", desc := "()V" } : Jvm.MethodName)) ∈ tbG := List.mem_filter.mpr ⟨List.mem_of_getElem? (i := 32) (by decide +kernel), by decide +kernel⟩
theorem t_33 : (Jvm.Cond.instanceMethod ({ cls := "java/lang/Object", name := "<init>", desc := "()V" } : Jvm.MethodName)) ∈ tbG := List.mem_filter.mpr ⟨List.mem_of_getElem? (i := 33) (by decide +kernel), by decide +kernel⟩
theorem t_34 : (Jvm.Cond.code ({ cls := "java/lang/Object", name := "<init>", desc := "()V" } : Jvm.MethodName) object_method_1_code (1 : Nat) (Option.none : Option Jvm.ClassFile.FieldType)) ∈ tbG := List.mem_filter.mpr ⟨List.mem_of_getElem? (i := 34) (by decide +kernel), by decide +kernel⟩
theorem t_35 : (Jvm.Cond.classLink "ModelDesk" (13 : Nat) "ModelDesk$Reader") ∈ tbG := List.mem_filter.mpr ⟨List.mem_of_getElem? (i := 35) (by decide +kernel), by decide +kernel⟩
theorem t_36 : (Jvm.Cond.instantiable "ModelDesk$Reader" (10 : Nat)) ∈ tbG := List.mem_filter.mpr ⟨List.mem_of_getElem? (i := 36) (by decide +kernel), by decide +kernel⟩
theorem t_37 : (Jvm.Cond.methodLink "ModelDesk" (15 : Nat) ({ cls := "ModelDesk$Reader", name := "<init>", desc := "()V" } : Jvm.MethodName)) ∈ tbG := List.mem_filter.mpr ⟨List.mem_of_getElem? (i := 37) (by decide +kernel), by decide +kernel⟩
theorem t_38 : (Jvm.Cond.instanceMethod ({ cls := "ModelDesk$Reader", name := "<init>", desc := "()V" } : Jvm.MethodName)) ∈ tbG := List.mem_filter.mpr ⟨List.mem_of_getElem? (i := 38) (by decide +kernel), by decide +kernel⟩
theorem t_39 : (Jvm.Cond.code ({ cls := "ModelDesk$Reader", name := "<init>", desc := "()V" } : Jvm.MethodName) prog_3_method_1_code (1 : Nat) (Option.none : Option Jvm.ClassFile.FieldType)) ∈ tbG := List.mem_filter.mpr ⟨List.mem_of_getElem? (i := 39) (by decide +kernel), by decide +kernel⟩
theorem t_40 : (Jvm.Cond.methodLink "ModelDesk$Reader" (1 : Nat) ({ cls := "java/lang/Object", name := "<init>", desc := "()V" } : Jvm.MethodName)) ∈ tbG := List.mem_filter.mpr ⟨List.mem_of_getElem? (i := 40) (by decide +kernel), by decide +kernel⟩
theorem t_41 : (Jvm.Cond.classLink "ModelDesk$Reader" (7 : Nat) "ModelDesk$Model") ∈ tbG := List.mem_filter.mpr ⟨List.mem_of_getElem? (i := 41) (by decide +kernel), by decide +kernel⟩
theorem t_42 : (Jvm.Cond.instantiable "ModelDesk$Model" (6 : Nat)) ∈ tbG := List.mem_filter.mpr ⟨List.mem_of_getElem? (i := 42) (by decide +kernel), by decide +kernel⟩
theorem t_43 : (Jvm.Cond.methodLink "ModelDesk$Reader" (9 : Nat) ({ cls := "ModelDesk$Model", name := "<init>", desc := "()V" } : Jvm.MethodName)) ∈ tbG := List.mem_filter.mpr ⟨List.mem_of_getElem? (i := 43) (by decide +kernel), by decide +kernel⟩
theorem t_44 : (Jvm.Cond.instanceMethod ({ cls := "ModelDesk$Model", name := "<init>", desc := "()V" } : Jvm.MethodName)) ∈ tbG := List.mem_filter.mpr ⟨List.mem_of_getElem? (i := 44) (by decide +kernel), by decide +kernel⟩
theorem t_45 : (Jvm.Cond.code ({ cls := "ModelDesk$Model", name := "<init>", desc := "()V" } : Jvm.MethodName) prog_2_method_1_code (1 : Nat) (Option.none : Option Jvm.ClassFile.FieldType)) ∈ tbG := List.mem_filter.mpr ⟨List.mem_of_getElem? (i := 45) (by decide +kernel), by decide +kernel⟩
theorem t_46 : (Jvm.Cond.methodLink "ModelDesk$Model" (1 : Nat) ({ cls := "java/lang/Object", name := "<init>", desc := "()V" } : Jvm.MethodName)) ∈ tbG := List.mem_filter.mpr ⟨List.mem_of_getElem? (i := 46) (by decide +kernel), by decide +kernel⟩
theorem t_47 : (Jvm.Cond.fieldLink "ModelDesk$Model" (9 : Nat) "ModelDesk$Model" "names" "[I") ∈ tbG := List.mem_filter.mpr ⟨List.mem_of_getElem? (i := 47) (by decide +kernel), by decide +kernel⟩
theorem t_48 : (Jvm.Cond.fieldLink "ModelDesk" (66 : Nat) "ModelDesk$Model" "names" "[I") ∈ tbG := List.mem_filter.mpr ⟨List.mem_of_getElem? (i := 48) (by decide +kernel), by decide +kernel⟩
theorem t_49 : (Jvm.Cond.fieldLink "ModelDesk$Model" (13 : Nat) "ModelDesk$Model" "nexts" "[J") ∈ tbG := List.mem_filter.mpr ⟨List.mem_of_getElem? (i := 49) (by decide +kernel), by decide +kernel⟩
theorem t_50 : (Jvm.Cond.fieldLink "ModelDesk" (59 : Nat) "ModelDesk$Model" "nexts" "[J") ∈ tbG := List.mem_filter.mpr ⟨List.mem_of_getElem? (i := 50) (by decide +kernel), by decide +kernel⟩
theorem t_51 : (Jvm.Cond.fieldLink "ModelDesk$Model" (17 : Nat) "ModelDesk$Model" "places" "I") ∈ tbG := List.mem_filter.mpr ⟨List.mem_of_getElem? (i := 51) (by decide +kernel), by decide +kernel⟩
theorem t_52 : (Jvm.Cond.fieldLink "ModelDesk" (41 : Nat) "ModelDesk$Model" "places" "I") ∈ tbG := List.mem_filter.mpr ⟨List.mem_of_getElem? (i := 52) (by decide +kernel), by decide +kernel⟩
theorem t_53 : (Jvm.Cond.fieldLink "ModelDesk$Reader" (89 : Nat) "ModelDesk$Model" "places" "I") ∈ tbG := List.mem_filter.mpr ⟨List.mem_of_getElem? (i := 53) (by decide +kernel), by decide +kernel⟩
theorem t_54 : (Jvm.Cond.fieldLink "ModelDesk$Model" (21 : Nat) "ModelDesk$Model" "firsts" "J") ∈ tbG := List.mem_filter.mpr ⟨List.mem_of_getElem? (i := 54) (by decide +kernel), by decide +kernel⟩
theorem t_55 : (Jvm.Cond.fieldLink "ModelDesk$Reader" (66 : Nat) "ModelDesk$Model" "firsts" "J") ∈ tbG := List.mem_filter.mpr ⟨List.mem_of_getElem? (i := 55) (by decide +kernel), by decide +kernel⟩
theorem t_56 : (Jvm.Cond.fieldLink "ModelDesk" (51 : Nat) "ModelDesk$Model" "firsts" "J") ∈ tbG := List.mem_filter.mpr ⟨List.mem_of_getElem? (i := 56) (by decide +kernel), by decide +kernel⟩
theorem t_57 : (Jvm.Cond.fieldLink "ModelDesk$Model" (25 : Nat) "ModelDesk$Model" "lasts" "J") ∈ tbG := List.mem_filter.mpr ⟨List.mem_of_getElem? (i := 57) (by decide +kernel), by decide +kernel⟩
theorem t_58 : (Jvm.Cond.fieldLink "ModelDesk$Reader" (72 : Nat) "ModelDesk$Model" "lasts" "J") ∈ tbG := List.mem_filter.mpr ⟨List.mem_of_getElem? (i := 58) (by decide +kernel), by decide +kernel⟩
theorem t_59 : (Jvm.Cond.fieldLink "ModelDesk" (63 : Nat) "ModelDesk$Model" "lasts" "J") ∈ tbG := List.mem_filter.mpr ⟨List.mem_of_getElem? (i := 59) (by decide +kernel), by decide +kernel⟩
theorem t_60 : (Jvm.Cond.fieldLink "ModelDesk$Model" (28 : Nat) "ModelDesk$Model" "empty" "Z") ∈ tbG := List.mem_filter.mpr ⟨List.mem_of_getElem? (i := 60) (by decide +kernel), by decide +kernel⟩
theorem t_61 : (Jvm.Cond.fieldLink "ModelDesk$Reader" (79 : Nat) "ModelDesk$Model" "empty" "Z") ∈ tbG := List.mem_filter.mpr ⟨List.mem_of_getElem? (i := 61) (by decide +kernel), by decide +kernel⟩
theorem t_62 : (Jvm.Cond.fieldLink "ModelDesk" (47 : Nat) "ModelDesk$Model" "empty" "Z") ∈ tbG := List.mem_filter.mpr ⟨List.mem_of_getElem? (i := 62) (by decide +kernel), by decide +kernel⟩
theorem t_63 : (Jvm.Cond.laysFinal "ModelDesk$Model" "ModelDesk$Model" "names" "[I") ∈ tbG := List.mem_filter.mpr ⟨List.mem_of_getElem? (i := 63) (by decide +kernel), by decide +kernel⟩
theorem t_64 : (Jvm.Cond.soleField "ModelDesk$Model" "names") ∈ tbG := List.mem_filter.mpr ⟨List.mem_of_getElem? (i := 64) (by decide +kernel), by decide +kernel⟩
theorem t_65 : (Jvm.Cond.laysFinal "ModelDesk$Model" "ModelDesk$Model" "nexts" "[J") ∈ tbG := List.mem_filter.mpr ⟨List.mem_of_getElem? (i := 65) (by decide +kernel), by decide +kernel⟩
theorem t_66 : (Jvm.Cond.soleField "ModelDesk$Model" "nexts") ∈ tbG := List.mem_filter.mpr ⟨List.mem_of_getElem? (i := 66) (by decide +kernel), by decide +kernel⟩
theorem t_67 : (Jvm.Cond.lays "ModelDesk$Model" "ModelDesk$Model" "places" "I") ∈ tbG := List.mem_filter.mpr ⟨List.mem_of_getElem? (i := 67) (by decide +kernel), by decide +kernel⟩
theorem t_68 : (Jvm.Cond.soleField "ModelDesk$Model" "places") ∈ tbG := List.mem_filter.mpr ⟨List.mem_of_getElem? (i := 68) (by decide +kernel), by decide +kernel⟩
theorem t_69 : (Jvm.Cond.lays "ModelDesk$Model" "ModelDesk$Model" "firsts" "J") ∈ tbG := List.mem_filter.mpr ⟨List.mem_of_getElem? (i := 69) (by decide +kernel), by decide +kernel⟩
theorem t_70 : (Jvm.Cond.soleField "ModelDesk$Model" "firsts") ∈ tbG := List.mem_filter.mpr ⟨List.mem_of_getElem? (i := 70) (by decide +kernel), by decide +kernel⟩
theorem t_71 : (Jvm.Cond.lays "ModelDesk$Model" "ModelDesk$Model" "lasts" "J") ∈ tbG := List.mem_filter.mpr ⟨List.mem_of_getElem? (i := 71) (by decide +kernel), by decide +kernel⟩
theorem t_72 : (Jvm.Cond.soleField "ModelDesk$Model" "lasts") ∈ tbG := List.mem_filter.mpr ⟨List.mem_of_getElem? (i := 72) (by decide +kernel), by decide +kernel⟩
theorem t_73 : (Jvm.Cond.lays "ModelDesk$Model" "ModelDesk$Model" "empty" "Z") ∈ tbG := List.mem_filter.mpr ⟨List.mem_of_getElem? (i := 73) (by decide +kernel), by decide +kernel⟩
theorem t_74 : (Jvm.Cond.soleField "ModelDesk$Model" "empty") ∈ tbG := List.mem_filter.mpr ⟨List.mem_of_getElem? (i := 74) (by decide +kernel), by decide +kernel⟩
theorem t_75 : (Jvm.Cond.superclass "ModelDesk$Model" "java/lang/Object") ∈ tbG := List.mem_filter.mpr ⟨List.mem_of_getElem? (i := 75) (by decide +kernel), by decide +kernel⟩
theorem t_76 : (Jvm.Cond.arrayClass Jvm.ClassFile.FieldType.byte) ∈ tbG := List.mem_filter.mpr ⟨List.mem_of_getElem? (i := 76) (by decide +kernel), by decide +kernel⟩
theorem t_77 : (Jvm.Cond.arrayClass Jvm.ClassFile.FieldType.int) ∈ tbG := List.mem_filter.mpr ⟨List.mem_of_getElem? (i := 77) (by decide +kernel), by decide +kernel⟩
theorem t_78 : (Jvm.Cond.arrayClass Jvm.ClassFile.FieldType.long) ∈ tbG := List.mem_filter.mpr ⟨List.mem_of_getElem? (i := 78) (by decide +kernel), by decide +kernel⟩
theorem t_79 : (Jvm.Cond.fieldLink "ModelDesk$Reader" (10 : Nat) "ModelDesk$Reader" "model" "LModelDesk$Model;") ∈ tbG := List.mem_filter.mpr ⟨List.mem_of_getElem? (i := 79) (by decide +kernel), by decide +kernel⟩
theorem t_80 : (Jvm.Cond.fieldLink "ModelDesk" (20 : Nat) "ModelDesk$Reader" "model" "LModelDesk$Model;") ∈ tbG := List.mem_filter.mpr ⟨List.mem_of_getElem? (i := 80) (by decide +kernel), by decide +kernel⟩
theorem t_81 : (Jvm.Cond.fieldLink "ModelDesk$Reader" (16 : Nat) "ModelDesk$Reader" "openFirsts" "[J") ∈ tbG := List.mem_filter.mpr ⟨List.mem_of_getElem? (i := 81) (by decide +kernel), by decide +kernel⟩
theorem t_82 : (Jvm.Cond.fieldLink "ModelDesk$Reader" (20 : Nat) "ModelDesk$Reader" "openLasts" "[J") ∈ tbG := List.mem_filter.mpr ⟨List.mem_of_getElem? (i := 82) (by decide +kernel), by decide +kernel⟩
theorem t_83 : (Jvm.Cond.fieldLink "ModelDesk$Reader" (23 : Nat) "ModelDesk$Reader" "openEmpty" "[Z") ∈ tbG := List.mem_filter.mpr ⟨List.mem_of_getElem? (i := 83) (by decide +kernel), by decide +kernel⟩
theorem t_84 : (Jvm.Cond.fieldLink "ModelDesk$Reader" (27 : Nat) "ModelDesk$Reader" "separators" "[I") ∈ tbG := List.mem_filter.mpr ⟨List.mem_of_getElem? (i := 84) (by decide +kernel), by decide +kernel⟩
theorem t_85 : (Jvm.Cond.fieldLink "ModelDesk$Reader" (34 : Nat) "ModelDesk$Reader" "depth" "I") ∈ tbG := List.mem_filter.mpr ⟨List.mem_of_getElem? (i := 85) (by decide +kernel), by decide +kernel⟩
theorem t_86 : (Jvm.Cond.fieldLink "ModelDesk$Reader" (38 : Nat) "ModelDesk$Reader" "state" "I") ∈ tbG := List.mem_filter.mpr ⟨List.mem_of_getElem? (i := 86) (by decide +kernel), by decide +kernel⟩
theorem t_87 : (Jvm.Cond.fieldLink "ModelDesk$Reader" (62 : Nat) "ModelDesk$Reader" "partFirsts" "J") ∈ tbG := List.mem_filter.mpr ⟨List.mem_of_getElem? (i := 87) (by decide +kernel), by decide +kernel⟩
theorem t_88 : (Jvm.Cond.fieldLink "ModelDesk$Reader" (69 : Nat) "ModelDesk$Reader" "partLasts" "J") ∈ tbG := List.mem_filter.mpr ⟨List.mem_of_getElem? (i := 88) (by decide +kernel), by decide +kernel⟩
theorem t_89 : (Jvm.Cond.fieldLink "ModelDesk$Reader" (75 : Nat) "ModelDesk$Reader" "partEmpty" "Z") ∈ tbG := List.mem_filter.mpr ⟨List.mem_of_getElem? (i := 89) (by decide +kernel), by decide +kernel⟩
theorem t_90 : (Jvm.Cond.laysFinal "ModelDesk$Reader" "ModelDesk$Reader" "model" "LModelDesk$Model;") ∈ tbG := List.mem_filter.mpr ⟨List.mem_of_getElem? (i := 90) (by decide +kernel), by decide +kernel⟩
theorem t_91 : (Jvm.Cond.soleField "ModelDesk$Reader" "model") ∈ tbG := List.mem_filter.mpr ⟨List.mem_of_getElem? (i := 91) (by decide +kernel), by decide +kernel⟩
theorem t_92 : (Jvm.Cond.laysFinal "ModelDesk$Reader" "ModelDesk$Reader" "openFirsts" "[J") ∈ tbG := List.mem_filter.mpr ⟨List.mem_of_getElem? (i := 92) (by decide +kernel), by decide +kernel⟩
theorem t_93 : (Jvm.Cond.soleField "ModelDesk$Reader" "openFirsts") ∈ tbG := List.mem_filter.mpr ⟨List.mem_of_getElem? (i := 93) (by decide +kernel), by decide +kernel⟩
theorem t_94 : (Jvm.Cond.laysFinal "ModelDesk$Reader" "ModelDesk$Reader" "openLasts" "[J") ∈ tbG := List.mem_filter.mpr ⟨List.mem_of_getElem? (i := 94) (by decide +kernel), by decide +kernel⟩
theorem t_95 : (Jvm.Cond.soleField "ModelDesk$Reader" "openLasts") ∈ tbG := List.mem_filter.mpr ⟨List.mem_of_getElem? (i := 95) (by decide +kernel), by decide +kernel⟩
theorem t_96 : (Jvm.Cond.laysFinal "ModelDesk$Reader" "ModelDesk$Reader" "openEmpty" "[Z") ∈ tbG := List.mem_filter.mpr ⟨List.mem_of_getElem? (i := 96) (by decide +kernel), by decide +kernel⟩
theorem t_97 : (Jvm.Cond.soleField "ModelDesk$Reader" "openEmpty") ∈ tbG := List.mem_filter.mpr ⟨List.mem_of_getElem? (i := 97) (by decide +kernel), by decide +kernel⟩
theorem t_98 : (Jvm.Cond.laysFinal "ModelDesk$Reader" "ModelDesk$Reader" "separators" "[I") ∈ tbG := List.mem_filter.mpr ⟨List.mem_of_getElem? (i := 98) (by decide +kernel), by decide +kernel⟩
theorem t_99 : (Jvm.Cond.soleField "ModelDesk$Reader" "separators") ∈ tbG := List.mem_filter.mpr ⟨List.mem_of_getElem? (i := 99) (by decide +kernel), by decide +kernel⟩
theorem t_100 : (Jvm.Cond.lays "ModelDesk$Reader" "ModelDesk$Reader" "depth" "I") ∈ tbG := List.mem_filter.mpr ⟨List.mem_of_getElem? (i := 100) (by decide +kernel), by decide +kernel⟩
theorem t_101 : (Jvm.Cond.soleField "ModelDesk$Reader" "depth") ∈ tbG := List.mem_filter.mpr ⟨List.mem_of_getElem? (i := 101) (by decide +kernel), by decide +kernel⟩
theorem t_102 : (Jvm.Cond.lays "ModelDesk$Reader" "ModelDesk$Reader" "state" "I") ∈ tbG := List.mem_filter.mpr ⟨List.mem_of_getElem? (i := 102) (by decide +kernel), by decide +kernel⟩
theorem t_103 : (Jvm.Cond.soleField "ModelDesk$Reader" "state") ∈ tbG := List.mem_filter.mpr ⟨List.mem_of_getElem? (i := 103) (by decide +kernel), by decide +kernel⟩
theorem t_104 : (Jvm.Cond.lays "ModelDesk$Reader" "ModelDesk$Reader" "partFirsts" "J") ∈ tbG := List.mem_filter.mpr ⟨List.mem_of_getElem? (i := 104) (by decide +kernel), by decide +kernel⟩
theorem t_105 : (Jvm.Cond.soleField "ModelDesk$Reader" "partFirsts") ∈ tbG := List.mem_filter.mpr ⟨List.mem_of_getElem? (i := 105) (by decide +kernel), by decide +kernel⟩
theorem t_106 : (Jvm.Cond.lays "ModelDesk$Reader" "ModelDesk$Reader" "partLasts" "J") ∈ tbG := List.mem_filter.mpr ⟨List.mem_of_getElem? (i := 106) (by decide +kernel), by decide +kernel⟩
theorem t_107 : (Jvm.Cond.soleField "ModelDesk$Reader" "partLasts") ∈ tbG := List.mem_filter.mpr ⟨List.mem_of_getElem? (i := 107) (by decide +kernel), by decide +kernel⟩
theorem t_108 : (Jvm.Cond.lays "ModelDesk$Reader" "ModelDesk$Reader" "partEmpty" "Z") ∈ tbG := List.mem_filter.mpr ⟨List.mem_of_getElem? (i := 108) (by decide +kernel), by decide +kernel⟩
theorem t_109 : (Jvm.Cond.soleField "ModelDesk$Reader" "partEmpty") ∈ tbG := List.mem_filter.mpr ⟨List.mem_of_getElem? (i := 109) (by decide +kernel), by decide +kernel⟩
theorem t_110 : (Jvm.Cond.superclass "ModelDesk$Reader" "java/lang/Object") ∈ tbG := List.mem_filter.mpr ⟨List.mem_of_getElem? (i := 110) (by decide +kernel), by decide +kernel⟩
theorem t_111 : (Jvm.Cond.arrayClass Jvm.ClassFile.FieldType.boolean) ∈ tbG := List.mem_filter.mpr ⟨List.mem_of_getElem? (i := 111) (by decide +kernel), by decide +kernel⟩
theorem t_112 : (Jvm.Cond.fieldLink "ModelDesk" (9 : Nat) "ModelDesk" "text" "[B") ∈ tbG := List.mem_filter.mpr ⟨List.mem_of_getElem? (i := 112) (by decide +kernel), by decide +kernel⟩
theorem t_113 : (Jvm.Cond.fieldLink "ModelDesk" (25 : Nat) "ModelDesk" "length" "I") ∈ tbG := List.mem_filter.mpr ⟨List.mem_of_getElem? (i := 113) (by decide +kernel), by decide +kernel⟩
theorem t_114 : (Jvm.Cond.fieldLink "ModelDesk" (16 : Nat) "ModelDesk" "reader" "LModelDesk$Reader;") ∈ tbG := List.mem_filter.mpr ⟨List.mem_of_getElem? (i := 114) (by decide +kernel), by decide +kernel⟩
theorem t_115 : (Jvm.Cond.fieldLink "ModelDesk" (24 : Nat) "ModelDesk" "model" "LModelDesk$Model;") ∈ tbG := List.mem_filter.mpr ⟨List.mem_of_getElem? (i := 115) (by decide +kernel), by decide +kernel⟩
theorem t_116 : (Jvm.Cond.fieldLink "ModelDesk" (70 : Nat) "ModelDesk" "ready" "J") ∈ tbG := List.mem_filter.mpr ⟨List.mem_of_getElem? (i := 116) (by decide +kernel), by decide +kernel⟩
theorem t_117 : (Jvm.Cond.fieldLink "ModelDesk" (81 : Nat) "ModelDesk" "whole" "Z") ∈ tbG := List.mem_filter.mpr ⟨List.mem_of_getElem? (i := 117) (by decide +kernel), by decide +kernel⟩
theorem t_118 : (Jvm.Cond.fieldLink "ModelDesk" (84 : Nat) "ModelDesk" "came" "I") ∈ tbG := List.mem_filter.mpr ⟨List.mem_of_getElem? (i := 118) (by decide +kernel), by decide +kernel⟩
theorem t_119 : (Jvm.Cond.laysFinal "ModelDesk" "ModelDesk" "text" "[B") ∈ tbG := List.mem_filter.mpr ⟨List.mem_of_getElem? (i := 119) (by decide +kernel), by decide +kernel⟩
theorem t_120 : (Jvm.Cond.soleField "ModelDesk" "text") ∈ tbG := List.mem_filter.mpr ⟨List.mem_of_getElem? (i := 120) (by decide +kernel), by decide +kernel⟩
theorem t_121 : (Jvm.Cond.lays "ModelDesk" "ModelDesk" "length" "I") ∈ tbG := List.mem_filter.mpr ⟨List.mem_of_getElem? (i := 121) (by decide +kernel), by decide +kernel⟩
theorem t_122 : (Jvm.Cond.soleField "ModelDesk" "length") ∈ tbG := List.mem_filter.mpr ⟨List.mem_of_getElem? (i := 122) (by decide +kernel), by decide +kernel⟩
theorem t_123 : (Jvm.Cond.laysFinal "ModelDesk" "ModelDesk" "reader" "LModelDesk$Reader;") ∈ tbG := List.mem_filter.mpr ⟨List.mem_of_getElem? (i := 123) (by decide +kernel), by decide +kernel⟩
theorem t_124 : (Jvm.Cond.soleField "ModelDesk" "reader") ∈ tbG := List.mem_filter.mpr ⟨List.mem_of_getElem? (i := 124) (by decide +kernel), by decide +kernel⟩
theorem t_125 : (Jvm.Cond.laysFinal "ModelDesk" "ModelDesk" "model" "LModelDesk$Model;") ∈ tbG := List.mem_filter.mpr ⟨List.mem_of_getElem? (i := 125) (by decide +kernel), by decide +kernel⟩
theorem t_126 : (Jvm.Cond.soleField "ModelDesk" "model") ∈ tbG := List.mem_filter.mpr ⟨List.mem_of_getElem? (i := 126) (by decide +kernel), by decide +kernel⟩
theorem t_127 : (Jvm.Cond.lays "ModelDesk" "ModelDesk" "ready" "J") ∈ tbG := List.mem_filter.mpr ⟨List.mem_of_getElem? (i := 127) (by decide +kernel), by decide +kernel⟩
theorem t_128 : (Jvm.Cond.soleField "ModelDesk" "ready") ∈ tbG := List.mem_filter.mpr ⟨List.mem_of_getElem? (i := 128) (by decide +kernel), by decide +kernel⟩
theorem t_129 : (Jvm.Cond.lays "ModelDesk" "ModelDesk" "whole" "Z") ∈ tbG := List.mem_filter.mpr ⟨List.mem_of_getElem? (i := 129) (by decide +kernel), by decide +kernel⟩
theorem t_130 : (Jvm.Cond.soleField "ModelDesk" "whole") ∈ tbG := List.mem_filter.mpr ⟨List.mem_of_getElem? (i := 130) (by decide +kernel), by decide +kernel⟩
theorem t_131 : (Jvm.Cond.lays "ModelDesk" "ModelDesk" "came" "I") ∈ tbG := List.mem_filter.mpr ⟨List.mem_of_getElem? (i := 131) (by decide +kernel), by decide +kernel⟩
theorem t_132 : (Jvm.Cond.soleField "ModelDesk" "came") ∈ tbG := List.mem_filter.mpr ⟨List.mem_of_getElem? (i := 132) (by decide +kernel), by decide +kernel⟩
theorem t_133 : (Jvm.Cond.superclass "ModelDesk" "java/lang/Object") ∈ tbG := List.mem_filter.mpr ⟨List.mem_of_getElem? (i := 133) (by decide +kernel), by decide +kernel⟩
theorem t_134 : (Jvm.Cond.methodLink "ModelDeskLaw" (15 : Nat) ({ cls := "ModelDesk", name := "put", desc := "(JI)Z" } : Jvm.MethodName)) ∈ tbG := List.mem_filter.mpr ⟨List.mem_of_getElem? (i := 134) (by decide +kernel), by decide +kernel⟩
theorem t_135 : (Jvm.Cond.instanceMethod ({ cls := "ModelDesk", name := "put", desc := "(JI)Z" } : Jvm.MethodName)) ∈ tbG := List.mem_filter.mpr ⟨List.mem_of_getElem? (i := 135) (by decide +kernel), by decide +kernel⟩
theorem t_136 : (Jvm.Cond.selects "ModelDesk" ({ cls := "ModelDesk", name := "put", desc := "(JI)Z" } : Jvm.MethodName) ({ cls := "ModelDesk", name := "put", desc := "(JI)Z" } : Jvm.MethodName)) ∈ tbG := List.mem_filter.mpr ⟨List.mem_of_getElem? (i := 136) (by decide +kernel), by decide +kernel⟩
theorem t_137 : (Jvm.Cond.code ({ cls := "ModelDesk", name := "put", desc := "(JI)Z" } : Jvm.MethodName) prog_1_method_2_code (5 : Nat) (Option.some Jvm.ClassFile.FieldType.boolean)) ∈ tbG := List.mem_filter.mpr ⟨List.mem_of_getElem? (i := 137) (by decide +kernel), by decide +kernel⟩
theorem t_138 : (Jvm.Cond.methodLink "ModelDeskLaw" (20 : Nat) ({ cls := "ModelDesk", name := "read", desc := "()I" } : Jvm.MethodName)) ∈ tbG := List.mem_filter.mpr ⟨List.mem_of_getElem? (i := 138) (by decide +kernel), by decide +kernel⟩
theorem t_139 : (Jvm.Cond.instanceMethod ({ cls := "ModelDesk", name := "read", desc := "()I" } : Jvm.MethodName)) ∈ tbG := List.mem_filter.mpr ⟨List.mem_of_getElem? (i := 139) (by decide +kernel), by decide +kernel⟩
theorem t_140 : (Jvm.Cond.selects "ModelDesk" ({ cls := "ModelDesk", name := "read", desc := "()I" } : Jvm.MethodName) ({ cls := "ModelDesk", name := "read", desc := "()I" } : Jvm.MethodName)) ∈ tbG := List.mem_filter.mpr ⟨List.mem_of_getElem? (i := 140) (by decide +kernel), by decide +kernel⟩
theorem t_141 : (Jvm.Cond.code ({ cls := "ModelDesk", name := "read", desc := "()I" } : Jvm.MethodName) prog_1_method_3_code (2 : Nat) (Option.some Jvm.ClassFile.FieldType.int)) ∈ tbG := List.mem_filter.mpr ⟨List.mem_of_getElem? (i := 141) (by decide +kernel), by decide +kernel⟩
theorem t_142 : (Jvm.Cond.methodLink "ModelDesk" (29 : Nat) ({ cls := "ModelDesk", name := "readText", desc := "()I" } : Jvm.MethodName)) ∈ tbG := List.mem_filter.mpr ⟨List.mem_of_getElem? (i := 142) (by decide +kernel), by decide +kernel⟩
theorem t_144 : (Jvm.Cond.instanceMethod ({ cls := "ModelDesk", name := "readText", desc := "()I" } : Jvm.MethodName)) ∈ tbG := List.mem_filter.mpr ⟨List.mem_of_getElem? (i := 144) (by decide +kernel), by decide +kernel⟩
theorem t_145 : (Jvm.Cond.code ({ cls := "ModelDesk", name := "readText", desc := "()I" } : Jvm.MethodName) prog_1_method_15_code (3 : Nat) (Option.some Jvm.ClassFile.FieldType.int)) ∈ tbG := List.mem_filter.mpr ⟨List.mem_of_getElem? (i := 145) (by decide +kernel), by decide +kernel⟩
theorem t_146 : (Jvm.Cond.methodLink "ModelDesk" (91 : Nat) ({ cls := "ModelDesk$Reader", name := "begin", desc := "()V" } : Jvm.MethodName)) ∈ tbG := List.mem_filter.mpr ⟨List.mem_of_getElem? (i := 146) (by decide +kernel), by decide +kernel⟩
theorem t_147 : (Jvm.Cond.instanceMethod ({ cls := "ModelDesk$Reader", name := "begin", desc := "()V" } : Jvm.MethodName)) ∈ tbG := List.mem_filter.mpr ⟨List.mem_of_getElem? (i := 147) (by decide +kernel), by decide +kernel⟩
theorem t_148 : (Jvm.Cond.selects "ModelDesk$Reader" ({ cls := "ModelDesk$Reader", name := "begin", desc := "()V" } : Jvm.MethodName) ({ cls := "ModelDesk$Reader", name := "begin", desc := "()V" } : Jvm.MethodName)) ∈ tbG := List.mem_filter.mpr ⟨List.mem_of_getElem? (i := 148) (by decide +kernel), by decide +kernel⟩
theorem t_149 : (Jvm.Cond.code ({ cls := "ModelDesk$Reader", name := "begin", desc := "()V" } : Jvm.MethodName) prog_3_method_2_code (1 : Nat) (Option.none : Option Jvm.ClassFile.FieldType)) ∈ tbG := List.mem_filter.mpr ⟨List.mem_of_getElem? (i := 149) (by decide +kernel), by decide +kernel⟩
theorem t_150 : (Jvm.Cond.methodLink "ModelDesk$Reader" (31 : Nat) ({ cls := "ModelDesk$Model", name := "clear", desc := "()V" } : Jvm.MethodName)) ∈ tbG := List.mem_filter.mpr ⟨List.mem_of_getElem? (i := 150) (by decide +kernel), by decide +kernel⟩
theorem t_151 : (Jvm.Cond.instanceMethod ({ cls := "ModelDesk$Model", name := "clear", desc := "()V" } : Jvm.MethodName)) ∈ tbG := List.mem_filter.mpr ⟨List.mem_of_getElem? (i := 151) (by decide +kernel), by decide +kernel⟩
theorem t_152 : (Jvm.Cond.selects "ModelDesk$Model" ({ cls := "ModelDesk$Model", name := "clear", desc := "()V" } : Jvm.MethodName) ({ cls := "ModelDesk$Model", name := "clear", desc := "()V" } : Jvm.MethodName)) ∈ tbG := List.mem_filter.mpr ⟨List.mem_of_getElem? (i := 152) (by decide +kernel), by decide +kernel⟩
theorem t_153 : (Jvm.Cond.code ({ cls := "ModelDesk$Model", name := "clear", desc := "()V" } : Jvm.MethodName) prog_2_method_2_code (1 : Nat) (Option.none : Option Jvm.ClassFile.FieldType)) ∈ tbG := List.mem_filter.mpr ⟨List.mem_of_getElem? (i := 153) (by decide +kernel), by decide +kernel⟩
theorem t_154 : (Jvm.Cond.methodLink "ModelDesk" (94 : Nat) ({ cls := "ModelDesk$Reader", name := "take", desc := "(I)I" } : Jvm.MethodName)) ∈ tbG := List.mem_filter.mpr ⟨List.mem_of_getElem? (i := 154) (by decide +kernel), by decide +kernel⟩
theorem t_155 : (Jvm.Cond.instanceMethod ({ cls := "ModelDesk$Reader", name := "take", desc := "(I)I" } : Jvm.MethodName)) ∈ tbG := List.mem_filter.mpr ⟨List.mem_of_getElem? (i := 155) (by decide +kernel), by decide +kernel⟩
theorem t_156 : (Jvm.Cond.selects "ModelDesk$Reader" ({ cls := "ModelDesk$Reader", name := "take", desc := "(I)I" } : Jvm.MethodName) ({ cls := "ModelDesk$Reader", name := "take", desc := "(I)I" } : Jvm.MethodName)) ∈ tbG := List.mem_filter.mpr ⟨List.mem_of_getElem? (i := 156) (by decide +kernel), by decide +kernel⟩
theorem t_157 : (Jvm.Cond.code ({ cls := "ModelDesk$Reader", name := "take", desc := "(I)I" } : Jvm.MethodName) prog_3_method_3_code (2 : Nat) (Option.some Jvm.ClassFile.FieldType.int)) ∈ tbG := List.mem_filter.mpr ⟨List.mem_of_getElem? (i := 157) (by decide +kernel), by decide +kernel⟩
theorem t_158 : (Jvm.Cond.methodLink "ModelDesk$Reader" (41 : Nat) ({ cls := "ModelDesk$Reader", name := "open", desc := "()I" } : Jvm.MethodName)) ∈ tbG := List.mem_filter.mpr ⟨List.mem_of_getElem? (i := 158) (by decide +kernel), by decide +kernel⟩
theorem t_160 : (Jvm.Cond.instanceMethod ({ cls := "ModelDesk$Reader", name := "open", desc := "()I" } : Jvm.MethodName)) ∈ tbG := List.mem_filter.mpr ⟨List.mem_of_getElem? (i := 160) (by decide +kernel), by decide +kernel⟩
theorem t_161 : (Jvm.Cond.code ({ cls := "ModelDesk$Reader", name := "open", desc := "()I" } : Jvm.MethodName) prog_3_method_6_code (1 : Nat) (Option.some Jvm.ClassFile.FieldType.int)) ∈ tbG := List.mem_filter.mpr ⟨List.mem_of_getElem? (i := 161) (by decide +kernel), by decide +kernel⟩
theorem t_162 : (Jvm.Cond.methodLink "ModelDesk$Reader" (45 : Nat) ({ cls := "ModelDesk$Reader", name := "takeBeforePart", desc := "(I)I" } : Jvm.MethodName)) ∈ tbG := List.mem_filter.mpr ⟨List.mem_of_getElem? (i := 162) (by decide +kernel), by decide +kernel⟩
theorem t_164 : (Jvm.Cond.instanceMethod ({ cls := "ModelDesk$Reader", name := "takeBeforePart", desc := "(I)I" } : Jvm.MethodName)) ∈ tbG := List.mem_filter.mpr ⟨List.mem_of_getElem? (i := 164) (by decide +kernel), by decide +kernel⟩
theorem t_165 : (Jvm.Cond.code ({ cls := "ModelDesk$Reader", name := "takeBeforePart", desc := "(I)I" } : Jvm.MethodName) prog_3_method_5_code (2 : Nat) (Option.some Jvm.ClassFile.FieldType.int)) ∈ tbG := List.mem_filter.mpr ⟨List.mem_of_getElem? (i := 165) (by decide +kernel), by decide +kernel⟩
theorem t_166 : (Jvm.Cond.methodLink "ModelDesk$Reader" (82 : Nat) ({ cls := "ModelDesk$Reader", name := "takeName", desc := "(I)I" } : Jvm.MethodName)) ∈ tbG := List.mem_filter.mpr ⟨List.mem_of_getElem? (i := 166) (by decide +kernel), by decide +kernel⟩
theorem t_168 : (Jvm.Cond.instanceMethod ({ cls := "ModelDesk$Reader", name := "takeName", desc := "(I)I" } : Jvm.MethodName)) ∈ tbG := List.mem_filter.mpr ⟨List.mem_of_getElem? (i := 168) (by decide +kernel), by decide +kernel⟩
theorem t_169 : (Jvm.Cond.code ({ cls := "ModelDesk$Reader", name := "takeName", desc := "(I)I" } : Jvm.MethodName) prog_3_method_7_code (2 : Nat) (Option.some Jvm.ClassFile.FieldType.int)) ∈ tbG := List.mem_filter.mpr ⟨List.mem_of_getElem? (i := 169) (by decide +kernel), by decide +kernel⟩
theorem t_170 : (Jvm.Cond.methodLink "ModelDesk$Reader" (85 : Nat) ({ cls := "ModelDesk$Model", name := "isFull", desc := "()Z" } : Jvm.MethodName)) ∈ tbG := List.mem_filter.mpr ⟨List.mem_of_getElem? (i := 170) (by decide +kernel), by decide +kernel⟩
theorem t_171 : (Jvm.Cond.instanceMethod ({ cls := "ModelDesk$Model", name := "isFull", desc := "()Z" } : Jvm.MethodName)) ∈ tbG := List.mem_filter.mpr ⟨List.mem_of_getElem? (i := 171) (by decide +kernel), by decide +kernel⟩
theorem t_172 : (Jvm.Cond.selects "ModelDesk$Model" ({ cls := "ModelDesk$Model", name := "isFull", desc := "()Z" } : Jvm.MethodName) ({ cls := "ModelDesk$Model", name := "isFull", desc := "()Z" } : Jvm.MethodName)) ∈ tbG := List.mem_filter.mpr ⟨List.mem_of_getElem? (i := 172) (by decide +kernel), by decide +kernel⟩
theorem t_173 : (Jvm.Cond.code ({ cls := "ModelDesk$Model", name := "isFull", desc := "()Z" } : Jvm.MethodName) prog_2_method_3_code (1 : Nat) (Option.some Jvm.ClassFile.FieldType.boolean)) ∈ tbG := List.mem_filter.mpr ⟨List.mem_of_getElem? (i := 173) (by decide +kernel), by decide +kernel⟩
theorem t_174 : (Jvm.Cond.methodLink "ModelDesk$Reader" (92 : Nat) ({ cls := "ModelDesk$Model", name := "addPlace", desc := "(I)V" } : Jvm.MethodName)) ∈ tbG := List.mem_filter.mpr ⟨List.mem_of_getElem? (i := 174) (by decide +kernel), by decide +kernel⟩
theorem t_175 : (Jvm.Cond.instanceMethod ({ cls := "ModelDesk$Model", name := "addPlace", desc := "(I)V" } : Jvm.MethodName)) ∈ tbG := List.mem_filter.mpr ⟨List.mem_of_getElem? (i := 175) (by decide +kernel), by decide +kernel⟩
theorem t_176 : (Jvm.Cond.selects "ModelDesk$Model" ({ cls := "ModelDesk$Model", name := "addPlace", desc := "(I)V" } : Jvm.MethodName) ({ cls := "ModelDesk$Model", name := "addPlace", desc := "(I)V" } : Jvm.MethodName)) ∈ tbG := List.mem_filter.mpr ⟨List.mem_of_getElem? (i := 176) (by decide +kernel), by decide +kernel⟩
theorem t_177 : (Jvm.Cond.code ({ cls := "ModelDesk$Model", name := "addPlace", desc := "(I)V" } : Jvm.MethodName) prog_2_method_5_code (2 : Nat) (Option.none : Option Jvm.ClassFile.FieldType)) ∈ tbG := List.mem_filter.mpr ⟨List.mem_of_getElem? (i := 177) (by decide +kernel), by decide +kernel⟩
theorem t_178 : (Jvm.Cond.methodLink "ModelDesk$Model" (32 : Nat) ({ cls := "ModelDesk$Model", name := "isFull", desc := "()Z" } : Jvm.MethodName)) ∈ tbG := List.mem_filter.mpr ⟨List.mem_of_getElem? (i := 178) (by decide +kernel), by decide +kernel⟩
theorem t_179 : (Jvm.Cond.methodLink "ModelDesk$Reader" (49 : Nat) ({ cls := "ModelDesk$Reader", name := "isSign", desc := "(I)Z" } : Jvm.MethodName)) ∈ tbG := List.mem_filter.mpr ⟨List.mem_of_getElem? (i := 179) (by decide +kernel), by decide +kernel⟩
theorem t_180 : (Jvm.Cond.static ({ cls := "ModelDesk$Reader", name := "isSign", desc := "(I)Z" } : Jvm.MethodName)) ∈ tbG := List.mem_filter.mpr ⟨List.mem_of_getElem? (i := 180) (by decide +kernel), by decide +kernel⟩
theorem t_181 : (Jvm.Cond.code ({ cls := "ModelDesk$Reader", name := "isSign", desc := "(I)Z" } : Jvm.MethodName) prog_3_method_12_code (1 : Nat) (Option.some Jvm.ClassFile.FieldType.boolean)) ∈ tbG := List.mem_filter.mpr ⟨List.mem_of_getElem? (i := 181) (by decide +kernel), by decide +kernel⟩
theorem t_182 : (Jvm.Cond.methodLink "ModelDesk$Reader" (53 : Nat) ({ cls := "ModelDesk$Reader", name := "takeSign", desc := "(I)I" } : Jvm.MethodName)) ∈ tbG := List.mem_filter.mpr ⟨List.mem_of_getElem? (i := 182) (by decide +kernel), by decide +kernel⟩
theorem t_184 : (Jvm.Cond.instanceMethod ({ cls := "ModelDesk$Reader", name := "takeSign", desc := "(I)I" } : Jvm.MethodName)) ∈ tbG := List.mem_filter.mpr ⟨List.mem_of_getElem? (i := 184) (by decide +kernel), by decide +kernel⟩
theorem t_185 : (Jvm.Cond.code ({ cls := "ModelDesk$Reader", name := "takeSign", desc := "(I)I" } : Jvm.MethodName) prog_3_method_8_code (2 : Nat) (Option.some Jvm.ClassFile.FieldType.int)) ∈ tbG := List.mem_filter.mpr ⟨List.mem_of_getElem? (i := 185) (by decide +kernel), by decide +kernel⟩
theorem t_186 : (Jvm.Cond.methodLink "ModelDesk$Reader" (96 : Nat) ({ cls := "ModelDesk$Model", name := "connect", desc := "(JJ)V" } : Jvm.MethodName)) ∈ tbG := List.mem_filter.mpr ⟨List.mem_of_getElem? (i := 186) (by decide +kernel), by decide +kernel⟩
theorem t_187 : (Jvm.Cond.instanceMethod ({ cls := "ModelDesk$Model", name := "connect", desc := "(JJ)V" } : Jvm.MethodName)) ∈ tbG := List.mem_filter.mpr ⟨List.mem_of_getElem? (i := 187) (by decide +kernel), by decide +kernel⟩
theorem t_188 : (Jvm.Cond.selects "ModelDesk$Model" ({ cls := "ModelDesk$Model", name := "connect", desc := "(JJ)V" } : Jvm.MethodName) ({ cls := "ModelDesk$Model", name := "connect", desc := "(JJ)V" } : Jvm.MethodName)) ∈ tbG := List.mem_filter.mpr ⟨List.mem_of_getElem? (i := 188) (by decide +kernel), by decide +kernel⟩
theorem t_189 : (Jvm.Cond.code ({ cls := "ModelDesk$Model", name := "connect", desc := "(JJ)V" } : Jvm.MethodName) prog_2_method_6_code (6 : Nat) (Option.none : Option Jvm.ClassFile.FieldType)) ∈ tbG := List.mem_filter.mpr ⟨List.mem_of_getElem? (i := 189) (by decide +kernel), by decide +kernel⟩
theorem t_190 : (Jvm.Cond.methodLink "ModelDesk$Model" (36 : Nat) ({ cls := "ModelDesk$Model", name := "holds", desc := "(JI)Z" } : Jvm.MethodName)) ∈ tbG := List.mem_filter.mpr ⟨List.mem_of_getElem? (i := 190) (by decide +kernel), by decide +kernel⟩
theorem t_191 : (Jvm.Cond.static ({ cls := "ModelDesk$Model", name := "holds", desc := "(JI)Z" } : Jvm.MethodName)) ∈ tbG := List.mem_filter.mpr ⟨List.mem_of_getElem? (i := 191) (by decide +kernel), by decide +kernel⟩
theorem t_192 : (Jvm.Cond.code ({ cls := "ModelDesk$Model", name := "holds", desc := "(JI)Z" } : Jvm.MethodName) prog_2_method_12_code (3 : Nat) (Option.some Jvm.ClassFile.FieldType.boolean)) ∈ tbG := List.mem_filter.mpr ⟨List.mem_of_getElem? (i := 192) (by decide +kernel), by decide +kernel⟩
theorem t_193 : (Jvm.Cond.methodLink "ModelDesk$Reader" (56 : Nat) ({ cls := "ModelDesk$Reader", name := "close", desc := "()I" } : Jvm.MethodName)) ∈ tbG := List.mem_filter.mpr ⟨List.mem_of_getElem? (i := 193) (by decide +kernel), by decide +kernel⟩
theorem t_195 : (Jvm.Cond.instanceMethod ({ cls := "ModelDesk$Reader", name := "close", desc := "()I" } : Jvm.MethodName)) ∈ tbG := List.mem_filter.mpr ⟨List.mem_of_getElem? (i := 195) (by decide +kernel), by decide +kernel⟩
theorem t_196 : (Jvm.Cond.code ({ cls := "ModelDesk$Reader", name := "close", desc := "()I" } : Jvm.MethodName) prog_3_method_10_code (2 : Nat) (Option.some Jvm.ClassFile.FieldType.int)) ∈ tbG := List.mem_filter.mpr ⟨List.mem_of_getElem? (i := 196) (by decide +kernel), by decide +kernel⟩
theorem t_197 : (Jvm.Cond.methodLink "ModelDesk$Reader" (100 : Nat) ({ cls := "ModelDesk$Reader", name := "joinPart", desc := "(I)V" } : Jvm.MethodName)) ∈ tbG := List.mem_filter.mpr ⟨List.mem_of_getElem? (i := 197) (by decide +kernel), by decide +kernel⟩
theorem t_199 : (Jvm.Cond.instanceMethod ({ cls := "ModelDesk$Reader", name := "joinPart", desc := "(I)V" } : Jvm.MethodName)) ∈ tbG := List.mem_filter.mpr ⟨List.mem_of_getElem? (i := 199) (by decide +kernel), by decide +kernel⟩
theorem t_200 : (Jvm.Cond.code ({ cls := "ModelDesk$Reader", name := "joinPart", desc := "(I)V" } : Jvm.MethodName) prog_3_method_11_code (2 : Nat) (Option.none : Option Jvm.ClassFile.FieldType)) ∈ tbG := List.mem_filter.mpr ⟨List.mem_of_getElem? (i := 200) (by decide +kernel), by decide +kernel⟩
theorem t_201 : (Jvm.Cond.methodLink "ModelDesk$Reader" (59 : Nat) ({ cls := "ModelDesk$Reader", name := "takeSeparator", desc := "(I)I" } : Jvm.MethodName)) ∈ tbG := List.mem_filter.mpr ⟨List.mem_of_getElem? (i := 201) (by decide +kernel), by decide +kernel⟩
theorem t_203 : (Jvm.Cond.instanceMethod ({ cls := "ModelDesk$Reader", name := "takeSeparator", desc := "(I)I" } : Jvm.MethodName)) ∈ tbG := List.mem_filter.mpr ⟨List.mem_of_getElem? (i := 203) (by decide +kernel), by decide +kernel⟩
theorem t_204 : (Jvm.Cond.code ({ cls := "ModelDesk$Reader", name := "takeSeparator", desc := "(I)I" } : Jvm.MethodName) prog_3_method_9_code (3 : Nat) (Option.some Jvm.ClassFile.FieldType.int)) ∈ tbG := List.mem_filter.mpr ⟨List.mem_of_getElem? (i := 204) (by decide +kernel), by decide +kernel⟩
theorem t_205 : (Jvm.Cond.methodLink "ModelDesk" (98 : Nat) ({ cls := "ModelDesk$Reader", name := "finish", desc := "()Z" } : Jvm.MethodName)) ∈ tbG := List.mem_filter.mpr ⟨List.mem_of_getElem? (i := 205) (by decide +kernel), by decide +kernel⟩
theorem t_206 : (Jvm.Cond.instanceMethod ({ cls := "ModelDesk$Reader", name := "finish", desc := "()Z" } : Jvm.MethodName)) ∈ tbG := List.mem_filter.mpr ⟨List.mem_of_getElem? (i := 206) (by decide +kernel), by decide +kernel⟩
theorem t_207 : (Jvm.Cond.selects "ModelDesk$Reader" ({ cls := "ModelDesk$Reader", name := "finish", desc := "()Z" } : Jvm.MethodName) ({ cls := "ModelDesk$Reader", name := "finish", desc := "()Z" } : Jvm.MethodName)) ∈ tbG := List.mem_filter.mpr ⟨List.mem_of_getElem? (i := 207) (by decide +kernel), by decide +kernel⟩
theorem t_208 : (Jvm.Cond.code ({ cls := "ModelDesk$Reader", name := "finish", desc := "()Z" } : Jvm.MethodName) prog_3_method_4_code (1 : Nat) (Option.some Jvm.ClassFile.FieldType.boolean)) ∈ tbG := List.mem_filter.mpr ⟨List.mem_of_getElem? (i := 208) (by decide +kernel), by decide +kernel⟩
theorem t_209 : (Jvm.Cond.methodLink "ModelDesk" (33 : Nat) ({ cls := "ModelDesk$Model", name := "clear", desc := "()V" } : Jvm.MethodName)) ∈ tbG := List.mem_filter.mpr ⟨List.mem_of_getElem? (i := 209) (by decide +kernel), by decide +kernel⟩
theorem t_210 : (Jvm.Cond.methodLink "ModelDesk" (38 : Nat) ({ cls := "ModelDesk", name := "startRow", desc := "()V" } : Jvm.MethodName)) ∈ tbG := List.mem_filter.mpr ⟨List.mem_of_getElem? (i := 210) (by decide +kernel), by decide +kernel⟩
theorem t_212 : (Jvm.Cond.instanceMethod ({ cls := "ModelDesk", name := "startRow", desc := "()V" } : Jvm.MethodName)) ∈ tbG := List.mem_filter.mpr ⟨List.mem_of_getElem? (i := 212) (by decide +kernel), by decide +kernel⟩
theorem t_213 : (Jvm.Cond.code ({ cls := "ModelDesk", name := "startRow", desc := "()V" } : Jvm.MethodName) prog_1_method_16_code (1 : Nat) (Option.none : Option Jvm.ClassFile.FieldType)) ∈ tbG := List.mem_filter.mpr ⟨List.mem_of_getElem? (i := 213) (by decide +kernel), by decide +kernel⟩
theorem t_214 : (Jvm.Cond.methodLink "ModelDeskLaw" (25 : Nat) ({ cls := "ModelDesk", name := "isClear", desc := "()Z" } : Jvm.MethodName)) ∈ tbG := List.mem_filter.mpr ⟨List.mem_of_getElem? (i := 214) (by decide +kernel), by decide +kernel⟩
theorem t_215 : (Jvm.Cond.instanceMethod ({ cls := "ModelDesk", name := "isClear", desc := "()Z" } : Jvm.MethodName)) ∈ tbG := List.mem_filter.mpr ⟨List.mem_of_getElem? (i := 215) (by decide +kernel), by decide +kernel⟩
theorem t_216 : (Jvm.Cond.selects "ModelDesk" ({ cls := "ModelDesk", name := "isClear", desc := "()Z" } : Jvm.MethodName) ({ cls := "ModelDesk", name := "isClear", desc := "()Z" } : Jvm.MethodName)) ∈ tbG := List.mem_filter.mpr ⟨List.mem_of_getElem? (i := 216) (by decide +kernel), by decide +kernel⟩
theorem t_217 : (Jvm.Cond.code ({ cls := "ModelDesk", name := "isClear", desc := "()Z" } : Jvm.MethodName) prog_1_method_4_code (1 : Nat) (Option.some Jvm.ClassFile.FieldType.boolean)) ∈ tbG := List.mem_filter.mpr ⟨List.mem_of_getElem? (i := 217) (by decide +kernel), by decide +kernel⟩
theorem t_218 : (Jvm.Cond.methodLink "ModelDesk" (44 : Nat) ({ cls := "ModelDesk$Model", name := "competingNames", desc := "()I" } : Jvm.MethodName)) ∈ tbG := List.mem_filter.mpr ⟨List.mem_of_getElem? (i := 218) (by decide +kernel), by decide +kernel⟩
theorem t_219 : (Jvm.Cond.instanceMethod ({ cls := "ModelDesk$Model", name := "competingNames", desc := "()I" } : Jvm.MethodName)) ∈ tbG := List.mem_filter.mpr ⟨List.mem_of_getElem? (i := 219) (by decide +kernel), by decide +kernel⟩
theorem t_220 : (Jvm.Cond.selects "ModelDesk$Model" ({ cls := "ModelDesk$Model", name := "competingNames", desc := "()I" } : Jvm.MethodName) ({ cls := "ModelDesk$Model", name := "competingNames", desc := "()I" } : Jvm.MethodName)) ∈ tbG := List.mem_filter.mpr ⟨List.mem_of_getElem? (i := 220) (by decide +kernel), by decide +kernel⟩
theorem t_221 : (Jvm.Cond.code ({ cls := "ModelDesk$Model", name := "competingNames", desc := "()I" } : Jvm.MethodName) prog_2_method_10_code (3 : Nat) (Option.some Jvm.ClassFile.FieldType.int)) ∈ tbG := List.mem_filter.mpr ⟨List.mem_of_getElem? (i := 221) (by decide +kernel), by decide +kernel⟩
theorem t_222 : (Jvm.Cond.methodLink "ModelDesk$Model" (40 : Nat) ({ cls := "ModelDesk$Model", name := "namesTwiceIn", desc := "(J)I" } : Jvm.MethodName)) ∈ tbG := List.mem_filter.mpr ⟨List.mem_of_getElem? (i := 222) (by decide +kernel), by decide +kernel⟩
theorem t_224 : (Jvm.Cond.instanceMethod ({ cls := "ModelDesk$Model", name := "namesTwiceIn", desc := "(J)I" } : Jvm.MethodName)) ∈ tbG := List.mem_filter.mpr ⟨List.mem_of_getElem? (i := 224) (by decide +kernel), by decide +kernel⟩
theorem t_225 : (Jvm.Cond.code ({ cls := "ModelDesk$Model", name := "namesTwiceIn", desc := "(J)I" } : Jvm.MethodName) prog_2_method_11_code (7 : Nat) (Option.some Jvm.ClassFile.FieldType.int)) ∈ tbG := List.mem_filter.mpr ⟨List.mem_of_getElem? (i := 225) (by decide +kernel), by decide +kernel⟩
theorem t_226 : (Jvm.Cond.methodLink "ModelDeskLaw" (30 : Nat) ({ cls := "ModelDesk", name := "competing", desc := "()I" } : Jvm.MethodName)) ∈ tbG := List.mem_filter.mpr ⟨List.mem_of_getElem? (i := 226) (by decide +kernel), by decide +kernel⟩
theorem t_227 : (Jvm.Cond.instanceMethod ({ cls := "ModelDesk", name := "competing", desc := "()I" } : Jvm.MethodName)) ∈ tbG := List.mem_filter.mpr ⟨List.mem_of_getElem? (i := 227) (by decide +kernel), by decide +kernel⟩
theorem t_228 : (Jvm.Cond.selects "ModelDesk" ({ cls := "ModelDesk", name := "competing", desc := "()I" } : Jvm.MethodName) ({ cls := "ModelDesk", name := "competing", desc := "()I" } : Jvm.MethodName)) ∈ tbG := List.mem_filter.mpr ⟨List.mem_of_getElem? (i := 228) (by decide +kernel), by decide +kernel⟩
theorem t_229 : (Jvm.Cond.code ({ cls := "ModelDesk", name := "competing", desc := "()I" } : Jvm.MethodName) prog_1_method_5_code (1 : Nat) (Option.some Jvm.ClassFile.FieldType.int)) ∈ tbG := List.mem_filter.mpr ⟨List.mem_of_getElem? (i := 229) (by decide +kernel), by decide +kernel⟩
theorem t_230 : (Jvm.Cond.methodLink "ModelDeskLaw" (34 : Nat) ({ cls := "ModelDesk", name := "isEmpty", desc := "()Z" } : Jvm.MethodName)) ∈ tbG := List.mem_filter.mpr ⟨List.mem_of_getElem? (i := 230) (by decide +kernel), by decide +kernel⟩
theorem t_231 : (Jvm.Cond.instanceMethod ({ cls := "ModelDesk", name := "isEmpty", desc := "()Z" } : Jvm.MethodName)) ∈ tbG := List.mem_filter.mpr ⟨List.mem_of_getElem? (i := 231) (by decide +kernel), by decide +kernel⟩
theorem t_232 : (Jvm.Cond.selects "ModelDesk" ({ cls := "ModelDesk", name := "isEmpty", desc := "()Z" } : Jvm.MethodName) ({ cls := "ModelDesk", name := "isEmpty", desc := "()Z" } : Jvm.MethodName)) ∈ tbG := List.mem_filter.mpr ⟨List.mem_of_getElem? (i := 232) (by decide +kernel), by decide +kernel⟩
theorem t_233 : (Jvm.Cond.code ({ cls := "ModelDesk", name := "isEmpty", desc := "()Z" } : Jvm.MethodName) prog_1_method_6_code (1 : Nat) (Option.some Jvm.ClassFile.FieldType.boolean)) ∈ tbG := List.mem_filter.mpr ⟨List.mem_of_getElem? (i := 233) (by decide +kernel), by decide +kernel⟩
theorem t_234 : (Jvm.Cond.methodLink "ModelDeskLaw" (38 : Nat) ({ cls := "ModelDesk", name := "first", desc := "()J" } : Jvm.MethodName)) ∈ tbG := List.mem_filter.mpr ⟨List.mem_of_getElem? (i := 234) (by decide +kernel), by decide +kernel⟩
theorem t_235 : (Jvm.Cond.instanceMethod ({ cls := "ModelDesk", name := "first", desc := "()J" } : Jvm.MethodName)) ∈ tbG := List.mem_filter.mpr ⟨List.mem_of_getElem? (i := 235) (by decide +kernel), by decide +kernel⟩
theorem t_236 : (Jvm.Cond.selects "ModelDesk" ({ cls := "ModelDesk", name := "first", desc := "()J" } : Jvm.MethodName) ({ cls := "ModelDesk", name := "first", desc := "()J" } : Jvm.MethodName)) ∈ tbG := List.mem_filter.mpr ⟨List.mem_of_getElem? (i := 236) (by decide +kernel), by decide +kernel⟩
theorem t_237 : (Jvm.Cond.code ({ cls := "ModelDesk", name := "first", desc := "()J" } : Jvm.MethodName) prog_1_method_7_code (1 : Nat) (Option.some Jvm.ClassFile.FieldType.long)) ∈ tbG := List.mem_filter.mpr ⟨List.mem_of_getElem? (i := 237) (by decide +kernel), by decide +kernel⟩
theorem t_238 : (Jvm.Cond.methodLink "ModelDeskLaw" (43 : Nat) ({ cls := "ModelDesk", name := "next", desc := "(I)J" } : Jvm.MethodName)) ∈ tbG := List.mem_filter.mpr ⟨List.mem_of_getElem? (i := 238) (by decide +kernel), by decide +kernel⟩
theorem t_239 : (Jvm.Cond.instanceMethod ({ cls := "ModelDesk", name := "next", desc := "(I)J" } : Jvm.MethodName)) ∈ tbG := List.mem_filter.mpr ⟨List.mem_of_getElem? (i := 239) (by decide +kernel), by decide +kernel⟩
theorem t_240 : (Jvm.Cond.selects "ModelDesk" ({ cls := "ModelDesk", name := "next", desc := "(I)J" } : Jvm.MethodName) ({ cls := "ModelDesk", name := "next", desc := "(I)J" } : Jvm.MethodName)) ∈ tbG := List.mem_filter.mpr ⟨List.mem_of_getElem? (i := 240) (by decide +kernel), by decide +kernel⟩
theorem t_241 : (Jvm.Cond.code ({ cls := "ModelDesk", name := "next", desc := "(I)J" } : Jvm.MethodName) prog_1_method_8_code (2 : Nat) (Option.some Jvm.ClassFile.FieldType.long)) ∈ tbG := List.mem_filter.mpr ⟨List.mem_of_getElem? (i := 241) (by decide +kernel), by decide +kernel⟩
theorem t_242 : (Jvm.Cond.methodLink "ModelDesk" (55 : Nat) ({ cls := "ModelDesk$Model", name := "has", desc := "(I)Z" } : Jvm.MethodName)) ∈ tbG := List.mem_filter.mpr ⟨List.mem_of_getElem? (i := 242) (by decide +kernel), by decide +kernel⟩
theorem t_243 : (Jvm.Cond.instanceMethod ({ cls := "ModelDesk$Model", name := "has", desc := "(I)Z" } : Jvm.MethodName)) ∈ tbG := List.mem_filter.mpr ⟨List.mem_of_getElem? (i := 243) (by decide +kernel), by decide +kernel⟩
theorem t_244 : (Jvm.Cond.selects "ModelDesk$Model" ({ cls := "ModelDesk$Model", name := "has", desc := "(I)Z" } : Jvm.MethodName) ({ cls := "ModelDesk$Model", name := "has", desc := "(I)Z" } : Jvm.MethodName)) ∈ tbG := List.mem_filter.mpr ⟨List.mem_of_getElem? (i := 244) (by decide +kernel), by decide +kernel⟩
theorem t_245 : (Jvm.Cond.code ({ cls := "ModelDesk$Model", name := "has", desc := "(I)Z" } : Jvm.MethodName) prog_2_method_4_code (2 : Nat) (Option.some Jvm.ClassFile.FieldType.boolean)) ∈ tbG := List.mem_filter.mpr ⟨List.mem_of_getElem? (i := 245) (by decide +kernel), by decide +kernel⟩
theorem t_246 : (Jvm.Cond.methodLink "ModelDeskLaw" (48 : Nat) ({ cls := "ModelDesk", name := "last", desc := "()J" } : Jvm.MethodName)) ∈ tbG := List.mem_filter.mpr ⟨List.mem_of_getElem? (i := 246) (by decide +kernel), by decide +kernel⟩
theorem t_247 : (Jvm.Cond.instanceMethod ({ cls := "ModelDesk", name := "last", desc := "()J" } : Jvm.MethodName)) ∈ tbG := List.mem_filter.mpr ⟨List.mem_of_getElem? (i := 247) (by decide +kernel), by decide +kernel⟩
theorem t_248 : (Jvm.Cond.selects "ModelDesk" ({ cls := "ModelDesk", name := "last", desc := "()J" } : Jvm.MethodName) ({ cls := "ModelDesk", name := "last", desc := "()J" } : Jvm.MethodName)) ∈ tbG := List.mem_filter.mpr ⟨List.mem_of_getElem? (i := 248) (by decide +kernel), by decide +kernel⟩
theorem t_249 : (Jvm.Cond.code ({ cls := "ModelDesk", name := "last", desc := "()J" } : Jvm.MethodName) prog_1_method_9_code (1 : Nat) (Option.some Jvm.ClassFile.FieldType.long)) ∈ tbG := List.mem_filter.mpr ⟨List.mem_of_getElem? (i := 249) (by decide +kernel), by decide +kernel⟩
theorem t_250 : (Jvm.Cond.methodLink "ModelDeskLaw" (52 : Nat) ({ cls := "ModelDesk", name := "name", desc := "(I)I" } : Jvm.MethodName)) ∈ tbG := List.mem_filter.mpr ⟨List.mem_of_getElem? (i := 250) (by decide +kernel), by decide +kernel⟩
theorem t_251 : (Jvm.Cond.instanceMethod ({ cls := "ModelDesk", name := "name", desc := "(I)I" } : Jvm.MethodName)) ∈ tbG := List.mem_filter.mpr ⟨List.mem_of_getElem? (i := 251) (by decide +kernel), by decide +kernel⟩
theorem t_252 : (Jvm.Cond.selects "ModelDesk" ({ cls := "ModelDesk", name := "name", desc := "(I)I" } : Jvm.MethodName) ({ cls := "ModelDesk", name := "name", desc := "(I)I" } : Jvm.MethodName)) ∈ tbG := List.mem_filter.mpr ⟨List.mem_of_getElem? (i := 252) (by decide +kernel), by decide +kernel⟩
theorem t_253 : (Jvm.Cond.code ({ cls := "ModelDesk", name := "name", desc := "(I)I" } : Jvm.MethodName) prog_1_method_10_code (2 : Nat) (Option.some Jvm.ClassFile.FieldType.int)) ∈ tbG := List.mem_filter.mpr ⟨List.mem_of_getElem? (i := 253) (by decide +kernel), by decide +kernel⟩
theorem t_254 : (Jvm.Cond.methodLink "ModelDeskLaw" (57 : Nat) ({ cls := "ModelDesk", name := "come", desc := "(I)Z" } : Jvm.MethodName)) ∈ tbG := List.mem_filter.mpr ⟨List.mem_of_getElem? (i := 254) (by decide +kernel), by decide +kernel⟩
theorem t_255 : (Jvm.Cond.instanceMethod ({ cls := "ModelDesk", name := "come", desc := "(I)Z" } : Jvm.MethodName)) ∈ tbG := List.mem_filter.mpr ⟨List.mem_of_getElem? (i := 255) (by decide +kernel), by decide +kernel⟩
theorem t_256 : (Jvm.Cond.selects "ModelDesk" ({ cls := "ModelDesk", name := "come", desc := "(I)Z" } : Jvm.MethodName) ({ cls := "ModelDesk", name := "come", desc := "(I)Z" } : Jvm.MethodName)) ∈ tbG := List.mem_filter.mpr ⟨List.mem_of_getElem? (i := 256) (by decide +kernel), by decide +kernel⟩
theorem t_257 : (Jvm.Cond.code ({ cls := "ModelDesk", name := "come", desc := "(I)Z" } : Jvm.MethodName) prog_1_method_11_code (4 : Nat) (Option.some Jvm.ClassFile.FieldType.boolean)) ∈ tbG := List.mem_filter.mpr ⟨List.mem_of_getElem? (i := 257) (by decide +kernel), by decide +kernel⟩
theorem t_258 : (Jvm.Cond.methodLink "ModelDesk" (73 : Nat) ({ cls := "ModelDesk$Model", name := "placesNamed", desc := "(IJ)J" } : Jvm.MethodName)) ∈ tbG := List.mem_filter.mpr ⟨List.mem_of_getElem? (i := 258) (by decide +kernel), by decide +kernel⟩
theorem t_259 : (Jvm.Cond.instanceMethod ({ cls := "ModelDesk$Model", name := "placesNamed", desc := "(IJ)J" } : Jvm.MethodName)) ∈ tbG := List.mem_filter.mpr ⟨List.mem_of_getElem? (i := 259) (by decide +kernel), by decide +kernel⟩
theorem t_260 : (Jvm.Cond.selects "ModelDesk$Model" ({ cls := "ModelDesk$Model", name := "placesNamed", desc := "(IJ)J" } : Jvm.MethodName) ({ cls := "ModelDesk$Model", name := "placesNamed", desc := "(IJ)J" } : Jvm.MethodName)) ∈ tbG := List.mem_filter.mpr ⟨List.mem_of_getElem? (i := 260) (by decide +kernel), by decide +kernel⟩
theorem t_261 : (Jvm.Cond.code ({ cls := "ModelDesk$Model", name := "placesNamed", desc := "(IJ)J" } : Jvm.MethodName) prog_2_method_8_code (7 : Nat) (Option.some Jvm.ClassFile.FieldType.long)) ∈ tbG := List.mem_filter.mpr ⟨List.mem_of_getElem? (i := 261) (by decide +kernel), by decide +kernel⟩
theorem t_262 : (Jvm.Cond.methodLink "ModelDesk" (77 : Nat) ({ cls := "ModelDesk$Model", name := "nextBehindAny", desc := "(J)J" } : Jvm.MethodName)) ∈ tbG := List.mem_filter.mpr ⟨List.mem_of_getElem? (i := 262) (by decide +kernel), by decide +kernel⟩
theorem t_263 : (Jvm.Cond.instanceMethod ({ cls := "ModelDesk$Model", name := "nextBehindAny", desc := "(J)J" } : Jvm.MethodName)) ∈ tbG := List.mem_filter.mpr ⟨List.mem_of_getElem? (i := 263) (by decide +kernel), by decide +kernel⟩
theorem t_264 : (Jvm.Cond.selects "ModelDesk$Model" ({ cls := "ModelDesk$Model", name := "nextBehindAny", desc := "(J)J" } : Jvm.MethodName) ({ cls := "ModelDesk$Model", name := "nextBehindAny", desc := "(J)J" } : Jvm.MethodName)) ∈ tbG := List.mem_filter.mpr ⟨List.mem_of_getElem? (i := 264) (by decide +kernel), by decide +kernel⟩
theorem t_265 : (Jvm.Cond.code ({ cls := "ModelDesk$Model", name := "nextBehindAny", desc := "(J)J" } : Jvm.MethodName) prog_2_method_7_code (6 : Nat) (Option.some Jvm.ClassFile.FieldType.long)) ∈ tbG := List.mem_filter.mpr ⟨List.mem_of_getElem? (i := 265) (by decide +kernel), by decide +kernel⟩
theorem t_266 : (Jvm.Cond.methodLink "ModelDeskLaw" (62 : Nat) ({ cls := "ModelDesk", name := "isWhole", desc := "()Z" } : Jvm.MethodName)) ∈ tbG := List.mem_filter.mpr ⟨List.mem_of_getElem? (i := 266) (by decide +kernel), by decide +kernel⟩
theorem t_267 : (Jvm.Cond.instanceMethod ({ cls := "ModelDesk", name := "isWhole", desc := "()Z" } : Jvm.MethodName)) ∈ tbG := List.mem_filter.mpr ⟨List.mem_of_getElem? (i := 267) (by decide +kernel), by decide +kernel⟩
theorem t_268 : (Jvm.Cond.selects "ModelDesk" ({ cls := "ModelDesk", name := "isWhole", desc := "()Z" } : Jvm.MethodName) ({ cls := "ModelDesk", name := "isWhole", desc := "()Z" } : Jvm.MethodName)) ∈ tbG := List.mem_filter.mpr ⟨List.mem_of_getElem? (i := 268) (by decide +kernel), by decide +kernel⟩
theorem t_269 : (Jvm.Cond.code ({ cls := "ModelDesk", name := "isWhole", desc := "()Z" } : Jvm.MethodName) prog_1_method_12_code (1 : Nat) (Option.some Jvm.ClassFile.FieldType.boolean)) ∈ tbG := List.mem_filter.mpr ⟨List.mem_of_getElem? (i := 269) (by decide +kernel), by decide +kernel⟩
theorem t_270 : (Jvm.Cond.methodLink "ModelDeskLaw" (66 : Nat) ({ cls := "ModelDesk", name := "may", desc := "()I" } : Jvm.MethodName)) ∈ tbG := List.mem_filter.mpr ⟨List.mem_of_getElem? (i := 270) (by decide +kernel), by decide +kernel⟩
theorem t_271 : (Jvm.Cond.instanceMethod ({ cls := "ModelDesk", name := "may", desc := "()I" } : Jvm.MethodName)) ∈ tbG := List.mem_filter.mpr ⟨List.mem_of_getElem? (i := 271) (by decide +kernel), by decide +kernel⟩
theorem t_272 : (Jvm.Cond.selects "ModelDesk" ({ cls := "ModelDesk", name := "may", desc := "()I" } : Jvm.MethodName) ({ cls := "ModelDesk", name := "may", desc := "()I" } : Jvm.MethodName)) ∈ tbG := List.mem_filter.mpr ⟨List.mem_of_getElem? (i := 272) (by decide +kernel), by decide +kernel⟩
theorem t_273 : (Jvm.Cond.code ({ cls := "ModelDesk", name := "may", desc := "()I" } : Jvm.MethodName) prog_1_method_13_code (1 : Nat) (Option.some Jvm.ClassFile.FieldType.int)) ∈ tbG := List.mem_filter.mpr ⟨List.mem_of_getElem? (i := 273) (by decide +kernel), by decide +kernel⟩
theorem t_274 : (Jvm.Cond.methodLink "ModelDesk" (87 : Nat) ({ cls := "ModelDesk$Model", name := "namesOf", desc := "(J)I" } : Jvm.MethodName)) ∈ tbG := List.mem_filter.mpr ⟨List.mem_of_getElem? (i := 274) (by decide +kernel), by decide +kernel⟩
theorem t_275 : (Jvm.Cond.instanceMethod ({ cls := "ModelDesk$Model", name := "namesOf", desc := "(J)I" } : Jvm.MethodName)) ∈ tbG := List.mem_filter.mpr ⟨List.mem_of_getElem? (i := 275) (by decide +kernel), by decide +kernel⟩
theorem t_276 : (Jvm.Cond.selects "ModelDesk$Model" ({ cls := "ModelDesk$Model", name := "namesOf", desc := "(J)I" } : Jvm.MethodName) ({ cls := "ModelDesk$Model", name := "namesOf", desc := "(J)I" } : Jvm.MethodName)) ∈ tbG := List.mem_filter.mpr ⟨List.mem_of_getElem? (i := 276) (by decide +kernel), by decide +kernel⟩
theorem t_277 : (Jvm.Cond.code ({ cls := "ModelDesk$Model", name := "namesOf", desc := "(J)I" } : Jvm.MethodName) prog_2_method_9_code (5 : Nat) (Option.some Jvm.ClassFile.FieldType.int)) ∈ tbG := List.mem_filter.mpr ⟨List.mem_of_getElem? (i := 277) (by decide +kernel), by decide +kernel⟩
theorem t_278 : (Jvm.Cond.methodLink "ModelDeskLaw" (70 : Nat) ({ cls := "ModelDesk", name := "again", desc := "()I" } : Jvm.MethodName)) ∈ tbG := List.mem_filter.mpr ⟨List.mem_of_getElem? (i := 278) (by decide +kernel), by decide +kernel⟩
theorem t_279 : (Jvm.Cond.instanceMethod ({ cls := "ModelDesk", name := "again", desc := "()I" } : Jvm.MethodName)) ∈ tbG := List.mem_filter.mpr ⟨List.mem_of_getElem? (i := 279) (by decide +kernel), by decide +kernel⟩
theorem t_280 : (Jvm.Cond.selects "ModelDesk" ({ cls := "ModelDesk", name := "again", desc := "()I" } : Jvm.MethodName) ({ cls := "ModelDesk", name := "again", desc := "()I" } : Jvm.MethodName)) ∈ tbG := List.mem_filter.mpr ⟨List.mem_of_getElem? (i := 280) (by decide +kernel), by decide +kernel⟩
theorem t_281 : (Jvm.Cond.code ({ cls := "ModelDesk", name := "again", desc := "()I" } : Jvm.MethodName) prog_1_method_14_code (2 : Nat) (Option.some Jvm.ClassFile.FieldType.int)) ∈ tbG := List.mem_filter.mpr ⟨List.mem_of_getElem? (i := 281) (by decide +kernel), by decide +kernel⟩
theorem t_282 : (Jvm.Cond.classLink "ModelDeskLaw" (10 : Nat) "ModelDeskModel") ∈ tbG := List.mem_filter.mpr ⟨List.mem_of_getElem? (i := 282) (by decide +kernel), by decide +kernel⟩
theorem t_283 : (Jvm.Cond.instantiable "ModelDeskModel" (18 : Nat)) ∈ tbG := List.mem_filter.mpr ⟨List.mem_of_getElem? (i := 283) (by decide +kernel), by decide +kernel⟩
theorem t_284 : (Jvm.Cond.methodLink "ModelDeskLaw" (12 : Nat) ({ cls := "ModelDeskModel", name := "<init>", desc := "()V" } : Jvm.MethodName)) ∈ tbG := List.mem_filter.mpr ⟨List.mem_of_getElem? (i := 284) (by decide +kernel), by decide +kernel⟩
theorem t_285 : (Jvm.Cond.instanceMethod ({ cls := "ModelDeskModel", name := "<init>", desc := "()V" } : Jvm.MethodName)) ∈ tbG := List.mem_filter.mpr ⟨List.mem_of_getElem? (i := 285) (by decide +kernel), by decide +kernel⟩
theorem t_286 : (Jvm.Cond.code ({ cls := "ModelDeskModel", name := "<init>", desc := "()V" } : Jvm.MethodName) prog_5_method_1_code (1 : Nat) (Option.none : Option Jvm.ClassFile.FieldType)) ∈ tbG := List.mem_filter.mpr ⟨List.mem_of_getElem? (i := 286) (by decide +kernel), by decide +kernel⟩
theorem t_287 : (Jvm.Cond.methodLink "ModelDeskModel" (1 : Nat) ({ cls := "java/lang/Object", name := "<init>", desc := "()V" } : Jvm.MethodName)) ∈ tbG := List.mem_filter.mpr ⟨List.mem_of_getElem? (i := 287) (by decide +kernel), by decide +kernel⟩
theorem t_288 : (Jvm.Cond.fieldLink "ModelDeskModel" (7 : Nat) "ModelDeskModel" "text" "[I") ∈ tbG := List.mem_filter.mpr ⟨List.mem_of_getElem? (i := 288) (by decide +kernel), by decide +kernel⟩
theorem t_289 : (Jvm.Cond.fieldLink "ModelDeskModel" (41 : Nat) "ModelDeskModel" "size" "I") ∈ tbG := List.mem_filter.mpr ⟨List.mem_of_getElem? (i := 289) (by decide +kernel), by decide +kernel⟩
theorem t_290 : (Jvm.Cond.fieldLink "ModelDeskModel" (47 : Nat) "ModelDeskModel" "nodes" "I") ∈ tbG := List.mem_filter.mpr ⟨List.mem_of_getElem? (i := 290) (by decide +kernel), by decide +kernel⟩
theorem t_291 : (Jvm.Cond.fieldLink "ModelDeskModel" (13 : Nat) "ModelDeskModel" "kinds" "[I") ∈ tbG := List.mem_filter.mpr ⟨List.mem_of_getElem? (i := 291) (by decide +kernel), by decide +kernel⟩
theorem t_292 : (Jvm.Cond.fieldLink "ModelDeskModel" (16 : Nat) "ModelDeskModel" "parents" "[I") ∈ tbG := List.mem_filter.mpr ⟨List.mem_of_getElem? (i := 292) (by decide +kernel), by decide +kernel⟩
theorem t_293 : (Jvm.Cond.fieldLink "ModelDeskModel" (19 : Nat) "ModelDeskModel" "before" "[I") ∈ tbG := List.mem_filter.mpr ⟨List.mem_of_getElem? (i := 293) (by decide +kernel), by decide +kernel⟩
theorem t_294 : (Jvm.Cond.fieldLink "ModelDeskModel" (22 : Nat) "ModelDeskModel" "after" "[I") ∈ tbG := List.mem_filter.mpr ⟨List.mem_of_getElem? (i := 294) (by decide +kernel), by decide +kernel⟩
theorem t_295 : (Jvm.Cond.fieldLink "ModelDeskModel" (25 : Nat) "ModelDeskModel" "missing" "[Z") ∈ tbG := List.mem_filter.mpr ⟨List.mem_of_getElem? (i := 295) (by decide +kernel), by decide +kernel⟩
theorem t_296 : (Jvm.Cond.fieldLink "ModelDeskModel" (64 : Nat) "ModelDeskModel" "places" "I") ∈ tbG := List.mem_filter.mpr ⟨List.mem_of_getElem? (i := 296) (by decide +kernel), by decide +kernel⟩
theorem t_297 : (Jvm.Cond.fieldLink "ModelDeskModel" (29 : Nat) "ModelDeskModel" "leaf" "[I") ∈ tbG := List.mem_filter.mpr ⟨List.mem_of_getElem? (i := 297) (by decide +kernel), by decide +kernel⟩
theorem t_298 : (Jvm.Cond.fieldLink "ModelDeskModel" (32 : Nat) "ModelDeskModel" "names" "[I") ∈ tbG := List.mem_filter.mpr ⟨List.mem_of_getElem? (i := 298) (by decide +kernel), by decide +kernel⟩
theorem t_299 : (Jvm.Cond.fieldLink "ModelDeskModel" (96 : Nat) "ModelDeskModel" "isModel" "Z") ∈ tbG := List.mem_filter.mpr ⟨List.mem_of_getElem? (i := 299) (by decide +kernel), by decide +kernel⟩
theorem t_300 : (Jvm.Cond.fieldLink "ModelDeskModel" (50 : Nat) "ModelDeskModel" "depth" "I") ∈ tbG := List.mem_filter.mpr ⟨List.mem_of_getElem? (i := 300) (by decide +kernel), by decide +kernel⟩
theorem t_301 : (Jvm.Cond.fieldLink "ModelDeskModel" (35 : Nat) "ModelDeskModel" "lasts" "[I") ∈ tbG := List.mem_filter.mpr ⟨List.mem_of_getElem? (i := 301) (by decide +kernel), by decide +kernel⟩
theorem t_302 : (Jvm.Cond.fieldLink "ModelDeskModel" (38 : Nat) "ModelDeskModel" "sorts" "[I") ∈ tbG := List.mem_filter.mpr ⟨List.mem_of_getElem? (i := 302) (by decide +kernel), by decide +kernel⟩
theorem t_303 : (Jvm.Cond.fieldLink "ModelDeskModel" (83 : Nat) "ModelDeskModel" "root" "I") ∈ tbG := List.mem_filter.mpr ⟨List.mem_of_getElem? (i := 303) (by decide +kernel), by decide +kernel⟩
theorem t_304 : (Jvm.Cond.fieldLink "ModelDeskModel" (86 : Nat) "ModelDeskModel" "came" "I") ∈ tbG := List.mem_filter.mpr ⟨List.mem_of_getElem? (i := 304) (by decide +kernel), by decide +kernel⟩
theorem t_305 : (Jvm.Cond.fieldLink "ModelDeskModel" (89 : Nat) "ModelDeskModel" "now" "J") ∈ tbG := List.mem_filter.mpr ⟨List.mem_of_getElem? (i := 305) (by decide +kernel), by decide +kernel⟩
theorem t_306 : (Jvm.Cond.laysFinal "ModelDeskModel" "ModelDeskModel" "text" "[I") ∈ tbG := List.mem_filter.mpr ⟨List.mem_of_getElem? (i := 306) (by decide +kernel), by decide +kernel⟩
theorem t_307 : (Jvm.Cond.soleField "ModelDeskModel" "text") ∈ tbG := List.mem_filter.mpr ⟨List.mem_of_getElem? (i := 307) (by decide +kernel), by decide +kernel⟩
theorem t_308 : (Jvm.Cond.lays "ModelDeskModel" "ModelDeskModel" "size" "I") ∈ tbG := List.mem_filter.mpr ⟨List.mem_of_getElem? (i := 308) (by decide +kernel), by decide +kernel⟩
theorem t_309 : (Jvm.Cond.soleField "ModelDeskModel" "size") ∈ tbG := List.mem_filter.mpr ⟨List.mem_of_getElem? (i := 309) (by decide +kernel), by decide +kernel⟩
theorem t_310 : (Jvm.Cond.lays "ModelDeskModel" "ModelDeskModel" "nodes" "I") ∈ tbG := List.mem_filter.mpr ⟨List.mem_of_getElem? (i := 310) (by decide +kernel), by decide +kernel⟩
theorem t_311 : (Jvm.Cond.soleField "ModelDeskModel" "nodes") ∈ tbG := List.mem_filter.mpr ⟨List.mem_of_getElem? (i := 311) (by decide +kernel), by decide +kernel⟩
theorem t_312 : (Jvm.Cond.laysFinal "ModelDeskModel" "ModelDeskModel" "kinds" "[I") ∈ tbG := List.mem_filter.mpr ⟨List.mem_of_getElem? (i := 312) (by decide +kernel), by decide +kernel⟩
theorem t_313 : (Jvm.Cond.soleField "ModelDeskModel" "kinds") ∈ tbG := List.mem_filter.mpr ⟨List.mem_of_getElem? (i := 313) (by decide +kernel), by decide +kernel⟩
theorem t_314 : (Jvm.Cond.laysFinal "ModelDeskModel" "ModelDeskModel" "parents" "[I") ∈ tbG := List.mem_filter.mpr ⟨List.mem_of_getElem? (i := 314) (by decide +kernel), by decide +kernel⟩
theorem t_315 : (Jvm.Cond.soleField "ModelDeskModel" "parents") ∈ tbG := List.mem_filter.mpr ⟨List.mem_of_getElem? (i := 315) (by decide +kernel), by decide +kernel⟩
theorem t_316 : (Jvm.Cond.laysFinal "ModelDeskModel" "ModelDeskModel" "before" "[I") ∈ tbG := List.mem_filter.mpr ⟨List.mem_of_getElem? (i := 316) (by decide +kernel), by decide +kernel⟩
theorem t_317 : (Jvm.Cond.soleField "ModelDeskModel" "before") ∈ tbG := List.mem_filter.mpr ⟨List.mem_of_getElem? (i := 317) (by decide +kernel), by decide +kernel⟩
theorem t_318 : (Jvm.Cond.laysFinal "ModelDeskModel" "ModelDeskModel" "after" "[I") ∈ tbG := List.mem_filter.mpr ⟨List.mem_of_getElem? (i := 318) (by decide +kernel), by decide +kernel⟩
theorem t_319 : (Jvm.Cond.soleField "ModelDeskModel" "after") ∈ tbG := List.mem_filter.mpr ⟨List.mem_of_getElem? (i := 319) (by decide +kernel), by decide +kernel⟩
theorem t_320 : (Jvm.Cond.laysFinal "ModelDeskModel" "ModelDeskModel" "missing" "[Z") ∈ tbG := List.mem_filter.mpr ⟨List.mem_of_getElem? (i := 320) (by decide +kernel), by decide +kernel⟩
theorem t_321 : (Jvm.Cond.soleField "ModelDeskModel" "missing") ∈ tbG := List.mem_filter.mpr ⟨List.mem_of_getElem? (i := 321) (by decide +kernel), by decide +kernel⟩
theorem t_322 : (Jvm.Cond.lays "ModelDeskModel" "ModelDeskModel" "places" "I") ∈ tbG := List.mem_filter.mpr ⟨List.mem_of_getElem? (i := 322) (by decide +kernel), by decide +kernel⟩
theorem t_323 : (Jvm.Cond.soleField "ModelDeskModel" "places") ∈ tbG := List.mem_filter.mpr ⟨List.mem_of_getElem? (i := 323) (by decide +kernel), by decide +kernel⟩
theorem t_324 : (Jvm.Cond.laysFinal "ModelDeskModel" "ModelDeskModel" "leaf" "[I") ∈ tbG := List.mem_filter.mpr ⟨List.mem_of_getElem? (i := 324) (by decide +kernel), by decide +kernel⟩
theorem t_325 : (Jvm.Cond.soleField "ModelDeskModel" "leaf") ∈ tbG := List.mem_filter.mpr ⟨List.mem_of_getElem? (i := 325) (by decide +kernel), by decide +kernel⟩
theorem t_326 : (Jvm.Cond.laysFinal "ModelDeskModel" "ModelDeskModel" "names" "[I") ∈ tbG := List.mem_filter.mpr ⟨List.mem_of_getElem? (i := 326) (by decide +kernel), by decide +kernel⟩
theorem t_327 : (Jvm.Cond.soleField "ModelDeskModel" "names") ∈ tbG := List.mem_filter.mpr ⟨List.mem_of_getElem? (i := 327) (by decide +kernel), by decide +kernel⟩
theorem t_328 : (Jvm.Cond.lays "ModelDeskModel" "ModelDeskModel" "isModel" "Z") ∈ tbG := List.mem_filter.mpr ⟨List.mem_of_getElem? (i := 328) (by decide +kernel), by decide +kernel⟩
theorem t_329 : (Jvm.Cond.soleField "ModelDeskModel" "isModel") ∈ tbG := List.mem_filter.mpr ⟨List.mem_of_getElem? (i := 329) (by decide +kernel), by decide +kernel⟩
theorem t_330 : (Jvm.Cond.lays "ModelDeskModel" "ModelDeskModel" "depth" "I") ∈ tbG := List.mem_filter.mpr ⟨List.mem_of_getElem? (i := 330) (by decide +kernel), by decide +kernel⟩
theorem t_331 : (Jvm.Cond.soleField "ModelDeskModel" "depth") ∈ tbG := List.mem_filter.mpr ⟨List.mem_of_getElem? (i := 331) (by decide +kernel), by decide +kernel⟩
theorem t_332 : (Jvm.Cond.laysFinal "ModelDeskModel" "ModelDeskModel" "lasts" "[I") ∈ tbG := List.mem_filter.mpr ⟨List.mem_of_getElem? (i := 332) (by decide +kernel), by decide +kernel⟩
theorem t_333 : (Jvm.Cond.soleField "ModelDeskModel" "lasts") ∈ tbG := List.mem_filter.mpr ⟨List.mem_of_getElem? (i := 333) (by decide +kernel), by decide +kernel⟩
theorem t_334 : (Jvm.Cond.laysFinal "ModelDeskModel" "ModelDeskModel" "sorts" "[I") ∈ tbG := List.mem_filter.mpr ⟨List.mem_of_getElem? (i := 334) (by decide +kernel), by decide +kernel⟩
theorem t_335 : (Jvm.Cond.soleField "ModelDeskModel" "sorts") ∈ tbG := List.mem_filter.mpr ⟨List.mem_of_getElem? (i := 335) (by decide +kernel), by decide +kernel⟩
theorem t_336 : (Jvm.Cond.lays "ModelDeskModel" "ModelDeskModel" "root" "I") ∈ tbG := List.mem_filter.mpr ⟨List.mem_of_getElem? (i := 336) (by decide +kernel), by decide +kernel⟩
theorem t_337 : (Jvm.Cond.soleField "ModelDeskModel" "root") ∈ tbG := List.mem_filter.mpr ⟨List.mem_of_getElem? (i := 337) (by decide +kernel), by decide +kernel⟩
theorem t_338 : (Jvm.Cond.lays "ModelDeskModel" "ModelDeskModel" "came" "I") ∈ tbG := List.mem_filter.mpr ⟨List.mem_of_getElem? (i := 338) (by decide +kernel), by decide +kernel⟩
theorem t_339 : (Jvm.Cond.soleField "ModelDeskModel" "came") ∈ tbG := List.mem_filter.mpr ⟨List.mem_of_getElem? (i := 339) (by decide +kernel), by decide +kernel⟩
theorem t_340 : (Jvm.Cond.lays "ModelDeskModel" "ModelDeskModel" "now" "J") ∈ tbG := List.mem_filter.mpr ⟨List.mem_of_getElem? (i := 340) (by decide +kernel), by decide +kernel⟩
theorem t_341 : (Jvm.Cond.soleField "ModelDeskModel" "now") ∈ tbG := List.mem_filter.mpr ⟨List.mem_of_getElem? (i := 341) (by decide +kernel), by decide +kernel⟩
theorem t_342 : (Jvm.Cond.superclass "ModelDeskModel" "java/lang/Object") ∈ tbG := List.mem_filter.mpr ⟨List.mem_of_getElem? (i := 342) (by decide +kernel), by decide +kernel⟩
theorem t_343 : (Jvm.Cond.methodLink "ModelDeskLaw" (19 : Nat) ({ cls := "ModelDeskModel", name := "put", desc := "(JI)Z" } : Jvm.MethodName)) ∈ tbG := List.mem_filter.mpr ⟨List.mem_of_getElem? (i := 343) (by decide +kernel), by decide +kernel⟩
theorem t_344 : (Jvm.Cond.instanceMethod ({ cls := "ModelDeskModel", name := "put", desc := "(JI)Z" } : Jvm.MethodName)) ∈ tbG := List.mem_filter.mpr ⟨List.mem_of_getElem? (i := 344) (by decide +kernel), by decide +kernel⟩
theorem t_345 : (Jvm.Cond.selects "ModelDeskModel" ({ cls := "ModelDeskModel", name := "put", desc := "(JI)Z" } : Jvm.MethodName) ({ cls := "ModelDeskModel", name := "put", desc := "(JI)Z" } : Jvm.MethodName)) ∈ tbG := List.mem_filter.mpr ⟨List.mem_of_getElem? (i := 345) (by decide +kernel), by decide +kernel⟩
theorem t_346 : (Jvm.Cond.code ({ cls := "ModelDeskModel", name := "put", desc := "(JI)Z" } : Jvm.MethodName) prog_5_method_2_code (5 : Nat) (Option.some Jvm.ClassFile.FieldType.boolean)) ∈ tbG := List.mem_filter.mpr ⟨List.mem_of_getElem? (i := 346) (by decide +kernel), by decide +kernel⟩
theorem t_347 : (Jvm.Cond.constantLong "ModelDeskModel" (45 : Nat) (255 : Int64)) ∈ tbG := List.mem_filter.mpr ⟨List.mem_of_getElem? (i := 347) (by decide +kernel), by decide +kernel⟩
theorem t_348 : (Jvm.Cond.methodLink "ModelDeskLaw" (24 : Nat) ({ cls := "ModelDeskModel", name := "read", desc := "()I" } : Jvm.MethodName)) ∈ tbG := List.mem_filter.mpr ⟨List.mem_of_getElem? (i := 348) (by decide +kernel), by decide +kernel⟩
theorem t_349 : (Jvm.Cond.instanceMethod ({ cls := "ModelDeskModel", name := "read", desc := "()I" } : Jvm.MethodName)) ∈ tbG := List.mem_filter.mpr ⟨List.mem_of_getElem? (i := 349) (by decide +kernel), by decide +kernel⟩
theorem t_350 : (Jvm.Cond.selects "ModelDeskModel" ({ cls := "ModelDeskModel", name := "read", desc := "()I" } : Jvm.MethodName) ({ cls := "ModelDeskModel", name := "read", desc := "()I" } : Jvm.MethodName)) ∈ tbG := List.mem_filter.mpr ⟨List.mem_of_getElem? (i := 350) (by decide +kernel), by decide +kernel⟩
theorem t_351 : (Jvm.Cond.code ({ cls := "ModelDeskModel", name := "read", desc := "()I" } : Jvm.MethodName) prog_5_method_11_code (2 : Nat) (Option.some Jvm.ClassFile.FieldType.int)) ∈ tbG := List.mem_filter.mpr ⟨List.mem_of_getElem? (i := 351) (by decide +kernel), by decide +kernel⟩
theorem t_352 : (Jvm.Cond.methodLink "ModelDeskModel" (93 : Nat) ({ cls := "ModelDeskModel", name := "parse", desc := "()I" } : Jvm.MethodName)) ∈ tbG := List.mem_filter.mpr ⟨List.mem_of_getElem? (i := 352) (by decide +kernel), by decide +kernel⟩
theorem t_354 : (Jvm.Cond.instanceMethod ({ cls := "ModelDeskModel", name := "parse", desc := "()I" } : Jvm.MethodName)) ∈ tbG := List.mem_filter.mpr ⟨List.mem_of_getElem? (i := 354) (by decide +kernel), by decide +kernel⟩
theorem t_355 : (Jvm.Cond.code ({ cls := "ModelDeskModel", name := "parse", desc := "()I" } : Jvm.MethodName) prog_5_method_10_code (5 : Nat) (Option.some Jvm.ClassFile.FieldType.int)) ∈ tbG := List.mem_filter.mpr ⟨List.mem_of_getElem? (i := 355) (by decide +kernel), by decide +kernel⟩
theorem t_356 : (Jvm.Cond.methodLink "ModelDeskModel" (57 : Nat) ({ cls := "ModelDeskModel", name := "at", desc := "(I)I" } : Jvm.MethodName)) ∈ tbG := List.mem_filter.mpr ⟨List.mem_of_getElem? (i := 356) (by decide +kernel), by decide +kernel⟩
theorem t_358 : (Jvm.Cond.instanceMethod ({ cls := "ModelDeskModel", name := "at", desc := "(I)I" } : Jvm.MethodName)) ∈ tbG := List.mem_filter.mpr ⟨List.mem_of_getElem? (i := 358) (by decide +kernel), by decide +kernel⟩
theorem t_359 : (Jvm.Cond.code ({ cls := "ModelDeskModel", name := "at", desc := "(I)I" } : Jvm.MethodName) prog_5_method_3_code (2 : Nat) (Option.some Jvm.ClassFile.FieldType.int)) ∈ tbG := List.mem_filter.mpr ⟨List.mem_of_getElem? (i := 359) (by decide +kernel), by decide +kernel⟩
theorem t_360 : (Jvm.Cond.methodLink "ModelDeskModel" (60 : Nat) ({ cls := "ModelDeskModel", name := "open", desc := "()Z" } : Jvm.MethodName)) ∈ tbG := List.mem_filter.mpr ⟨List.mem_of_getElem? (i := 360) (by decide +kernel), by decide +kernel⟩
theorem t_362 : (Jvm.Cond.instanceMethod ({ cls := "ModelDeskModel", name := "open", desc := "()Z" } : Jvm.MethodName)) ∈ tbG := List.mem_filter.mpr ⟨List.mem_of_getElem? (i := 362) (by decide +kernel), by decide +kernel⟩
theorem t_363 : (Jvm.Cond.code ({ cls := "ModelDeskModel", name := "open", desc := "()Z" } : Jvm.MethodName) prog_5_method_9_code (1 : Nat) (Option.some Jvm.ClassFile.FieldType.boolean)) ∈ tbG := List.mem_filter.mpr ⟨List.mem_of_getElem? (i := 363) (by decide +kernel), by decide +kernel⟩
theorem t_364 : (Jvm.Cond.methodLink "ModelDeskModel" (53 : Nat) ({ cls := "ModelDeskModel", name := "node", desc := "(I)I" } : Jvm.MethodName)) ∈ tbG := List.mem_filter.mpr ⟨List.mem_of_getElem? (i := 364) (by decide +kernel), by decide +kernel⟩
theorem t_366 : (Jvm.Cond.instanceMethod ({ cls := "ModelDeskModel", name := "node", desc := "(I)I" } : Jvm.MethodName)) ∈ tbG := List.mem_filter.mpr ⟨List.mem_of_getElem? (i := 366) (by decide +kernel), by decide +kernel⟩
theorem t_367 : (Jvm.Cond.code ({ cls := "ModelDeskModel", name := "node", desc := "(I)I" } : Jvm.MethodName) prog_5_method_4_code (2 : Nat) (Option.some Jvm.ClassFile.FieldType.int)) ∈ tbG := List.mem_filter.mpr ⟨List.mem_of_getElem? (i := 367) (by decide +kernel), by decide +kernel⟩
theorem t_368 : (Jvm.Cond.methodLink "ModelDeskModel" (67 : Nat) ({ cls := "ModelDeskModel", name := "isSign", desc := "(I)Z" } : Jvm.MethodName)) ∈ tbG := List.mem_filter.mpr ⟨List.mem_of_getElem? (i := 368) (by decide +kernel), by decide +kernel⟩
theorem t_369 : (Jvm.Cond.static ({ cls := "ModelDeskModel", name := "isSign", desc := "(I)Z" } : Jvm.MethodName)) ∈ tbG := List.mem_filter.mpr ⟨List.mem_of_getElem? (i := 369) (by decide +kernel), by decide +kernel⟩
theorem t_370 : (Jvm.Cond.code ({ cls := "ModelDeskModel", name := "isSign", desc := "(I)Z" } : Jvm.MethodName) prog_5_method_7_code (1 : Nat) (Option.some Jvm.ClassFile.FieldType.boolean)) ∈ tbG := List.mem_filter.mpr ⟨List.mem_of_getElem? (i := 370) (by decide +kernel), by decide +kernel⟩
theorem t_371 : (Jvm.Cond.methodLink "ModelDeskModel" (71 : Nat) ({ cls := "ModelDeskModel", name := "signed", desc := "(II)I" } : Jvm.MethodName)) ∈ tbG := List.mem_filter.mpr ⟨List.mem_of_getElem? (i := 371) (by decide +kernel), by decide +kernel⟩
theorem t_373 : (Jvm.Cond.instanceMethod ({ cls := "ModelDeskModel", name := "signed", desc := "(II)I" } : Jvm.MethodName)) ∈ tbG := List.mem_filter.mpr ⟨List.mem_of_getElem? (i := 373) (by decide +kernel), by decide +kernel⟩
theorem t_374 : (Jvm.Cond.code ({ cls := "ModelDeskModel", name := "signed", desc := "(II)I" } : Jvm.MethodName) prog_5_method_6_code (4 : Nat) (Option.some Jvm.ClassFile.FieldType.int)) ∈ tbG := List.mem_filter.mpr ⟨List.mem_of_getElem? (i := 374) (by decide +kernel), by decide +kernel⟩
theorem t_375 : (Jvm.Cond.methodLink "ModelDeskModel" (75 : Nat) ({ cls := "ModelDeskModel", name := "add", desc := "(I)V" } : Jvm.MethodName)) ∈ tbG := List.mem_filter.mpr ⟨List.mem_of_getElem? (i := 375) (by decide +kernel), by decide +kernel⟩
theorem t_377 : (Jvm.Cond.instanceMethod ({ cls := "ModelDeskModel", name := "add", desc := "(I)V" } : Jvm.MethodName)) ∈ tbG := List.mem_filter.mpr ⟨List.mem_of_getElem? (i := 377) (by decide +kernel), by decide +kernel⟩
theorem t_378 : (Jvm.Cond.code ({ cls := "ModelDeskModel", name := "add", desc := "(I)V" } : Jvm.MethodName) prog_5_method_5_code (3 : Nat) (Option.none : Option Jvm.ClassFile.FieldType)) ∈ tbG := List.mem_filter.mpr ⟨List.mem_of_getElem? (i := 378) (by decide +kernel), by decide +kernel⟩
theorem t_379 : (Jvm.Cond.methodLink "ModelDeskModel" (79 : Nat) ({ cls := "ModelDeskModel", name := "close", desc := "()I" } : Jvm.MethodName)) ∈ tbG := List.mem_filter.mpr ⟨List.mem_of_getElem? (i := 379) (by decide +kernel), by decide +kernel⟩
theorem t_381 : (Jvm.Cond.instanceMethod ({ cls := "ModelDeskModel", name := "close", desc := "()I" } : Jvm.MethodName)) ∈ tbG := List.mem_filter.mpr ⟨List.mem_of_getElem? (i := 381) (by decide +kernel), by decide +kernel⟩
theorem t_382 : (Jvm.Cond.code ({ cls := "ModelDeskModel", name := "close", desc := "()I" } : Jvm.MethodName) prog_5_method_8_code (5 : Nat) (Option.some Jvm.ClassFile.FieldType.int)) ∈ tbG := List.mem_filter.mpr ⟨List.mem_of_getElem? (i := 382) (by decide +kernel), by decide +kernel⟩
theorem t_383 : (Jvm.Cond.methodLink "ModelDeskLaw" (42 : Nat) ({ cls := "ModelDeskModel", name := "first", desc := "()J" } : Jvm.MethodName)) ∈ tbG := List.mem_filter.mpr ⟨List.mem_of_getElem? (i := 383) (by decide +kernel), by decide +kernel⟩
theorem t_384 : (Jvm.Cond.instanceMethod ({ cls := "ModelDeskModel", name := "first", desc := "()J" } : Jvm.MethodName)) ∈ tbG := List.mem_filter.mpr ⟨List.mem_of_getElem? (i := 384) (by decide +kernel), by decide +kernel⟩
theorem t_385 : (Jvm.Cond.selects "ModelDeskModel" ({ cls := "ModelDeskModel", name := "first", desc := "()J" } : Jvm.MethodName) ({ cls := "ModelDeskModel", name := "first", desc := "()J" } : Jvm.MethodName)) ∈ tbG := List.mem_filter.mpr ⟨List.mem_of_getElem? (i := 385) (by decide +kernel), by decide +kernel⟩
theorem t_386 : (Jvm.Cond.code ({ cls := "ModelDeskModel", name := "first", desc := "()J" } : Jvm.MethodName) prog_5_method_15_code (1 : Nat) (Option.some Jvm.ClassFile.FieldType.long)) ∈ tbG := List.mem_filter.mpr ⟨List.mem_of_getElem? (i := 386) (by decide +kernel), by decide +kernel⟩
theorem t_387 : (Jvm.Cond.methodLink "ModelDeskModel" (104 : Nat) ({ cls := "ModelDeskModel", name := "firsts", desc := "(I)J" } : Jvm.MethodName)) ∈ tbG := List.mem_filter.mpr ⟨List.mem_of_getElem? (i := 387) (by decide +kernel), by decide +kernel⟩
theorem t_389 : (Jvm.Cond.instanceMethod ({ cls := "ModelDeskModel", name := "firsts", desc := "(I)J" } : Jvm.MethodName)) ∈ tbG := List.mem_filter.mpr ⟨List.mem_of_getElem? (i := 389) (by decide +kernel), by decide +kernel⟩
theorem t_390 : (Jvm.Cond.code ({ cls := "ModelDeskModel", name := "firsts", desc := "(I)J" } : Jvm.MethodName) prog_5_method_13_code (5 : Nat) (Option.some Jvm.ClassFile.FieldType.long)) ∈ tbG := List.mem_filter.mpr ⟨List.mem_of_getElem? (i := 390) (by decide +kernel), by decide +kernel⟩
theorem t_391 : (Jvm.Cond.methodLink "ModelDeskModel" (100 : Nat) ({ cls := "ModelDeskModel", name := "begins", desc := "(II)Z" } : Jvm.MethodName)) ∈ tbG := List.mem_filter.mpr ⟨List.mem_of_getElem? (i := 391) (by decide +kernel), by decide +kernel⟩
theorem t_393 : (Jvm.Cond.instanceMethod ({ cls := "ModelDeskModel", name := "begins", desc := "(II)Z" } : Jvm.MethodName)) ∈ tbG := List.mem_filter.mpr ⟨List.mem_of_getElem? (i := 393) (by decide +kernel), by decide +kernel⟩
theorem t_394 : (Jvm.Cond.code ({ cls := "ModelDeskModel", name := "begins", desc := "(II)Z" } : Jvm.MethodName) prog_5_method_12_code (6 : Nat) (Option.some Jvm.ClassFile.FieldType.boolean)) ∈ tbG := List.mem_filter.mpr ⟨List.mem_of_getElem? (i := 394) (by decide +kernel), by decide +kernel⟩
theorem t_395 : (Jvm.Cond.methodLink "ModelDeskLaw" (47 : Nat) ({ cls := "ModelDeskModel", name := "next", desc := "(I)J" } : Jvm.MethodName)) ∈ tbG := List.mem_filter.mpr ⟨List.mem_of_getElem? (i := 395) (by decide +kernel), by decide +kernel⟩
theorem t_396 : (Jvm.Cond.instanceMethod ({ cls := "ModelDeskModel", name := "next", desc := "(I)J" } : Jvm.MethodName)) ∈ tbG := List.mem_filter.mpr ⟨List.mem_of_getElem? (i := 396) (by decide +kernel), by decide +kernel⟩
theorem t_397 : (Jvm.Cond.selects "ModelDeskModel" ({ cls := "ModelDeskModel", name := "next", desc := "(I)J" } : Jvm.MethodName) ({ cls := "ModelDeskModel", name := "next", desc := "(I)J" } : Jvm.MethodName)) ∈ tbG := List.mem_filter.mpr ⟨List.mem_of_getElem? (i := 397) (by decide +kernel), by decide +kernel⟩
theorem t_398 : (Jvm.Cond.code ({ cls := "ModelDeskModel", name := "next", desc := "(I)J" } : Jvm.MethodName) prog_5_method_16_code (7 : Nat) (Option.some Jvm.ClassFile.FieldType.long)) ∈ tbG := List.mem_filter.mpr ⟨List.mem_of_getElem? (i := 398) (by decide +kernel), by decide +kernel⟩
theorem t_399 : (Jvm.Cond.methodLink "ModelDeskLaw" (51 : Nat) ({ cls := "ModelDeskModel", name := "last", desc := "()J" } : Jvm.MethodName)) ∈ tbG := List.mem_filter.mpr ⟨List.mem_of_getElem? (i := 399) (by decide +kernel), by decide +kernel⟩
theorem t_400 : (Jvm.Cond.instanceMethod ({ cls := "ModelDeskModel", name := "last", desc := "()J" } : Jvm.MethodName)) ∈ tbG := List.mem_filter.mpr ⟨List.mem_of_getElem? (i := 400) (by decide +kernel), by decide +kernel⟩
theorem t_401 : (Jvm.Cond.selects "ModelDeskModel" ({ cls := "ModelDeskModel", name := "last", desc := "()J" } : Jvm.MethodName) ({ cls := "ModelDeskModel", name := "last", desc := "()J" } : Jvm.MethodName)) ∈ tbG := List.mem_filter.mpr ⟨List.mem_of_getElem? (i := 401) (by decide +kernel), by decide +kernel⟩
theorem t_402 : (Jvm.Cond.code ({ cls := "ModelDeskModel", name := "last", desc := "()J" } : Jvm.MethodName) prog_5_method_17_code (4 : Nat) (Option.some Jvm.ClassFile.FieldType.long)) ∈ tbG := List.mem_filter.mpr ⟨List.mem_of_getElem? (i := 402) (by decide +kernel), by decide +kernel⟩
theorem t_403 : (Jvm.Cond.methodLink "ModelDeskModel" (108 : Nat) ({ cls := "ModelDeskModel", name := "ends", desc := "(I)Z" } : Jvm.MethodName)) ∈ tbG := List.mem_filter.mpr ⟨List.mem_of_getElem? (i := 403) (by decide +kernel), by decide +kernel⟩
theorem t_405 : (Jvm.Cond.instanceMethod ({ cls := "ModelDeskModel", name := "ends", desc := "(I)Z" } : Jvm.MethodName)) ∈ tbG := List.mem_filter.mpr ⟨List.mem_of_getElem? (i := 405) (by decide +kernel), by decide +kernel⟩
theorem t_406 : (Jvm.Cond.code ({ cls := "ModelDeskModel", name := "ends", desc := "(I)Z" } : Jvm.MethodName) prog_5_method_14_code (4 : Nat) (Option.some Jvm.ClassFile.FieldType.boolean)) ∈ tbG := List.mem_filter.mpr ⟨List.mem_of_getElem? (i := 406) (by decide +kernel), by decide +kernel⟩
theorem t_407 : (Jvm.Cond.methodLink "ModelDeskLaw" (33 : Nat) ({ cls := "ModelDeskModel", name := "competing", desc := "()I" } : Jvm.MethodName)) ∈ tbG := List.mem_filter.mpr ⟨List.mem_of_getElem? (i := 407) (by decide +kernel), by decide +kernel⟩
theorem t_408 : (Jvm.Cond.instanceMethod ({ cls := "ModelDeskModel", name := "competing", desc := "()I" } : Jvm.MethodName)) ∈ tbG := List.mem_filter.mpr ⟨List.mem_of_getElem? (i := 408) (by decide +kernel), by decide +kernel⟩
theorem t_409 : (Jvm.Cond.selects "ModelDeskModel" ({ cls := "ModelDeskModel", name := "competing", desc := "()I" } : Jvm.MethodName) ({ cls := "ModelDeskModel", name := "competing", desc := "()I" } : Jvm.MethodName)) ∈ tbG := List.mem_filter.mpr ⟨List.mem_of_getElem? (i := 409) (by decide +kernel), by decide +kernel⟩
theorem t_410 : (Jvm.Cond.code ({ cls := "ModelDeskModel", name := "competing", desc := "()I" } : Jvm.MethodName) prog_5_method_19_code (3 : Nat) (Option.some Jvm.ClassFile.FieldType.int)) ∈ tbG := List.mem_filter.mpr ⟨List.mem_of_getElem? (i := 410) (by decide +kernel), by decide +kernel⟩
theorem t_411 : (Jvm.Cond.methodLink "ModelDeskModel" (111 : Nat) ({ cls := "ModelDeskModel", name := "first", desc := "()J" } : Jvm.MethodName)) ∈ tbG := List.mem_filter.mpr ⟨List.mem_of_getElem? (i := 411) (by decide +kernel), by decide +kernel⟩
theorem t_412 : (Jvm.Cond.methodLink "ModelDeskModel" (115 : Nat) ({ cls := "ModelDeskModel", name := "twice", desc := "(J)I" } : Jvm.MethodName)) ∈ tbG := List.mem_filter.mpr ⟨List.mem_of_getElem? (i := 412) (by decide +kernel), by decide +kernel⟩
theorem t_414 : (Jvm.Cond.instanceMethod ({ cls := "ModelDeskModel", name := "twice", desc := "(J)I" } : Jvm.MethodName)) ∈ tbG := List.mem_filter.mpr ⟨List.mem_of_getElem? (i := 414) (by decide +kernel), by decide +kernel⟩
theorem t_415 : (Jvm.Cond.code ({ cls := "ModelDeskModel", name := "twice", desc := "(J)I" } : Jvm.MethodName) prog_5_method_18_code (7 : Nat) (Option.some Jvm.ClassFile.FieldType.int)) ∈ tbG := List.mem_filter.mpr ⟨List.mem_of_getElem? (i := 415) (by decide +kernel), by decide +kernel⟩
theorem t_416 : (Jvm.Cond.methodLink "ModelDeskModel" (119 : Nat) ({ cls := "ModelDeskModel", name := "next", desc := "(I)J" } : Jvm.MethodName)) ∈ tbG := List.mem_filter.mpr ⟨List.mem_of_getElem? (i := 416) (by decide +kernel), by decide +kernel⟩
theorem t_417 : (Jvm.Cond.methodLink "ModelDeskLaw" (29 : Nat) ({ cls := "ModelDeskModel", name := "isClear", desc := "()Z" } : Jvm.MethodName)) ∈ tbG := List.mem_filter.mpr ⟨List.mem_of_getElem? (i := 417) (by decide +kernel), by decide +kernel⟩
theorem t_418 : (Jvm.Cond.instanceMethod ({ cls := "ModelDeskModel", name := "isClear", desc := "()Z" } : Jvm.MethodName)) ∈ tbG := List.mem_filter.mpr ⟨List.mem_of_getElem? (i := 418) (by decide +kernel), by decide +kernel⟩
theorem t_419 : (Jvm.Cond.selects "ModelDeskModel" ({ cls := "ModelDeskModel", name := "isClear", desc := "()Z" } : Jvm.MethodName) ({ cls := "ModelDeskModel", name := "isClear", desc := "()Z" } : Jvm.MethodName)) ∈ tbG := List.mem_filter.mpr ⟨List.mem_of_getElem? (i := 419) (by decide +kernel), by decide +kernel⟩
theorem t_420 : (Jvm.Cond.code ({ cls := "ModelDeskModel", name := "isClear", desc := "()Z" } : Jvm.MethodName) prog_5_method_20_code (1 : Nat) (Option.some Jvm.ClassFile.FieldType.boolean)) ∈ tbG := List.mem_filter.mpr ⟨List.mem_of_getElem? (i := 420) (by decide +kernel), by decide +kernel⟩
theorem t_421 : (Jvm.Cond.methodLink "ModelDeskModel" (122 : Nat) ({ cls := "ModelDeskModel", name := "competing", desc := "()I" } : Jvm.MethodName)) ∈ tbG := List.mem_filter.mpr ⟨List.mem_of_getElem? (i := 421) (by decide +kernel), by decide +kernel⟩
theorem t_422 : (Jvm.Cond.methodLink "ModelDeskLaw" (37 : Nat) ({ cls := "ModelDeskModel", name := "isEmpty", desc := "()Z" } : Jvm.MethodName)) ∈ tbG := List.mem_filter.mpr ⟨List.mem_of_getElem? (i := 422) (by decide +kernel), by decide +kernel⟩
theorem t_423 : (Jvm.Cond.instanceMethod ({ cls := "ModelDeskModel", name := "isEmpty", desc := "()Z" } : Jvm.MethodName)) ∈ tbG := List.mem_filter.mpr ⟨List.mem_of_getElem? (i := 423) (by decide +kernel), by decide +kernel⟩
theorem t_424 : (Jvm.Cond.selects "ModelDeskModel" ({ cls := "ModelDeskModel", name := "isEmpty", desc := "()Z" } : Jvm.MethodName) ({ cls := "ModelDeskModel", name := "isEmpty", desc := "()Z" } : Jvm.MethodName)) ∈ tbG := List.mem_filter.mpr ⟨List.mem_of_getElem? (i := 424) (by decide +kernel), by decide +kernel⟩
theorem t_425 : (Jvm.Cond.code ({ cls := "ModelDeskModel", name := "isEmpty", desc := "()Z" } : Jvm.MethodName) prog_5_method_21_code (1 : Nat) (Option.some Jvm.ClassFile.FieldType.boolean)) ∈ tbG := List.mem_filter.mpr ⟨List.mem_of_getElem? (i := 425) (by decide +kernel), by decide +kernel⟩
theorem t_426 : (Jvm.Cond.methodLink "ModelDeskLaw" (56 : Nat) ({ cls := "ModelDeskModel", name := "name", desc := "(I)I" } : Jvm.MethodName)) ∈ tbG := List.mem_filter.mpr ⟨List.mem_of_getElem? (i := 426) (by decide +kernel), by decide +kernel⟩
theorem t_427 : (Jvm.Cond.instanceMethod ({ cls := "ModelDeskModel", name := "name", desc := "(I)I" } : Jvm.MethodName)) ∈ tbG := List.mem_filter.mpr ⟨List.mem_of_getElem? (i := 427) (by decide +kernel), by decide +kernel⟩
theorem t_428 : (Jvm.Cond.selects "ModelDeskModel" ({ cls := "ModelDeskModel", name := "name", desc := "(I)I" } : Jvm.MethodName) ({ cls := "ModelDeskModel", name := "name", desc := "(I)I" } : Jvm.MethodName)) ∈ tbG := List.mem_filter.mpr ⟨List.mem_of_getElem? (i := 428) (by decide +kernel), by decide +kernel⟩
theorem t_429 : (Jvm.Cond.code ({ cls := "ModelDeskModel", name := "name", desc := "(I)I" } : Jvm.MethodName) prog_5_method_22_code (2 : Nat) (Option.some Jvm.ClassFile.FieldType.int)) ∈ tbG := List.mem_filter.mpr ⟨List.mem_of_getElem? (i := 429) (by decide +kernel), by decide +kernel⟩
theorem t_430 : (Jvm.Cond.methodLink "ModelDeskLaw" (61 : Nat) ({ cls := "ModelDeskModel", name := "come", desc := "(I)Z" } : Jvm.MethodName)) ∈ tbG := List.mem_filter.mpr ⟨List.mem_of_getElem? (i := 430) (by decide +kernel), by decide +kernel⟩
theorem t_431 : (Jvm.Cond.instanceMethod ({ cls := "ModelDeskModel", name := "come", desc := "(I)Z" } : Jvm.MethodName)) ∈ tbG := List.mem_filter.mpr ⟨List.mem_of_getElem? (i := 431) (by decide +kernel), by decide +kernel⟩
theorem t_432 : (Jvm.Cond.selects "ModelDeskModel" ({ cls := "ModelDeskModel", name := "come", desc := "(I)Z" } : Jvm.MethodName) ({ cls := "ModelDeskModel", name := "come", desc := "(I)Z" } : Jvm.MethodName)) ∈ tbG := List.mem_filter.mpr ⟨List.mem_of_getElem? (i := 432) (by decide +kernel), by decide +kernel⟩
theorem t_433 : (Jvm.Cond.code ({ cls := "ModelDeskModel", name := "come", desc := "(I)Z" } : Jvm.MethodName) prog_5_method_24_code (7 : Nat) (Option.some Jvm.ClassFile.FieldType.boolean)) ∈ tbG := List.mem_filter.mpr ⟨List.mem_of_getElem? (i := 433) (by decide +kernel), by decide +kernel⟩
theorem t_434 : (Jvm.Cond.methodLink "ModelDeskModel" (125 : Nat) ({ cls := "ModelDeskModel", name := "able", desc := "(J)J" } : Jvm.MethodName)) ∈ tbG := List.mem_filter.mpr ⟨List.mem_of_getElem? (i := 434) (by decide +kernel), by decide +kernel⟩
theorem t_436 : (Jvm.Cond.instanceMethod ({ cls := "ModelDeskModel", name := "able", desc := "(J)J" } : Jvm.MethodName)) ∈ tbG := List.mem_filter.mpr ⟨List.mem_of_getElem? (i := 436) (by decide +kernel), by decide +kernel⟩
theorem t_437 : (Jvm.Cond.code ({ cls := "ModelDeskModel", name := "able", desc := "(J)J" } : Jvm.MethodName) prog_5_method_23_code (6 : Nat) (Option.some Jvm.ClassFile.FieldType.long)) ∈ tbG := List.mem_filter.mpr ⟨List.mem_of_getElem? (i := 437) (by decide +kernel), by decide +kernel⟩
theorem t_438 : (Jvm.Cond.methodLink "ModelDeskLaw" (65 : Nat) ({ cls := "ModelDeskModel", name := "isWhole", desc := "()Z" } : Jvm.MethodName)) ∈ tbG := List.mem_filter.mpr ⟨List.mem_of_getElem? (i := 438) (by decide +kernel), by decide +kernel⟩
theorem t_439 : (Jvm.Cond.instanceMethod ({ cls := "ModelDeskModel", name := "isWhole", desc := "()Z" } : Jvm.MethodName)) ∈ tbG := List.mem_filter.mpr ⟨List.mem_of_getElem? (i := 439) (by decide +kernel), by decide +kernel⟩
theorem t_440 : (Jvm.Cond.selects "ModelDeskModel" ({ cls := "ModelDeskModel", name := "isWhole", desc := "()Z" } : Jvm.MethodName) ({ cls := "ModelDeskModel", name := "isWhole", desc := "()Z" } : Jvm.MethodName)) ∈ tbG := List.mem_filter.mpr ⟨List.mem_of_getElem? (i := 440) (by decide +kernel), by decide +kernel⟩
theorem t_441 : (Jvm.Cond.code ({ cls := "ModelDeskModel", name := "isWhole", desc := "()Z" } : Jvm.MethodName) prog_5_method_25_code (1 : Nat) (Option.some Jvm.ClassFile.FieldType.boolean)) ∈ tbG := List.mem_filter.mpr ⟨List.mem_of_getElem? (i := 441) (by decide +kernel), by decide +kernel⟩
theorem t_442 : (Jvm.Cond.methodLink "ModelDeskModel" (129 : Nat) ({ cls := "ModelDeskModel", name := "last", desc := "()J" } : Jvm.MethodName)) ∈ tbG := List.mem_filter.mpr ⟨List.mem_of_getElem? (i := 442) (by decide +kernel), by decide +kernel⟩
theorem t_443 : (Jvm.Cond.methodLink "ModelDeskLaw" (69 : Nat) ({ cls := "ModelDeskModel", name := "may", desc := "()I" } : Jvm.MethodName)) ∈ tbG := List.mem_filter.mpr ⟨List.mem_of_getElem? (i := 443) (by decide +kernel), by decide +kernel⟩
theorem t_444 : (Jvm.Cond.instanceMethod ({ cls := "ModelDeskModel", name := "may", desc := "()I" } : Jvm.MethodName)) ∈ tbG := List.mem_filter.mpr ⟨List.mem_of_getElem? (i := 444) (by decide +kernel), by decide +kernel⟩
theorem t_445 : (Jvm.Cond.selects "ModelDeskModel" ({ cls := "ModelDeskModel", name := "may", desc := "()I" } : Jvm.MethodName) ({ cls := "ModelDeskModel", name := "may", desc := "()I" } : Jvm.MethodName)) ∈ tbG := List.mem_filter.mpr ⟨List.mem_of_getElem? (i := 445) (by decide +kernel), by decide +kernel⟩
theorem t_446 : (Jvm.Cond.code ({ cls := "ModelDeskModel", name := "may", desc := "()I" } : Jvm.MethodName) prog_5_method_26_code (5 : Nat) (Option.some Jvm.ClassFile.FieldType.int)) ∈ tbG := List.mem_filter.mpr ⟨List.mem_of_getElem? (i := 446) (by decide +kernel), by decide +kernel⟩
theorem t_447 : (Jvm.Cond.methodLink "ModelDeskLaw" (73 : Nat) ({ cls := "ModelDeskModel", name := "again", desc := "()I" } : Jvm.MethodName)) ∈ tbG := List.mem_filter.mpr ⟨List.mem_of_getElem? (i := 447) (by decide +kernel), by decide +kernel⟩
theorem t_448 : (Jvm.Cond.instanceMethod ({ cls := "ModelDeskModel", name := "again", desc := "()I" } : Jvm.MethodName)) ∈ tbG := List.mem_filter.mpr ⟨List.mem_of_getElem? (i := 448) (by decide +kernel), by decide +kernel⟩
theorem t_449 : (Jvm.Cond.selects "ModelDeskModel" ({ cls := "ModelDeskModel", name := "again", desc := "()I" } : Jvm.MethodName) ({ cls := "ModelDeskModel", name := "again", desc := "()I" } : Jvm.MethodName)) ∈ tbG := List.mem_filter.mpr ⟨List.mem_of_getElem? (i := 449) (by decide +kernel), by decide +kernel⟩
theorem t_450 : (Jvm.Cond.code ({ cls := "ModelDeskModel", name := "again", desc := "()I" } : Jvm.MethodName) prog_5_method_27_code (2 : Nat) (Option.some Jvm.ClassFile.FieldType.int)) ∈ tbG := List.mem_filter.mpr ⟨List.mem_of_getElem? (i := 450) (by decide +kernel), by decide +kernel⟩
theorem t_451 : (Jvm.Cond.constantLong "ModelDeskLaw" (13 : Nat) (4294967295 : Int64)) ∈ tbG := List.mem_filter.mpr ⟨List.mem_of_getElem? (i := 451) (by decide +kernel), by decide +kernel⟩
theorem inX0 : ∀ w ∈ u_ws RX0 TX0 6, w ∈ tbG := by
  intro w hw
  obtain ⟨k, hk, rfl⟩ := List.mem_map.mp hw
  have hk := List.mem_range.mp hk
  rcases (show k = 0 ∨ k = 1 ∨ k = 2 ∨ k = 3 ∨ k = 4 ∨ k = 5 by omega) with rfl | rfl | rfl | rfl | rfl | rfl
  · exact t_63
  · exact t_65
  · exact t_67
  · exact t_69
  · exact t_71
  · exact t_73
theorem inX1 : ∀ w ∈ u_ws RX1 TX1 10, w ∈ tbG := by
  intro w hw
  obtain ⟨k, hk, rfl⟩ := List.mem_map.mp hw
  have hk := List.mem_range.mp hk
  rcases (show k = 0 ∨ k = 1 ∨ k = 2 ∨ k = 3 ∨ k = 4 ∨ k = 5 ∨ k = 6 ∨ k = 7 ∨ k = 8 ∨ k = 9 by omega) with rfl | rfl | rfl | rfl | rfl | rfl | rfl | rfl | rfl | rfl
  · exact t_90
  · exact t_92
  · exact t_94
  · exact t_96
  · exact t_98
  · exact t_100
  · exact t_102
  · exact t_104
  · exact t_106
  · exact t_108
theorem inX2 : ∀ w ∈ u_ws RX2 TX2 7, w ∈ tbG := by
  intro w hw
  obtain ⟨k, hk, rfl⟩ := List.mem_map.mp hw
  have hk := List.mem_range.mp hk
  rcases (show k = 0 ∨ k = 1 ∨ k = 2 ∨ k = 3 ∨ k = 4 ∨ k = 5 ∨ k = 6 by omega) with rfl | rfl | rfl | rfl | rfl | rfl | rfl
  · exact t_119
  · exact t_121
  · exact t_123
  · exact t_125
  · exact t_127
  · exact t_129
  · exact t_131
theorem inX3 : ∀ w ∈ u_ws RX3 TX3 18, w ∈ tbG := by
  intro w hw
  obtain ⟨k, hk, rfl⟩ := List.mem_map.mp hw
  have hk := List.mem_range.mp hk
  rcases (show k = 0 ∨ k = 1 ∨ k = 2 ∨ k = 3 ∨ k = 4 ∨ k = 5 ∨ k = 6 ∨ k = 7 ∨ k = 8 ∨ k = 9 ∨ k = 10 ∨ k = 11 ∨ k = 12 ∨ k = 13 ∨ k = 14 ∨ k = 15 ∨ k = 16 ∨ k = 17 by omega) with rfl | rfl | rfl | rfl | rfl | rfl | rfl | rfl | rfl | rfl | rfl | rfl | rfl | rfl | rfl | rfl | rfl | rfl
  · exact t_306
  · exact t_308
  · exact t_310
  · exact t_312
  · exact t_314
  · exact t_316
  · exact t_318
  · exact t_320
  · exact t_322
  · exact t_324
  · exact t_326
  · exact t_328
  · exact t_330
  · exact t_332
  · exact t_334
  · exact t_336
  · exact t_338
  · exact t_340
