/-! ===== BEGIN words of one list among another's, by their places ===== -/
theorem goodIn_r {big : List Cond} (ws : List Cond) (ps : List Nat) (hp : ws = ps.filterMap (fun i => big[i]?)) (h : ws.all goodWord = true) : GoodIn big ws := by
  intro w hw
  have h1 := List.all_eq_true.mp h w hw
  rw [hp] at hw
  obtain ⟨i, -, hi⟩ := List.mem_filterMap.mp hw
  have hm : w ∈ big := by first | exact List.mem_of_getElem? hi | exact List.getElem?_mem hi
  exact ⟨hm, good_of_word h1⟩
theorem goodIn_app {big a b : List Cond} (ha : GoodIn big a) (hb : GoodIn big b) : GoodIn big (a ++ b) := fun w h => (List.mem_append.mp h).elim (ha w) (hb w)
theorem goodIn_ca {big a b : List Cond} {c : Cond} (ha : GoodIn big (c :: a)) (hb : GoodIn big b) : GoodIn big (c :: (a ++ b)) := fun w h => (List.mem_cons.mp h).elim (fun e => ha w (List.mem_cons.mpr (Or.inl e))) (fun h => (List.mem_append.mp h).elim (fun h => ha w (List.mem_cons.mpr (Or.inr h))) (hb w))
theorem goodIn_sub {big ws : List Cond} (hm : ∀ w ∈ ws, w ∈ big) (h : ws.all goodWord = true) : GoodIn big ws := fun w hw => ⟨hm w hw, good_of_word (List.all_eq_true.mp h w hw)⟩
/-! ===== END ===== -/

/-! ===== BEGIN printed: names, fields, word lists, decode rows ===== -/
def RX0 : String := "MarkRules$Marks"
def TX0 : u_T := fun k => match k with
  | 0 => ("MarkRules$Marks", "size", "I", false)
  | 1 => ("MarkRules$Marks", "targets", "[I", true)
  | 2 => ("MarkRules$Marks", "keeps", "[I", true)
  | 3 => ("MarkRules$Marks", "inherited", "[Z", true)
  | 4 => ("MarkRules$Marks", "sizes", "[I", true)
  | 5 => ("MarkRules$Marks", "leads", "[I", true)
  | 6 => ("MarkRules$Marks", "containers", "[I", true)
  | 7 => ("MarkRules$Marks", "contents", "[I", true)
  | 8 => ("MarkRules$Marks", "everMade", "[Z", true)
  | 9 => ("MarkRules$Marks", "everPut", "[Z", true)
  | 10 => ("MarkRules$Marks", "names", "[I", true)
  | 11 => ("MarkRules$Marks", "kinds", "[I", true)
  | 12 => ("MarkRules$Marks", "rows", "[Z", true)
  | _ => ("MarkRules$Marks", "defaults", "[I", true)
def tyX0 : Nat → FieldType := fun k => match k with
  | 0 => .int
  | 1 => .array .int
  | 2 => .array .int
  | 3 => .array .boolean
  | 4 => .array .int
  | 5 => .array .int
  | 6 => .array .int
  | 7 => .array .int
  | 8 => .array .boolean
  | 9 => .array .boolean
  | 10 => .array .int
  | 11 => .array .int
  | 12 => .array .boolean
  | _ => .array .int
abbrev wsX00 : List Cond := u_ws RX0 TX0 14
theorem nmX0 : ∀ a, a < 14 → ∀ b, b < 14 → a ≠ b → (TX0 a).2.1 ≠ (TX0 b).2.1 := by decide +kernel
theorem tyX0_ok : ∀ k, k < 14 → parseFieldDescriptor (TX0 k).2.2.1 = some (tyX0 k) := by decide +kernel
abbrev cX0_init : ByteArray := prog_2_method_1_code
def yX0_init : MethodName := ⟨RX0, "<init>", "()V"⟩
abbrev cX0_has : ByteArray := prog_2_method_2_code
def yX0_has : MethodName := ⟨RX0, "has", "(I)Z"⟩
abbrev cX0_hasKind : ByteArray := prog_2_method_3_code
def yX0_hasKind : MethodName := ⟨RX0, "hasKind", "(I)Z"⟩
abbrev cX0_add : ByteArray := prog_2_method_4_code
def yX0_add : MethodName := ⟨RX0, "add", "(IIZ)I"⟩
abbrev cX0_addElement : ByteArray := prog_2_method_5_code
def yX0_addElement : MethodName := ⟨RX0, "addElement", "(IIIZ)I"⟩
abbrev cX0_positionOf : ByteArray := prog_2_method_6_code
def yX0_positionOf : MethodName := ⟨RX0, "positionOf", "(II)I"⟩
abbrev cX0_slotOf : ByteArray := prog_2_method_7_code
def yX0_slotOf : MethodName := ⟨RX0, "slotOf", "(II)I"⟩
abbrev cX0_isFixed : ByteArray := prog_2_method_8_code
def yX0_isFixed : MethodName := ⟨RX0, "isFixed", "(I)Z"⟩
abbrev cX0_leadOf : ByteArray := prog_2_method_9_code
def yX0_leadOf : MethodName := ⟨RX0, "leadOf", "(I)I"⟩
abbrev cX0_wouldLeadTooFar : ByteArray := prog_2_method_10_code
def yX0_wouldLeadTooFar : MethodName := ⟨RX0, "wouldLeadTooFar", "(II)Z"⟩
abbrev cX0_leadingInto : ByteArray := prog_2_method_11_code
def yX0_leadingInto : MethodName := ⟨RX0, "leadingInto", "(I)I"⟩
abbrev cX0_canContain : ByteArray := prog_2_method_12_code
def yX0_canContain : MethodName := ⟨RX0, "canContain", "(II)Z"⟩
abbrev cX0_othersHaveDefaults : ByteArray := prog_2_method_13_code
def yX0_othersHaveDefaults : MethodName := ⟨RX0, "othersHaveDefaults", "(I)Z"⟩
def RX1 : String := "MarkRules$Places"
def TX1 : u_T := fun k => match k with
  | 0 => ("MarkRules$Places", "size", "I", false)
  | 1 => ("MarkRules$Places", "kinds", "[I", true)
  | _ => ("MarkRules$Places", "owners", "[I", true)
def tyX1 : Nat → FieldType := fun k => match k with
  | 0 => .int
  | 1 => .array .int
  | _ => .array .int
abbrev wsX10 : List Cond := u_ws RX1 TX1 3
theorem nmX1 : ∀ a, a < 3 → ∀ b, b < 3 → a ≠ b → (TX1 a).2.1 ≠ (TX1 b).2.1 := by decide +kernel
theorem tyX1_ok : ∀ k, k < 3 → parseFieldDescriptor (TX1 k).2.2.1 = some (tyX1 k) := by decide +kernel
abbrev cX1_init : ByteArray := prog_3_method_1_code
def yX1_init : MethodName := ⟨RX1, "<init>", "()V"⟩
abbrev cX1_has : ByteArray := prog_3_method_2_code
def yX1_has : MethodName := ⟨RX1, "has", "(I)Z"⟩
abbrev cX1_isType : ByteArray := prog_3_method_3_code
def yX1_isType : MethodName := ⟨RX1, "isType", "(I)Z"⟩
abbrev cX1_isClass : ByteArray := prog_3_method_4_code
def yX1_isClass : MethodName := ⟨RX1, "isClass", "(I)Z"⟩
abbrev cX1_isMethod : ByteArray := prog_3_method_5_code
def yX1_isMethod : MethodName := ⟨RX1, "isMethod", "(I)Z"⟩
abbrev cX1_fits : ByteArray := prog_3_method_6_code
def yX1_fits : MethodName := ⟨RX1, "fits", "(II)Z"⟩
abbrev cX1_add : ByteArray := prog_3_method_7_code
def yX1_add : MethodName := ⟨RX1, "add", "(II)I"⟩
abbrev cX1_parentOf : ByteArray := prog_3_method_8_code
def yX1_parentOf : MethodName := ⟨RX1, "parentOf", "(I)I"⟩
abbrev cX1_fittingTargets : ByteArray := prog_3_method_9_code
def yX1_fittingTargets : MethodName := ⟨RX1, "fittingTargets", "(I)I"⟩
def RX2 : String := "MarkRules$Standing"
def TX2 : u_T := fun k => match k with
  | 0 => ("MarkRules$Standing", "size", "I", false)
  | 1 => ("MarkRules$Standing", "spots", "[I", true)
  | 2 => ("MarkRules$Standing", "kinds", "[I", true)
  | _ => ("MarkRules$Standing", "instances", "[I", true)
def tyX2 : Nat → FieldType := fun k => match k with
  | 0 => .int
  | 1 => .array .int
  | 2 => .array .int
  | _ => .array .int
abbrev wsX20 : List Cond := u_ws RX2 TX2 4
theorem nmX2 : ∀ a, a < 4 → ∀ b, b < 4 → a ≠ b → (TX2 a).2.1 ≠ (TX2 b).2.1 := by decide +kernel
theorem tyX2_ok : ∀ k, k < 4 → parseFieldDescriptor (TX2 k).2.2.1 = some (tyX2 k) := by decide +kernel
abbrev cX2_init : ByteArray := prog_4_method_1_code
def yX2_init : MethodName := ⟨RX2, "<init>", "()V"⟩
abbrev cX2_add : ByteArray := prog_4_method_2_code
def yX2_add : MethodName := ⟨RX2, "add", "(III)V"⟩
abbrev cX2_howManyAt : ByteArray := prog_4_method_3_code
def yX2_howManyAt : MethodName := ⟨RX2, "howManyAt", "(I)I"⟩
abbrev cX2_howMany : ByteArray := prog_4_method_4_code
def yX2_howMany : MethodName := ⟨RX2, "howMany", "(II)I"⟩
abbrev cX2_nth : ByteArray := prog_4_method_5_code
def yX2_nth : MethodName := ⟨RX2, "nth", "(III)I"⟩
def RX3 : String := "MarkRules$Values"
def TX3 : u_T := fun k => match k with
  | 0 => ("MarkRules$Values", "marks", "LMarkRules$Marks;", true)
  | 1 => ("MarkRules$Values", "size", "I", false)
  | 2 => ("MarkRules$Values", "sorts", "[I", true)
  | 3 => ("MarkRules$Values", "kinds", "[I", true)
  | 4 => ("MarkRules$Values", "numbers", "[I", true)
  | 5 => ("MarkRules$Values", "dones", "[Z", true)
  | _ => ("MarkRules$Values", "parts", "[I", true)
def tyX3 : Nat → FieldType := fun k => match k with
  | 0 => .object "MarkRules$Marks"
  | 1 => .int
  | 2 => .array .int
  | 3 => .array .int
  | 4 => .array .int
  | 5 => .array .boolean
  | _ => .array .int
abbrev wsX30 : List Cond := u_ws RX3 TX3 7
theorem nmX3 : ∀ a, a < 7 → ∀ b, b < 7 → a ≠ b → (TX3 a).2.1 ≠ (TX3 b).2.1 := by decide +kernel
theorem tyX3_ok : ∀ k, k < 7 → parseFieldDescriptor (TX3 k).2.2.1 = some (tyX3 k) := by decide +kernel
abbrev cX3_init : ByteArray := prog_5_method_1_code
def yX3_init : MethodName := ⟨RX3, "<init>", "(LMarkRules$Marks;)V"⟩
abbrev cX3_has : ByteArray := prog_5_method_2_code
def yX3_has : MethodName := ⟨RX3, "has", "(I)Z"⟩
abbrev cX3_isSort : ByteArray := prog_5_method_3_code
def yX3_isSort : MethodName := ⟨RX3, "isSort", "(II)Z"⟩
abbrev cX3_isOfKind : ByteArray := prog_5_method_4_code
def yX3_isOfKind : MethodName := ⟨RX3, "isOfKind", "(II)Z"⟩
abbrev cX3_isRowOf : ByteArray := prog_5_method_5_code
def yX3_isRowOf : MethodName := ⟨RX3, "isRowOf", "(II)Z"⟩
abbrev cX3_markOf : ByteArray := prog_5_method_6_code
def yX3_markOf : MethodName := ⟨RX3, "markOf", "(I)I"⟩
abbrev cX3_add : ByteArray := prog_5_method_7_code
def yX3_add : MethodName := ⟨RX3, "add", "(III)I"⟩
abbrev cX3_addRowOfOne : ByteArray := prog_5_method_8_code
def yX3_addRowOfOne : MethodName := ⟨RX3, "addRowOfOne", "(II)I"⟩
abbrev cX3_append : ByteArray := prog_5_method_9_code
def yX3_append : MethodName := ⟨RX3, "append", "(II)I"⟩
abbrev cX3_setElement : ByteArray := prog_5_method_10_code
def yX3_setElement : MethodName := ⟨RX3, "setElement", "(III)V"⟩
abbrev cX3_finish : ByteArray := prog_5_method_11_code
def yX3_finish : MethodName := ⟨RX3, "finish", "(I)V"⟩
abbrev cX3_partAt : ByteArray := prog_5_method_12_code
def yX3_partAt : MethodName := ⟨RX3, "partAt", "(II)I"⟩
abbrev cX3_inRow : ByteArray := prog_5_method_13_code
def yX3_inRow : MethodName := ⟨RX3, "inRow", "(II)I"⟩
abbrev cX3_elementAt : ByteArray := prog_5_method_14_code
def yX3_elementAt : MethodName := ⟨RX3, "elementAt", "(II)I"⟩
abbrev cX3_elementByName : ByteArray := prog_5_method_15_code
def yX3_elementByName : MethodName := ⟨RX3, "elementByName", "(II)I"⟩
abbrev cX3_howManyElements : ByteArray := prog_5_method_16_code
def yX3_howManyElements : MethodName := ⟨RX3, "howManyElements", "(I)I"⟩
abbrev cX3_isWhole : ByteArray := prog_5_method_17_code
def yX3_isWhole : MethodName := ⟨RX3, "isWhole", "(II)Z"⟩
abbrev cX3_areAllWhole : ByteArray := prog_5_method_18_code
def yX3_areAllWhole : MethodName := ⟨RX3, "areAllWhole", "(II)Z"⟩
abbrev cX3_hasAllElementsWhole : ByteArray := prog_5_method_19_code
def yX3_hasAllElementsWhole : MethodName := ⟨RX3, "hasAllElementsWhole", "(II)Z"⟩
abbrev cX3_areEqual : ByteArray := prog_5_method_20_code
def yX3_areEqual : MethodName := ⟨RX3, "areEqual", "(III)Z"⟩
abbrev cX3_haveEqualElements : ByteArray := prog_5_method_21_code
def yX3_haveEqualElements : MethodName := ⟨RX3, "haveEqualElements", "(III)Z"⟩
abbrev cX3_haveEqualParts : ByteArray := prog_5_method_22_code
def yX3_haveEqualParts : MethodName := ⟨RX3, "haveEqualParts", "(III)Z"⟩
def RX4 : String := "MarkRules$Writer"
def TX4 : u_T := fun k => match k with
  | 0 => ("MarkRules$Writer", "marks", "LMarkRules$Marks;", true)
  | 1 => ("MarkRules$Writer", "values", "LMarkRules$Values;", true)
  | 2 => ("MarkRules$Writer", "bytes", "[B", true)
  | 3 => ("MarkRules$Writer", "length", "I", false)
  | 4 => ("MarkRules$Writer", "digits", "[I", true)
  | 5 => ("MarkRules$Writer", "at", "I", false)
  | _ => ("MarkRules$Writer", "keeps", "Z", false)
def tyX4 : Nat → FieldType := fun k => match k with
  | 0 => .object "MarkRules$Marks"
  | 1 => .object "MarkRules$Values"
  | 2 => .array .byte
  | 3 => .int
  | 4 => .array .int
  | 5 => .int
  | _ => .boolean
abbrev wsX40 : List Cond := u_ws RX4 TX4 7
theorem nmX4 : ∀ a, a < 7 → ∀ b, b < 7 → a ≠ b → (TX4 a).2.1 ≠ (TX4 b).2.1 := by decide +kernel
theorem tyX4_ok : ∀ k, k < 7 → parseFieldDescriptor (TX4 k).2.2.1 = some (tyX4 k) := by decide +kernel
abbrev cX4_init : ByteArray := prog_6_method_1_code
def yX4_init : MethodName := ⟨RX4, "<init>", "(LMarkRules$Marks;LMarkRules$Values;)V"⟩
abbrev cX4_write : ByteArray := prog_6_method_2_code
def yX4_write : MethodName := ⟨RX4, "write", "(I)I"⟩
abbrev cX4_begin : ByteArray := prog_6_method_3_code
def yX4_begin : MethodName := ⟨RX4, "begin", "(Z)V"⟩
abbrev cX4_writeByte : ByteArray := prog_6_method_4_code
def yX4_writeByte : MethodName := ⟨RX4, "writeByte", "(I)V"⟩
abbrev cX4_writeValue : ByteArray := prog_6_method_5_code
def yX4_writeValue : MethodName := ⟨RX4, "writeValue", "(II)V"⟩
abbrev cX4_writeRow : ByteArray := prog_6_method_6_code
def yX4_writeRow : MethodName := ⟨RX4, "writeRow", "(II)V"⟩
abbrev cX4_writeInstance : ByteArray := prog_6_method_7_code
def yX4_writeInstance : MethodName := ⟨RX4, "writeInstance", "(II)V"⟩
abbrev cX4_writeSimple : ByteArray := prog_6_method_8_code
def yX4_writeSimple : MethodName := ⟨RX4, "writeSimple", "(II)V"⟩
abbrev cX4_writeDigits : ByteArray := prog_6_method_9_code
def yX4_writeDigits : MethodName := ⟨RX4, "writeDigits", "(I)V"⟩
def RX5 : String := "MarkRules"
def TX5 : u_T := fun k => match k with
  | 0 => ("MarkRules", "marks", "LMarkRules$Marks;", true)
  | 1 => ("MarkRules", "places", "LMarkRules$Places;", true)
  | 2 => ("MarkRules", "values", "LMarkRules$Values;", true)
  | 3 => ("MarkRules", "standing", "LMarkRules$Standing;", true)
  | 4 => ("MarkRules", "writer", "LMarkRules$Writer;", true)
  | 5 => ("MarkRules", "failures", "[I", true)
  | _ => ("MarkRules", "latestFailure", "I", false)
def tyX5 : Nat → FieldType := fun k => match k with
  | 0 => .object "MarkRules$Marks"
  | 1 => .object "MarkRules$Places"
  | 2 => .object "MarkRules$Values"
  | 3 => .object "MarkRules$Standing"
  | 4 => .object "MarkRules$Writer"
  | 5 => .array .int
  | _ => .int
abbrev wsX50 : List Cond := u_ws RX5 TX5 7
theorem nmX5 : ∀ a, a < 7 → ∀ b, b < 7 → a ≠ b → (TX5 a).2.1 ≠ (TX5 b).2.1 := by decide +kernel
theorem tyX5_ok : ∀ k, k < 7 → parseFieldDescriptor (TX5 k).2.2.1 = some (tyX5 k) := by decide +kernel
abbrev cX5_init : ByteArray := prog_1_method_1_code
def yX5_init : MethodName := ⟨RX5, "<init>", "()V"⟩
abbrev cX5_mark : ByteArray := prog_1_method_2_code
def yX5_mark : MethodName := ⟨RX5, "mark", "(IIZ)I"⟩
abbrev cX5_element : ByteArray := prog_1_method_3_code
def yX5_element : MethodName := ⟨RX5, "element", "(IIIZ)I"⟩
abbrev cX5_fallback : ByteArray := prog_1_method_4_code
def yX5_fallback : MethodName := ⟨RX5, "fallback", "(III)I"⟩
abbrev cX5_container : ByteArray := prog_1_method_5_code
def yX5_container : MethodName := ⟨RX5, "container", "(II)I"⟩
abbrev cX5_place : ByteArray := prog_1_method_6_code
def yX5_place : MethodName := ⟨RX5, "place", "(II)I"⟩
abbrev cX5_value : ByteArray := prog_1_method_7_code
def yX5_value : MethodName := ⟨RX5, "value", "(II)I"⟩
abbrev cX5_row : ByteArray := prog_1_method_8_code
def yX5_row : MethodName := ⟨RX5, "row", "(I)I"⟩
abbrev cX5_push : ByteArray := prog_1_method_9_code
def yX5_push : MethodName := ⟨RX5, "push", "(II)I"⟩
abbrev cX5_instance : ByteArray := prog_1_method_10_code
def yX5_instance : MethodName := ⟨RX5, "instance", "(I)I"⟩
abbrev cX5_give : ByteArray := prog_1_method_11_code
def yX5_give : MethodName := ⟨RX5, "give", "(III)I"⟩
abbrev cX5_put : ByteArray := prog_1_method_12_code
def yX5_put : MethodName := ⟨RX5, "put", "(II)I"⟩
abbrev cX5_cause : ByteArray := prog_1_method_13_code
def yX5_cause : MethodName := ⟨RX5, "cause", "()I"⟩
abbrev cX5_told : ByteArray := prog_1_method_14_code
def yX5_told : MethodName := ⟨RX5, "told", "(II)I"⟩
abbrev cX5_part : ByteArray := prog_1_method_15_code
def yX5_part : MethodName := ⟨RX5, "part", "(II)I"⟩
abbrev cX5_equal : ByteArray := prog_1_method_16_code
def yX5_equal : MethodName := ⟨RX5, "equal", "(II)I"⟩
abbrev cX5_written : ByteArray := prog_1_method_17_code
def yX5_written : MethodName := ⟨RX5, "written", "(I)I"⟩
abbrev cX5_letter : ByteArray := prog_1_method_18_code
def yX5_letter : MethodName := ⟨RX5, "letter", "(I)I"⟩
abbrev cX5_ask : ByteArray := prog_1_method_19_code
def yX5_ask : MethodName := ⟨RX5, "ask", "(IIZ)I"⟩
abbrev cX5_all : ByteArray := prog_1_method_20_code
def yX5_all : MethodName := ⟨RX5, "all", "(II)I"⟩
abbrev cX5_of : ByteArray := prog_1_method_21_code
def yX5_of : MethodName := ⟨RX5, "of", "(III)I"⟩
abbrev cX5_stands : ByteArray := prog_1_method_22_code
def yX5_stands : MethodName := ⟨RX5, "stands", "(I)I"⟩
abbrev cX5_count : ByteArray := prog_1_method_23_code
def yX5_count : MethodName := ⟨RX5, "count", "(I)I"⟩
abbrev cX5_countOfMark : ByteArray := prog_1_method_24_code
def yX5_countOfMark : MethodName := ⟨RX5, "countOfMark", "(I)I"⟩
abbrev cX5_asNumber : ByteArray := prog_1_method_25_code
def yX5_asNumber : MethodName := ⟨RX5, "asNumber", "(Z)I"⟩
abbrev cX5_isValueOrNone : ByteArray := prog_1_method_26_code
def yX5_isValueOrNone : MethodName := ⟨RX5, "isValueOrNone", "(I)Z"⟩
abbrev cX5_isDoneOrSame : ByteArray := prog_1_method_27_code
def yX5_isDoneOrSame : MethodName := ⟨RX5, "isDoneOrSame", "(II)Z"⟩
abbrev cX5_isSimple : ByteArray := prog_1_method_28_code
def yX5_isSimple : MethodName := ⟨RX5, "isSimple", "(II)Z"⟩
abbrev cX5_fail : ByteArray := prog_1_method_29_code
def yX5_fail : MethodName := ⟨RX5, "fail", "(I)I"⟩
abbrev cX5_takeFor : ByteArray := prog_1_method_30_code
def yX5_takeFor : MethodName := ⟨RX5, "takeFor", "(II)I"⟩
abbrev cX5_brokenRule : ByteArray := prog_1_method_31_code
def yX5_brokenRule : MethodName := ⟨RX5, "brokenRule", "(II)I"⟩
abbrev cX5_ownAt : ByteArray := prog_1_method_32_code
def yX5_ownAt : MethodName := ⟨RX5, "ownAt", "(II)I"⟩
abbrev cX5_gatheredAt : ByteArray := prog_1_method_33_code
def yX5_gatheredAt : MethodName := ⟨RX5, "gatheredAt", "(II)I"⟩
abbrev cX5_foundAt : ByteArray := prog_1_method_34_code
def yX5_foundAt : MethodName := ⟨RX5, "foundAt", "(II)I"⟩
abbrev cX5_inheritsFrom : ByteArray := prog_1_method_35_code
def yX5_inheritsFrom : MethodName := ⟨RX5, "inheritsFrom", "(II)I"⟩
abbrev cX5_sourceOfAll : ByteArray := prog_1_method_36_code
def yX5_sourceOfAll : MethodName := ⟨RX5, "sourceOfAll", "(II)I"⟩
abbrev cX5_howManyHere : ByteArray := prog_1_method_37_code
def yX5_howManyHere : MethodName := ⟨RX5, "howManyHere", "(II)I"⟩
abbrev cX5_containerRowAt : ByteArray := prog_1_method_38_code
def yX5_containerRowAt : MethodName := ⟨RX5, "containerRowAt", "(II)I"⟩
def RX6 : String := "MarkRulesModel"
def TX6 : u_T := fun k => match k with
  | 0 => ("MarkRulesModel", "marks", "I", false)
  | 1 => ("MarkRulesModel", "targets", "[I", true)
  | 2 => ("MarkRulesModel", "keep", "[I", true)
  | 3 => ("MarkRulesModel", "inherited", "[Z", true)
  | 4 => ("MarkRulesModel", "container", "[I", true)
  | 5 => ("MarkRulesModel", "contained", "[I", true)
  | 6 => ("MarkRulesModel", "elements", "[I", true)
  | 7 => ("MarkRulesModel", "elementName", "[I", true)
  | 8 => ("MarkRulesModel", "elementKind", "[I", true)
  | 9 => ("MarkRulesModel", "elementRow", "[Z", true)
  | 10 => ("MarkRulesModel", "elementDefault", "[I", true)
  | 11 => ("MarkRulesModel", "depth", "[I", true)
  | 12 => ("MarkRulesModel", "places", "I", false)
  | 13 => ("MarkRulesModel", "placeKind", "[I", true)
  | 14 => ("MarkRulesModel", "placeOf", "[I", true)
  | 15 => ("MarkRulesModel", "values", "I", false)
  | 16 => ("MarkRulesModel", "sort", "[I", true)
  | 17 => ("MarkRulesModel", "kind", "[I", true)
  | 18 => ("MarkRulesModel", "number", "[I", true)
  | 19 => ("MarkRulesModel", "isDone", "[Z", true)
  | 20 => ("MarkRulesModel", "child", "[I", true)
  | 21 => ("MarkRulesModel", "cause", "I", false)
  | 22 => ("MarkRulesModel", "ever", "[I", true)
  | 23 => ("MarkRulesModel", "piled", "I", false)
  | 24 => ("MarkRulesModel", "pile", "[I", true)
  | 25 => ("MarkRulesModel", "other", "[I", true)
  | 26 => ("MarkRulesModel", "far", "[I", true)
  | 27 => ("MarkRulesModel", "letters", "I", false)
  | 28 => ("MarkRulesModel", "letter", "[I", true)
  | 29 => ("MarkRulesModel", "drafted", "I", false)
  | 30 => ("MarkRulesModel", "draft", "[I", true)
  | 31 => ("MarkRulesModel", "digit", "[I", true)
  | 32 => ("MarkRulesModel", "puts", "I", false)
  | 33 => ("MarkRulesModel", "putPlace", "[I", true)
  | _ => ("MarkRulesModel", "putValue", "[I", true)
def tyX6 : Nat → FieldType := fun k => match k with
  | 0 => .int
  | 1 => .array .int
  | 2 => .array .int
  | 3 => .array .boolean
  | 4 => .array .int
  | 5 => .array .int
  | 6 => .array .int
  | 7 => .array .int
  | 8 => .array .int
  | 9 => .array .boolean
  | 10 => .array .int
  | 11 => .array .int
  | 12 => .int
  | 13 => .array .int
  | 14 => .array .int
  | 15 => .int
  | 16 => .array .int
  | 17 => .array .int
  | 18 => .array .int
  | 19 => .array .boolean
  | 20 => .array .int
  | 21 => .int
  | 22 => .array .int
  | 23 => .int
  | 24 => .array .int
  | 25 => .array .int
  | 26 => .array .int
  | 27 => .int
  | 28 => .array .int
  | 29 => .int
  | 30 => .array .int
  | 31 => .array .int
  | 32 => .int
  | 33 => .array .int
  | _ => .array .int
abbrev wsX60 : List Cond := u_ws RX6 TX6 35
theorem nmX6 : ∀ a, a < 35 → ∀ b, b < 35 → a ≠ b → (TX6 a).2.1 ≠ (TX6 b).2.1 := by decide +kernel
theorem tyX6_ok : ∀ k, k < 35 → parseFieldDescriptor (TX6 k).2.2.1 = some (tyX6 k) := by decide +kernel
abbrev cX6_init : ByteArray := prog_8_method_1_code
def yX6_init : MethodName := ⟨RX6, "<init>", "()V"⟩
abbrev cX6_isMark : ByteArray := prog_8_method_2_code
def yX6_isMark : MethodName := ⟨RX6, "isMark", "(I)Z"⟩
abbrev cX6_mark : ByteArray := prog_8_method_3_code
def yX6_mark : MethodName := ⟨RX6, "mark", "(IIZ)I"⟩
abbrev cX6_isKind : ByteArray := prog_8_method_4_code
def yX6_isKind : MethodName := ⟨RX6, "isKind", "(I)Z"⟩
abbrev cX6_elementOf : ByteArray := prog_8_method_5_code
def yX6_elementOf : MethodName := ⟨RX6, "elementOf", "(II)I"⟩
abbrev cX6_isFixed : ByteArray := prog_8_method_6_code
def yX6_isFixed : MethodName := ⟨RX6, "isFixed", "(I)Z"⟩
abbrev cX6_mayLead : ByteArray := prog_8_method_7_code
def yX6_mayLead : MethodName := ⟨RX6, "mayLead", "(II)Z"⟩
abbrev cX6_element : ByteArray := prog_8_method_8_code
def yX6_element : MethodName := ⟨RX6, "element", "(IIIZ)I"⟩
abbrev cX6_isContainer : ByteArray := prog_8_method_9_code
def yX6_isContainer : MethodName := ⟨RX6, "isContainer", "(II)Z"⟩
abbrev cX6_container : ByteArray := prog_8_method_10_code
def yX6_container : MethodName := ⟨RX6, "container", "(II)I"⟩
abbrev cX6_isPlace : ByteArray := prog_8_method_11_code
def yX6_isPlace : MethodName := ⟨RX6, "isPlace", "(I)Z"⟩
abbrev cX6_isAmong : ByteArray := prog_8_method_12_code
def yX6_isAmong : MethodName := ⟨RX6, "isAmong", "(III)Z"⟩
abbrev cX6_isType : ByteArray := prog_8_method_13_code
def yX6_isType : MethodName := ⟨RX6, "isType", "(I)Z"⟩
abbrev cX6_place : ByteArray := prog_8_method_14_code
def yX6_place : MethodName := ⟨RX6, "place", "(II)I"⟩
abbrev cX6_isValue : ByteArray := prog_8_method_15_code
def yX6_isValue : MethodName := ⟨RX6, "isValue", "(I)Z"⟩
abbrev cX6_isSort : ByteArray := prog_8_method_16_code
def yX6_isSort : MethodName := ⟨RX6, "isSort", "(II)Z"⟩
abbrev cX6_added : ByteArray := prog_8_method_17_code
def yX6_added : MethodName := ⟨RX6, "added", "(III)I"⟩
abbrev cX6_value : ByteArray := prog_8_method_18_code
def yX6_value : MethodName := ⟨RX6, "value", "(II)I"⟩
abbrev cX6_row : ByteArray := prog_8_method_19_code
def yX6_row : MethodName := ⟨RX6, "row", "(I)I"⟩
abbrev cX6_instance : ByteArray := prog_8_method_20_code
def yX6_instance : MethodName := ⟨RX6, "instance", "(I)I"⟩
abbrev cX6_failed : ByteArray := prog_8_method_21_code
def yX6_failed : MethodName := ⟨RX6, "failed", "(I)I"⟩
abbrev cX6_good : ByteArray := prog_8_method_22_code
def yX6_good : MethodName := ⟨RX6, "good", "(I)I"⟩
abbrev cX6_isOfKind : ByteArray := prog_8_method_23_code
def yX6_isOfKind : MethodName := ⟨RX6, "isOfKind", "(II)Z"⟩
abbrev cX6_done : ByteArray := prog_8_method_24_code
def yX6_done : MethodName := ⟨RX6, "done", "(I)V"⟩
abbrev cX6_push : ByteArray := prog_8_method_25_code
def yX6_push : MethodName := ⟨RX6, "push", "(II)I"⟩
abbrev cX6_given : ByteArray := prog_8_method_26_code
def yX6_given : MethodName := ⟨RX6, "given", "(II)I"⟩
abbrev cX6_fallback : ByteArray := prog_8_method_27_code
def yX6_fallback : MethodName := ⟨RX6, "fallback", "(III)I"⟩
abbrev cX6_give : ByteArray := prog_8_method_28_code
def yX6_give : MethodName := ⟨RX6, "give", "(III)I"⟩
abbrev cX6_within : ByteArray := prog_8_method_29_code
def yX6_within : MethodName := ⟨RX6, "within", "(I)I"⟩
abbrev cX6_inner : ByteArray := prog_8_method_30_code
def yX6_inner : MethodName := ⟨RX6, "inner", "(II)I"⟩
abbrev cX6_pile : ByteArray := prog_8_method_31_code
def yX6_pile : MethodName := ⟨RX6, "pile", "(II)V"⟩
abbrev cX6_isWhole : ByteArray := prog_8_method_32_code
def yX6_isWhole : MethodName := ⟨RX6, "isWhole", "(I)Z"⟩
abbrev cX6_isLike : ByteArray := prog_8_method_33_code
def yX6_isLike : MethodName := ⟨RX6, "isLike", "(II)Z"⟩
abbrev cX6_areEqual : ByteArray := prog_8_method_34_code
def yX6_areEqual : MethodName := ⟨RX6, "areEqual", "(II)Z"⟩
abbrev cX6_equal : ByteArray := prog_8_method_35_code
def yX6_equal : MethodName := ⟨RX6, "equal", "(II)I"⟩
abbrev cX6_told : ByteArray := prog_8_method_36_code
def yX6_told : MethodName := ⟨RX6, "told", "(II)I"⟩
abbrev cX6_part : ByteArray := prog_8_method_37_code
def yX6_part : MethodName := ⟨RX6, "part", "(II)I"⟩
abbrev cX6_write : ByteArray := prog_8_method_38_code
def yX6_write : MethodName := ⟨RX6, "write", "(I)V"⟩
abbrev cX6_writeNumber : ByteArray := prog_8_method_39_code
def yX6_writeNumber : MethodName := ⟨RX6, "writeNumber", "(I)V"⟩
abbrev cX6_begin : ByteArray := prog_8_method_40_code
def yX6_begin : MethodName := ⟨RX6, "begin", "(I)V"⟩
abbrev cX6_isBehind : ByteArray := prog_8_method_41_code
def yX6_isBehind : MethodName := ⟨RX6, "isBehind", "(II)Z"⟩
abbrev cX6_written : ByteArray := prog_8_method_42_code
def yX6_written : MethodName := ⟨RX6, "written", "(I)I"⟩
abbrev cX6_letter : ByteArray := prog_8_method_43_code
def yX6_letter : MethodName := ⟨RX6, "letter", "(I)I"⟩
abbrev cX6_standing : ByteArray := prog_8_method_44_code
def yX6_standing : MethodName := ⟨RX6, "standing", "(II)I"⟩
abbrev cX6_stander : ByteArray := prog_8_method_45_code
def yX6_stander : MethodName := ⟨RX6, "stander", "(III)I"⟩
abbrev cX6_mayStand : ByteArray := prog_8_method_46_code
def yX6_mayStand : MethodName := ⟨RX6, "mayStand", "(II)Z"⟩
abbrev cX6_put : ByteArray := prog_8_method_47_code
def yX6_put : MethodName := ⟨RX6, "put", "(II)I"⟩
abbrev cX6_own : ByteArray := prog_8_method_48_code
def yX6_own : MethodName := ⟨RX6, "own", "(II)I"⟩
abbrev cX6_goesUp : ByteArray := prog_8_method_49_code
def yX6_goesUp : MethodName := ⟨RX6, "goesUp", "(II)Z"⟩
abbrev cX6_ask : ByteArray := prog_8_method_50_code
def yX6_ask : MethodName := ⟨RX6, "ask", "(IIZ)I"⟩
abbrev cX6_rowAt : ByteArray := prog_8_method_51_code
def yX6_rowAt : MethodName := ⟨RX6, "rowAt", "(II)I"⟩
abbrev cX6_allAt : ByteArray := prog_8_method_52_code
def yX6_allAt : MethodName := ⟨RX6, "allAt", "(II)I"⟩
abbrev cX6_whereAll : ByteArray := prog_8_method_53_code
def yX6_whereAll : MethodName := ⟨RX6, "whereAll", "(II)I"⟩
abbrev cX6_all : ByteArray := prog_8_method_54_code
def yX6_all : MethodName := ⟨RX6, "all", "(II)I"⟩
abbrev cX6_of : ByteArray := prog_8_method_55_code
def yX6_of : MethodName := ⟨RX6, "of", "(III)I"⟩
abbrev cX6_stands : ByteArray := prog_8_method_56_code
def yX6_stands : MethodName := ⟨RX6, "stands", "(I)I"⟩
abbrev cX6_cause : ByteArray := prog_8_method_57_code
def yX6_cause : MethodName := ⟨RX6, "cause", "()I"⟩
abbrev cX6_count : ByteArray := prog_8_method_58_code
def yX6_count : MethodName := ⟨RX6, "count", "(I)I"⟩
def RJ9 : String := "java/lang/Math"
def TJ9 : u_T := fun k => match k with
  | _ => ("", "", "", false)
def tyJ9 : Nat → FieldType := fun k => match k with
  | _ => .int
abbrev wsJ90 : List Cond := u_ws RJ9 TJ9 0
theorem nmJ9 : ∀ a, a < 0 → ∀ b, b < 0 → a ≠ b → (TJ9 a).2.1 ≠ (TJ9 b).2.1 := by decide +kernel
theorem tyJ9_ok : ∀ k, k < 0 → parseFieldDescriptor (TJ9 k).2.2.1 = some (tyJ9 k) := by decide +kernel
abbrev cJ9_abs_067f4 : ByteArray := prog_9_method_61_code
def yJ9_abs_067f4 : MethodName := ⟨RJ9, "abs", "(J)J"⟩
def RJ7 : String := "java/util/Arrays"
def TJ7 : u_T := fun k => match k with
  | _ => ("", "", "", false)
def tyJ7 : Nat → FieldType := fun k => match k with
  | _ => .int
abbrev wsJ70 : List Cond := u_ws RJ7 TJ7 0
theorem nmJ7 : ∀ a, a < 0 → ∀ b, b < 0 → a ≠ b → (TJ7 a).2.1 ≠ (TJ7 b).2.1 := by decide +kernel
theorem tyJ7_ok : ∀ k, k < 0 → parseFieldDescriptor (TJ7 k).2.2.1 = some (tyJ7 k) := by decide +kernel
abbrev cJ7_fill_53178 : ByteArray := prog_10_method_103_code
def yJ7_fill_53178 : MethodName := ⟨RJ7, "fill", "([II)V"⟩
def RL : String := "MarkRulesLaw"
abbrev cL_law : ByteArray := code
def yL_law : MethodName := ⟨RL, "law", "([I)Z"⟩
def wsL_law_r1 : List Cond := [Cond.classLink RL 7 RX5, Cond.instantiable RX5 7, Cond.initialized RX5, Cond.classLink RL 10 RX6, Cond.instantiable RX6 35, Cond.initialized RX6, Cond.methodLink RL 9 yX5_init, Cond.instanceMethod yX5_init, Cond.code yX5_init cX5_init 3 none, Cond.methodLink RX5 1 objectInit, Cond.instanceMethod objectInit, Cond.code objectInit ⟨#[0xb1]⟩ 1 none, Cond.classLink RX5 7 RX0, Cond.instantiable RX0 14, Cond.initialized RX0, Cond.classLink RX5 10 RX3, Cond.instantiable RX3 7, Cond.initialized RX3, Cond.fieldLink RX5 15 "MarkRules" "marks" "LMarkRules$Marks;", Cond.fieldLink RX5 21 "MarkRules" "values" "LMarkRules$Values;", Cond.classLink RX5 25 RX1, Cond.instantiable RX1 3, Cond.initialized RX1, Cond.fieldLink RX5 28 "MarkRules" "places" "LMarkRules$Places;"]
def wsL_law_r2 : List Cond := [Cond.classLink RX5 32 RX2, Cond.instantiable RX2 4, Cond.initialized RX2, Cond.fieldLink RX5 35 "MarkRules" "standing" "LMarkRules$Standing;", Cond.classLink RX5 39 RX4, Cond.instantiable RX4 7, Cond.initialized RX4, Cond.fieldLink RX5 44 "MarkRules" "writer" "LMarkRules$Writer;", Cond.arrayClass .int, Cond.fieldLink RX5 48 "MarkRules" "failures" "[I", Cond.fieldLink RX5 52 "MarkRules" "latestFailure" "I", Cond.methodLink RX5 9 yX0_init, Cond.instanceMethod yX0_init, Cond.code yX0_init cX0_init 1 none, Cond.methodLink RX0 3 objectInit, Cond.fieldLink RX0 9 "MarkRules$Marks" "size" "I", Cond.fieldLink RX0 15 "MarkRules$Marks" "targets" "[I", Cond.fieldLink RX0 19 "MarkRules$Marks" "keeps" "[I", Cond.arrayClass .boolean, Cond.fieldLink RX0 22 "MarkRules$Marks" "inherited" "[Z", Cond.fieldLink RX0 26 "MarkRules$Marks" "sizes" "[I", Cond.fieldLink RX0 29 "MarkRules$Marks" "leads" "[I", Cond.fieldLink RX0 32 "MarkRules$Marks" "containers" "[I", Cond.fieldLink RX0 35 "MarkRules$Marks" "contents" "[I"]
def wsL_law_r3 : List Cond := [Cond.fieldLink RX0 38 "MarkRules$Marks" "everMade" "[Z", Cond.fieldLink RX0 41 "MarkRules$Marks" "everPut" "[Z", Cond.fieldLink RX0 44 "MarkRules$Marks" "names" "[I", Cond.fieldLink RX0 47 "MarkRules$Marks" "kinds" "[I", Cond.fieldLink RX0 50 "MarkRules$Marks" "rows" "[Z", Cond.fieldLink RX0 53 "MarkRules$Marks" "defaults" "[I", Cond.methodLink RX0 56 yJ7_fill_53178, Cond.static yJ7_fill_53178, Cond.initialized RJ7, Cond.code yJ7_fill_53178 cJ7_fill_53178 4 none, Cond.methodLink RX5 12 yX3_init, Cond.instanceMethod yX3_init, Cond.code yX3_init cX3_init 2 none, Cond.methodLink RX3 3 objectInit, Cond.fieldLink RX3 9 "MarkRules$Values" "size" "I", Cond.fieldLink RX3 15 "MarkRules$Values" "sorts" "[I", Cond.fieldLink RX3 19 "MarkRules$Values" "kinds" "[I", Cond.fieldLink RX3 22 "MarkRules$Values" "numbers" "[I", Cond.fieldLink RX3 25 "MarkRules$Values" "dones" "[Z", Cond.fieldLink RX3 29 "MarkRules$Values" "parts" "[I", Cond.fieldLink RX3 32 "MarkRules$Values" "marks" "LMarkRules$Marks;", Cond.methodLink RX3 36 yJ7_fill_53178, Cond.instanceMethod yX1_init, Cond.code yX1_init cX1_init 1 none]
def wsL_law_r4 : List Cond := [Cond.methodLink RX1 3 objectInit, Cond.fieldLink RX1 9 "MarkRules$Places" "size" "I", Cond.fieldLink RX1 15 "MarkRules$Places" "kinds" "[I", Cond.fieldLink RX1 19 "MarkRules$Places" "owners" "[I", Cond.instanceMethod yX2_init, Cond.code yX2_init cX2_init 1 none, Cond.methodLink RX2 3 objectInit, Cond.fieldLink RX2 9 "MarkRules$Standing" "size" "I", Cond.fieldLink RX2 15 "MarkRules$Standing" "spots" "[I", Cond.fieldLink RX2 19 "MarkRules$Standing" "kinds" "[I", Cond.fieldLink RX2 22 "MarkRules$Standing" "instances" "[I", Cond.methodLink RX5 41 yX4_init, Cond.instanceMethod yX4_init, Cond.code yX4_init cX4_init 3 none, Cond.methodLink RX4 3 objectInit, Cond.arrayClass .byte, Cond.fieldLink RX4 9 "MarkRules$Writer" "bytes" "[B", Cond.fieldLink RX4 15 "MarkRules$Writer" "length" "I", Cond.fieldLink RX4 19 "MarkRules$Writer" "digits" "[I", Cond.fieldLink RX4 23 "MarkRules$Writer" "at" "I", Cond.fieldLink RX4 26 "MarkRules$Writer" "keeps" "Z", Cond.fieldLink RX4 30 "MarkRules$Writer" "marks" "LMarkRules$Marks;", Cond.fieldLink RX4 34 "MarkRules$Writer" "values" "LMarkRules$Values;", Cond.methodLink RL 12 yX6_init]
def wsL_law_r5 : List Cond := [Cond.instanceMethod yX6_init, Cond.code yX6_init cX6_init 1 none, Cond.methodLink RX6 1 objectInit, Cond.fieldLink RX6 7 "MarkRulesModel" "targets" "[I", Cond.fieldLink RX6 13 "MarkRulesModel" "keep" "[I", Cond.fieldLink RX6 16 "MarkRulesModel" "inherited" "[Z", Cond.fieldLink RX6 20 "MarkRulesModel" "container" "[I", Cond.fieldLink RX6 23 "MarkRulesModel" "contained" "[I", Cond.fieldLink RX6 26 "MarkRulesModel" "elements" "[I", Cond.fieldLink RX6 29 "MarkRulesModel" "elementName" "[I", Cond.fieldLink RX6 32 "MarkRulesModel" "elementKind" "[I", Cond.fieldLink RX6 35 "MarkRulesModel" "elementRow" "[Z", Cond.fieldLink RX6 38 "MarkRulesModel" "elementDefault" "[I", Cond.fieldLink RX6 41 "MarkRulesModel" "depth" "[I", Cond.fieldLink RX6 44 "MarkRulesModel" "placeKind" "[I", Cond.fieldLink RX6 47 "MarkRulesModel" "placeOf" "[I", Cond.fieldLink RX6 50 "MarkRulesModel" "sort" "[I", Cond.fieldLink RX6 53 "MarkRulesModel" "kind" "[I", Cond.fieldLink RX6 56 "MarkRulesModel" "number" "[I", Cond.fieldLink RX6 59 "MarkRulesModel" "isDone" "[Z", Cond.fieldLink RX6 62 "MarkRulesModel" "child" "[I", Cond.fieldLink RX6 65 "MarkRulesModel" "ever" "[I", Cond.fieldLink RX6 68 "MarkRulesModel" "pile" "[I", Cond.fieldLink RX6 71 "MarkRulesModel" "other" "[I"]
def wsL_law_r6 : List Cond := [Cond.fieldLink RX6 74 "MarkRulesModel" "far" "[I", Cond.fieldLink RX6 77 "MarkRulesModel" "letter" "[I", Cond.fieldLink RX6 80 "MarkRulesModel" "draft" "[I", Cond.fieldLink RX6 83 "MarkRulesModel" "digit" "[I", Cond.fieldLink RX6 86 "MarkRulesModel" "putPlace" "[I", Cond.fieldLink RX6 89 "MarkRulesModel" "putValue" "[I", Cond.methodLink RL 13 yX5_mark, Cond.instanceMethod yX5_mark, Cond.selects RX5 yX5_mark yX5_mark, Cond.code yX5_mark cX5_mark 4 (some .int), Cond.methodLink RX5 56 yX0_add, Cond.instanceMethod yX0_add, Cond.selects RX0 yX0_add yX0_add, Cond.code yX0_add cX0_add 4 (some .int), Cond.methodLink RL 17 yX6_mark, Cond.instanceMethod yX6_mark, Cond.selects RX6 yX6_mark yX6_mark, Cond.code yX6_mark cX6_mark 4 (some .int), Cond.fieldLink RX6 92 "MarkRulesModel" "marks" "I", Cond.methodLink RL 18 yX5_element, Cond.instanceMethod yX5_element, Cond.selects RX5 yX5_element yX5_element, Cond.code yX5_element cX5_element 5 (some .int), Cond.methodLink RX5 60 yX0_has]
def wsL_law_r7 : List Cond := [Cond.instanceMethod yX0_has, Cond.selects RX0 yX0_has yX0_has, Cond.code yX0_has cX0_has 2 (some .boolean), Cond.methodLink RX5 64 yX0_hasKind, Cond.instanceMethod yX0_hasKind, Cond.selects RX0 yX0_hasKind yX0_hasKind, Cond.code yX0_hasKind cX0_hasKind 2 (some .boolean), Cond.methodLink RX0 62 yX0_has, Cond.methodLink RX5 67 yX0_slotOf, Cond.instanceMethod yX0_slotOf, Cond.selects RX0 yX0_slotOf yX0_slotOf, Cond.code yX0_slotOf cX0_slotOf 4 (some .int), Cond.methodLink RX0 70 yX0_positionOf, Cond.instanceMethod yX0_positionOf, Cond.selects RX0 yX0_positionOf yX0_positionOf, Cond.code yX0_positionOf cX0_positionOf 4 (some .int), Cond.methodLink RX5 71 yX0_isFixed, Cond.instanceMethod yX0_isFixed, Cond.selects RX0 yX0_isFixed yX0_isFixed, Cond.code yX0_isFixed cX0_isFixed 2 (some .boolean), Cond.methodLink RX5 74 yX0_wouldLeadTooFar, Cond.instanceMethod yX0_wouldLeadTooFar, Cond.selects RX0 yX0_wouldLeadTooFar yX0_wouldLeadTooFar, Cond.code yX0_wouldLeadTooFar cX0_wouldLeadTooFar 6 (some .boolean)]
def wsL_law_r8 : List Cond := [Cond.methodLink RX0 66 yX0_leadOf, Cond.static yX0_leadOf, Cond.code yX0_leadOf cX0_leadOf 1 (some .int), Cond.methodLink RX0 74 yX0_leadingInto, Cond.instanceMethod yX0_leadingInto, Cond.selects RX0 yX0_leadingInto yX0_leadingInto, Cond.code yX0_leadingInto cX0_leadingInto 4 (some .int), Cond.methodLink RX5 78 yX0_addElement, Cond.instanceMethod yX0_addElement, Cond.selects RX0 yX0_addElement yX0_addElement, Cond.code yX0_addElement cX0_addElement 6 (some .int), Cond.methodLink RL 22 yX6_element, Cond.instanceMethod yX6_element, Cond.selects RX6 yX6_element yX6_element, Cond.code yX6_element cX6_element 6 (some .int), Cond.methodLink RX6 96 yX6_isMark, Cond.instanceMethod yX6_isMark, Cond.selects RX6 yX6_isMark yX6_isMark, Cond.code yX6_isMark cX6_isMark 2 (some .boolean), Cond.methodLink RX6 103 yX6_isKind, Cond.instanceMethod yX6_isKind, Cond.selects RX6 yX6_isKind yX6_isKind, Cond.code yX6_isKind cX6_isKind 2 (some .boolean), Cond.methodLink RX6 106 yX6_elementOf]
def wsL_law_r9 : List Cond := [Cond.instanceMethod yX6_elementOf, Cond.selects RX6 yX6_elementOf yX6_elementOf, Cond.code yX6_elementOf cX6_elementOf 5 (some .int), Cond.methodLink RX6 110 yX6_isFixed, Cond.instanceMethod yX6_isFixed, Cond.selects RX6 yX6_isFixed yX6_isFixed, Cond.code yX6_isFixed cX6_isFixed 4 (some .boolean), Cond.fieldLink RX6 100 "MarkRulesModel" "values" "I", Cond.methodLink RX6 113 yX6_mayLead, Cond.instanceMethod yX6_mayLead, Cond.selects RX6 yX6_mayLead yX6_mayLead, Cond.code yX6_mayLead cX6_mayLead 8 (some .boolean), Cond.methodLink RL 23 yX5_fallback, Cond.instanceMethod yX5_fallback, Cond.selects RX5 yX5_fallback yX5_fallback, Cond.code yX5_fallback cX5_fallback 6 (some .int), Cond.fieldLink RX5 85 "MarkRules$Values" "dones" "[Z", Cond.fieldLink RX5 95 "MarkRules$Marks" "defaults" "[I", Cond.methodLink RX5 82 yX5_isValueOrNone, Cond.instanceMethod yX5_isValueOrNone, Cond.selects RX5 yX5_isValueOrNone yX5_isValueOrNone, Cond.code yX5_isValueOrNone cX5_isValueOrNone 2 (some .boolean), Cond.methodLink RX5 168 yX3_has, Cond.instanceMethod yX3_has]
def wsL_law_r10 : List Cond := [Cond.selects RX3 yX3_has yX3_has, Cond.code yX3_has cX3_has 2 (some .boolean), Cond.methodLink RX5 89 yX3_isWhole, Cond.instanceMethod yX3_isWhole, Cond.selects RX3 yX3_isWhole yX3_isWhole, Cond.code yX3_isWhole cX3_isWhole 3 (some .boolean), Cond.methodLink RX3 42 yX3_has, Cond.methodLink RX3 83 yX3_areAllWhole, Cond.instanceMethod yX3_areAllWhole, Cond.selects RX3 yX3_areAllWhole yX3_areAllWhole, Cond.methodLink RX3 86 yX3_hasAllElementsWhole, Cond.instanceMethod yX3_hasAllElementsWhole, Cond.selects RX3 yX3_hasAllElementsWhole yX3_hasAllElementsWhole, Cond.code yX3_areAllWhole cX3_areAllWhole 4 (some .boolean), Cond.methodLink RX3 62 yX3_partAt, Cond.instanceMethod yX3_partAt, Cond.selects RX3 yX3_partAt yX3_partAt, Cond.code yX3_partAt cX3_partAt 3 (some .int), Cond.methodLink RX3 89 yX3_isWhole, Cond.code yX3_hasAllElementsWhole cX3_hasAllElementsWhole 5 (some .boolean), Cond.methodLink RX3 92 yX3_howManyElements, Cond.instanceMethod yX3_howManyElements, Cond.selects RX3 yX3_howManyElements yX3_howManyElements, Cond.code yX3_howManyElements cX3_howManyElements 2 (some .int)]
def wsL_law_r11 : List Cond := [Cond.fieldLink RX3 80 "MarkRules$Marks" "sizes" "[I", Cond.methodLink RX3 70 yX3_markOf, Cond.instanceMethod yX3_markOf, Cond.selects RX3 yX3_markOf yX3_markOf, Cond.code yX3_markOf cX3_markOf 2 (some .int), Cond.methodLink RX3 77 yX3_elementAt, Cond.instanceMethod yX3_elementAt, Cond.selects RX3 yX3_elementAt yX3_elementAt, Cond.code yX3_elementAt cX3_elementAt 4 (some .int), Cond.fieldLink RX3 65 "MarkRules$Marks" "defaults" "[I", Cond.methodLink RX5 92 yX5_takeFor, Cond.instanceMethod yX5_takeFor, Cond.selects RX5 yX5_takeFor yX5_takeFor, Cond.code yX5_takeFor cX5_takeFor 7 (some .int), Cond.fieldLink RX5 232 "MarkRules$Marks" "kinds" "[I", Cond.fieldLink RX5 233 "MarkRules$Marks" "rows" "[Z", Cond.methodLink RX5 130 yX5_fail, Cond.instanceMethod yX5_fail, Cond.selects RX5 yX5_fail yX5_fail, Cond.code yX5_fail cX5_fail 2 (some .int), Cond.methodLink RX5 137 yX3_isOfKind, Cond.instanceMethod yX3_isOfKind, Cond.selects RX3 yX3_isOfKind yX3_isOfKind, Cond.code yX3_isOfKind cX3_isOfKind 3 (some .boolean)]
def wsL_law_r12 : List Cond := [Cond.methodLink RX5 236 yX3_isRowOf, Cond.instanceMethod yX3_isRowOf, Cond.selects RX3 yX3_isRowOf yX3_isRowOf, Cond.code yX3_isRowOf cX3_isRowOf 3 (some .boolean), Cond.methodLink RX3 46 yX3_isSort, Cond.instanceMethod yX3_isSort, Cond.selects RX3 yX3_isSort yX3_isSort, Cond.code yX3_isSort cX3_isSort 3 (some .boolean), Cond.methodLink RX5 239 yX3_addRowOfOne, Cond.instanceMethod yX3_addRowOfOne, Cond.selects RX3 yX3_addRowOfOne yX3_addRowOfOne, Cond.code yX3_addRowOfOne cX3_addRowOfOne 4 (some .int), Cond.methodLink RX3 50 yX3_add, Cond.instanceMethod yX3_add, Cond.selects RX3 yX3_add yX3_add, Cond.code yX3_add cX3_add 4 (some .int), Cond.methodLink RX3 54 yX3_append, Cond.instanceMethod yX3_append, Cond.selects RX3 yX3_append yX3_append, Cond.code yX3_append cX3_append 3 (some .int), Cond.methodLink RX3 58 yX3_finish, Cond.instanceMethod yX3_finish, Cond.selects RX3 yX3_finish yX3_finish, Cond.code yX3_finish cX3_finish 2 none]
def wsL_law_r13 : List Cond := [Cond.methodLink RX5 242 yX3_finish, Cond.methodLink RL 27 yX6_fallback, Cond.instanceMethod yX6_fallback, Cond.selects RX6 yX6_fallback yX6_fallback, Cond.code yX6_fallback cX6_fallback 5 (some .int), Cond.methodLink RX6 136 yX6_isValue, Cond.instanceMethod yX6_isValue, Cond.selects RX6 yX6_isValue yX6_isValue, Cond.code yX6_isValue cX6_isValue 2 (some .boolean), Cond.methodLink RX6 163 yX6_isWhole, Cond.instanceMethod yX6_isWhole, Cond.selects RX6 yX6_isWhole yX6_isWhole, Cond.code yX6_isWhole cX6_isWhole 5 (some .boolean), Cond.fieldLink RX6 169 "MarkRulesModel" "piled" "I", Cond.methodLink RX6 172 yX6_pile, Cond.instanceMethod yX6_pile, Cond.selects RX6 yX6_pile yX6_pile, Cond.code yX6_pile cX6_pile 3 none, Cond.methodLink RX6 175 yX6_within, Cond.instanceMethod yX6_within, Cond.selects RX6 yX6_within yX6_within, Cond.code yX6_within cX6_within 2 (some .int), Cond.methodLink RX6 178 yX6_inner, Cond.instanceMethod yX6_inner]
def wsL_law_r14 : List Cond := [Cond.selects RX6 yX6_inner yX6_inner, Cond.code yX6_inner cX6_inner 4 (some .int), Cond.methodLink RX6 166 yX6_given, Cond.instanceMethod yX6_given, Cond.selects RX6 yX6_given yX6_given, Cond.code yX6_given cX6_given 5 (some .int), Cond.methodLink RX6 153 yX6_isOfKind, Cond.instanceMethod yX6_isOfKind, Cond.selects RX6 yX6_isOfKind yX6_isOfKind, Cond.code yX6_isOfKind cX6_isOfKind 3 (some .boolean), Cond.methodLink RX6 149 yX6_failed, Cond.instanceMethod yX6_failed, Cond.selects RX6 yX6_failed yX6_failed, Cond.code yX6_failed cX6_failed 2 (some .int), Cond.fieldLink RX6 143 "MarkRulesModel" "cause" "I", Cond.methodLink RX6 139 yX6_added, Cond.instanceMethod yX6_added, Cond.selects RX6 yX6_added yX6_added, Cond.code yX6_added cX6_added 5 (some .int), Cond.methodLink RX6 156 yX6_done, Cond.instanceMethod yX6_done, Cond.selects RX6 yX6_done yX6_done, Cond.code yX6_done cX6_done 2 none, Cond.methodLink RX6 160 yX6_good]
def wsL_law_r15 : List Cond := [Cond.instanceMethod yX6_good, Cond.selects RX6 yX6_good yX6_good, Cond.code yX6_good cX6_good 2 (some .int), Cond.methodLink RL 28 yX5_container, Cond.instanceMethod yX5_container, Cond.selects RX5 yX5_container yX5_container, Cond.code yX5_container cX5_container 3 (some .int), Cond.fieldLink RX5 98 "MarkRules$Marks" "containers" "[I", Cond.fieldLink RX5 101 "MarkRules$Marks" "everPut" "[Z", Cond.fieldLink RX5 107 "MarkRules$Marks" "contents" "[I", Cond.methodLink RX5 104 yX0_canContain, Cond.instanceMethod yX0_canContain, Cond.selects RX0 yX0_canContain yX0_canContain, Cond.code yX0_canContain cX0_canContain 4 (some .boolean), Cond.methodLink RX0 77 yX0_slotOf, Cond.methodLink RX0 80 yX0_othersHaveDefaults, Cond.instanceMethod yX0_othersHaveDefaults, Cond.selects RX0 yX0_othersHaveDefaults yX0_othersHaveDefaults, Cond.code yX0_othersHaveDefaults cX0_othersHaveDefaults 4 (some .boolean), Cond.methodLink RL 32 yX6_container, Cond.instanceMethod yX6_container, Cond.selects RX6 yX6_container yX6_container, Cond.code yX6_container cX6_container 5 (some .int), Cond.fieldLink RX6 117 "MarkRulesModel" "puts" "I"]
def wsL_law_r16 : List Cond := [Cond.methodLink RX6 120 yX6_isContainer, Cond.instanceMethod yX6_isContainer, Cond.selects RX6 yX6_isContainer yX6_isContainer, Cond.code yX6_isContainer cX6_isContainer 6 (some .boolean), Cond.methodLink RL 33 yX5_place, Cond.instanceMethod yX5_place, Cond.selects RX5 yX5_place yX5_place, Cond.code yX5_place cX5_place 3 (some .int), Cond.methodLink RX5 110 yX1_fits, Cond.instanceMethod yX1_fits, Cond.selects RX1 yX1_fits yX1_fits, Cond.code yX1_fits cX1_fits 3 (some .boolean), Cond.methodLink RX1 26 yX1_isClass, Cond.instanceMethod yX1_isClass, Cond.selects RX1 yX1_isClass yX1_isClass, Cond.code yX1_isClass cX1_isClass 2 (some .boolean), Cond.methodLink RX1 22 yX1_has, Cond.instanceMethod yX1_has, Cond.selects RX1 yX1_has yX1_has, Cond.code yX1_has cX1_has 2 (some .boolean), Cond.methodLink RX1 29 yX1_isType, Cond.instanceMethod yX1_isType, Cond.selects RX1 yX1_isType yX1_isType, Cond.code yX1_isType cX1_isType 2 (some .boolean)]
def wsL_law_r17 : List Cond := [Cond.methodLink RX1 32 yX1_isMethod, Cond.instanceMethod yX1_isMethod, Cond.selects RX1 yX1_isMethod yX1_isMethod, Cond.code yX1_isMethod cX1_isMethod 2 (some .boolean), Cond.methodLink RX5 113 yX1_add, Cond.instanceMethod yX1_add, Cond.selects RX1 yX1_add yX1_add, Cond.code yX1_add cX1_add 3 (some .int), Cond.methodLink RL 36 yX6_place, Cond.instanceMethod yX6_place, Cond.selects RX6 yX6_place yX6_place, Cond.code yX6_place cX6_place 4 (some .int), Cond.fieldLink RX6 123 "MarkRulesModel" "places" "I", Cond.methodLink RX6 129 yX6_isAmong, Cond.instanceMethod yX6_isAmong, Cond.selects RX6 yX6_isAmong yX6_isAmong, Cond.code yX6_isAmong cX6_isAmong 4 (some .boolean), Cond.methodLink RX6 126 yX6_isPlace, Cond.instanceMethod yX6_isPlace, Cond.selects RX6 yX6_isPlace yX6_isPlace, Cond.code yX6_isPlace cX6_isPlace 2 (some .boolean), Cond.methodLink RX6 133 yX6_isType, Cond.instanceMethod yX6_isType, Cond.selects RX6 yX6_isType yX6_isType]
def wsL_law_r18 : List Cond := [Cond.code yX6_isType cX6_isType 2 (some .boolean), Cond.methodLink RL 37 yX5_value, Cond.instanceMethod yX5_value, Cond.selects RX5 yX5_value yX5_value, Cond.code yX5_value cX5_value 3 (some .int), Cond.methodLink RX5 115 yX5_isSimple, Cond.instanceMethod yX5_isSimple, Cond.selects RX5 yX5_isSimple yX5_isSimple, Cond.code yX5_isSimple cX5_isSimple 3 (some .boolean), Cond.methodLink RX5 229 yX1_isType, Cond.methodLink RX5 118 yX3_add, Cond.methodLink RL 40 yX6_value, Cond.instanceMethod yX6_value, Cond.selects RX6 yX6_value yX6_value, Cond.code yX6_value cX6_value 4 (some .int), Cond.methodLink RL 41 yX5_row, Cond.instanceMethod yX5_row, Cond.selects RX5 yX5_row yX5_row, Cond.code yX5_row cX5_row 2 (some .int), Cond.methodLink RL 45 yX6_row, Cond.instanceMethod yX6_row, Cond.selects RX6 yX6_row yX6_row, Cond.code yX6_row cX6_row 2 (some .int), Cond.methodLink RL 46 yX5_push]
def wsL_law_r19 : List Cond := [Cond.instanceMethod yX5_push, Cond.selects RX5 yX5_push yX5_push, Cond.code yX5_push cX5_push 3 (some .int), Cond.fieldLink RX5 127 "MarkRules$Values" "numbers" "[I", Cond.fieldLink RX5 134 "MarkRules$Values" "kinds" "[I", Cond.methodLink RX5 121 yX3_isSort, Cond.methodLink RX5 124 yX5_isDoneOrSame, Cond.instanceMethod yX5_isDoneOrSame, Cond.selects RX5 yX5_isDoneOrSame yX5_isDoneOrSame, Cond.code yX5_isDoneOrSame cX5_isDoneOrSame 3 (some .boolean), Cond.methodLink RX5 140 yX3_append, Cond.methodLink RL 49 yX6_push, Cond.instanceMethod yX6_push, Cond.selects RX6 yX6_push yX6_push, Cond.code yX6_push cX6_push 3 (some .int), Cond.methodLink RX6 146 yX6_isSort, Cond.instanceMethod yX6_isSort, Cond.selects RX6 yX6_isSort yX6_isSort, Cond.code yX6_isSort cX6_isSort 3 (some .boolean), Cond.methodLink RL 50 yX5_instance, Cond.instanceMethod yX5_instance, Cond.selects RX5 yX5_instance yX5_instance, Cond.code yX5_instance cX5_instance 3 (some .int), Cond.fieldLink RX5 143 "MarkRules$Marks" "everMade" "[Z"]
def wsL_law_r20 : List Cond := [Cond.methodLink RL 53 yX6_instance, Cond.instanceMethod yX6_instance, Cond.selects RX6 yX6_instance yX6_instance, Cond.code yX6_instance cX6_instance 2 (some .int), Cond.methodLink RL 54 yX5_give, Cond.instanceMethod yX5_give, Cond.selects RX5 yX5_give yX5_give, Cond.code yX5_give cX5_give 7 (some .int), Cond.methodLink RX5 146 yX3_markOf, Cond.methodLink RX5 149 yX0_positionOf, Cond.methodLink RX5 152 yX3_partAt, Cond.methodLink RX5 155 yX3_setElement, Cond.instanceMethod yX3_setElement, Cond.selects RX3 yX3_setElement yX3_setElement, Cond.code yX3_setElement cX3_setElement 4 none, Cond.methodLink RL 57 yX6_give, Cond.instanceMethod yX6_give, Cond.selects RX6 yX6_give yX6_give, Cond.code yX6_give cX6_give 7 (some .int), Cond.methodLink RL 58 yX5_put, Cond.instanceMethod yX5_put, Cond.selects RX5 yX5_put yX5_put, Cond.code yX5_put cX5_put 5 (some .int), Cond.methodLink RX5 159 yX1_has]
def wsL_law_r21 : List Cond := [Cond.methodLink RX5 160 yX5_brokenRule, Cond.instanceMethod yX5_brokenRule, Cond.selects RX5 yX5_brokenRule yX5_brokenRule, Cond.code yX5_brokenRule cX5_brokenRule 6 (some .int), Cond.fieldLink RX5 246 "MarkRules$Marks" "targets" "[I", Cond.methodLink RX5 249 yX1_fittingTargets, Cond.instanceMethod yX1_fittingTargets, Cond.selects RX1 yX1_fittingTargets yX1_fittingTargets, Cond.code yX1_fittingTargets cX1_fittingTargets 2 (some .int), Cond.methodLink RX5 163 yX2_howMany, Cond.instanceMethod yX2_howMany, Cond.selects RX2 yX2_howMany yX2_howMany, Cond.code yX2_howMany cX2_howMany 5 (some .int), Cond.methodLink RX5 166 yX2_add, Cond.instanceMethod yX2_add, Cond.selects RX2 yX2_add yX2_add, Cond.code yX2_add cX2_add 4 none, Cond.methodLink RL 61 yX6_put, Cond.instanceMethod yX6_put, Cond.selects RX6 yX6_put yX6_put, Cond.code yX6_put cX6_put 5 (some .int), Cond.methodLink RX6 207 yX6_standing, Cond.instanceMethod yX6_standing, Cond.selects RX6 yX6_standing yX6_standing]
def wsL_law_r22 : List Cond := [Cond.code yX6_standing cX6_standing 5 (some .int), Cond.methodLink RX6 210 yX6_mayStand, Cond.instanceMethod yX6_mayStand, Cond.selects RX6 yX6_mayStand yX6_mayStand, Cond.code yX6_mayStand cX6_mayStand 5 (some .boolean), Cond.methodLink RL 62 yX5_cause, Cond.instanceMethod yX5_cause, Cond.selects RX5 yX5_cause yX5_cause, Cond.code yX5_cause cX5_cause 1 (some .int), Cond.methodLink RL 66 yX6_cause, Cond.instanceMethod yX6_cause, Cond.selects RX6 yX6_cause yX6_cause, Cond.code yX6_cause cX6_cause 1 (some .int), Cond.methodLink RL 67 yX5_told, Cond.instanceMethod yX5_told, Cond.selects RX5 yX5_told yX5_told, Cond.code yX5_told cX5_told 3 (some .int), Cond.fieldLink RX5 169 "MarkRules$Values" "sorts" "[I", Cond.methodLink RX5 172 yX5_asNumber, Cond.static yX5_asNumber, Cond.code yX5_asNumber cX5_asNumber 1 (some .int), Cond.methodLink RL 70 yX6_told, Cond.instanceMethod yX6_told, Cond.selects RX6 yX6_told yX6_told]
def wsL_law_r23 : List Cond := [Cond.code yX6_told cX6_told 3 (some .int), Cond.methodLink RL 71 yX5_part, Cond.instanceMethod yX5_part, Cond.selects RX5 yX5_part yX5_part, Cond.code yX5_part cX5_part 3 (some .int), Cond.methodLink RX5 176 yX3_inRow, Cond.instanceMethod yX3_inRow, Cond.selects RX3 yX3_inRow yX3_inRow, Cond.code yX3_inRow cX3_inRow 3 (some .int), Cond.methodLink RX5 179 yX3_elementByName, Cond.instanceMethod yX3_elementByName, Cond.selects RX3 yX3_elementByName yX3_elementByName, Cond.code yX3_elementByName cX3_elementByName 4 (some .int), Cond.methodLink RX3 74 yX0_positionOf, Cond.methodLink RL 74 yX6_part, Cond.instanceMethod yX6_part, Cond.selects RX6 yX6_part yX6_part, Cond.code yX6_part cX6_part 4 (some .int), Cond.methodLink RL 75 yX5_equal, Cond.instanceMethod yX5_equal, Cond.selects RX5 yX5_equal yX5_equal, Cond.code yX5_equal cX5_equal 3 (some .int), Cond.methodLink RX5 182 yX3_areEqual, Cond.instanceMethod yX3_areEqual]
def wsL_law_r24 : List Cond := [Cond.selects RX3 yX3_areEqual yX3_areEqual, Cond.code yX3_areEqual cX3_areEqual 4 (some .boolean), Cond.methodLink RX3 95 yX3_haveEqualElements, Cond.instanceMethod yX3_haveEqualElements, Cond.selects RX3 yX3_haveEqualElements yX3_haveEqualElements, Cond.methodLink RX3 99 yX3_haveEqualParts, Cond.instanceMethod yX3_haveEqualParts, Cond.selects RX3 yX3_haveEqualParts yX3_haveEqualParts, Cond.code yX3_haveEqualElements cX3_haveEqualElements 5 (some .boolean), Cond.methodLink RX3 102 yX3_areEqual, Cond.code yX3_haveEqualParts cX3_haveEqualParts 5 (some .boolean), Cond.methodLink RL 78 yX6_equal, Cond.instanceMethod yX6_equal, Cond.selects RX6 yX6_equal yX6_equal, Cond.code yX6_equal cX6_equal 3 (some .int), Cond.methodLink RX6 184 yX6_areEqual, Cond.instanceMethod yX6_areEqual, Cond.selects RX6 yX6_areEqual yX6_areEqual, Cond.code yX6_areEqual cX6_areEqual 7 (some .boolean), Cond.methodLink RX6 181 yX6_isLike, Cond.instanceMethod yX6_isLike, Cond.selects RX6 yX6_isLike yX6_isLike, Cond.code yX6_isLike cX6_isLike 3 (some .boolean), Cond.methodLink RL 79 yX5_written]
def wsL_law_r25 : List Cond := [Cond.instanceMethod yX5_written, Cond.selects RX5 yX5_written yX5_written, Cond.code yX5_written cX5_written 2 (some .int), Cond.methodLink RX5 186 yX4_write, Cond.instanceMethod yX4_write, Cond.selects RX4 yX4_write yX4_write, Cond.code yX4_write cX4_write 2 (some .int), Cond.methodLink RX4 38 yX4_begin, Cond.instanceMethod yX4_begin, Cond.selects RX4 yX4_begin yX4_begin, Cond.code yX4_begin cX4_begin 2 none, Cond.methodLink RX4 42 yX4_writeValue, Cond.instanceMethod yX4_writeValue, Cond.selects RX4 yX4_writeValue yX4_writeValue, Cond.code yX4_writeValue cX4_writeValue 3 none, Cond.fieldLink RX4 52 "MarkRules$Values" "sorts" "[I", Cond.fieldLink RX4 61 "MarkRules$Values" "kinds" "[I", Cond.fieldLink RX4 64 "MarkRules$Values" "numbers" "[I", Cond.methodLink RX4 46 yX3_has, Cond.methodLink RX4 55 yX4_writeRow, Cond.instanceMethod yX4_writeRow, Cond.selects RX4 yX4_writeRow yX4_writeRow, Cond.methodLink RX4 58 yX4_writeInstance, Cond.instanceMethod yX4_writeInstance]
def wsL_law_r26 : List Cond := [Cond.selects RX4 yX4_writeInstance yX4_writeInstance, Cond.methodLink RX4 67 yX4_writeSimple, Cond.instanceMethod yX4_writeSimple, Cond.selects RX4 yX4_writeSimple yX4_writeSimple, Cond.code yX4_writeSimple cX4_writeSimple 3 none, Cond.methodLink RX4 70 yX4_writeByte, Cond.instanceMethod yX4_writeByte, Cond.selects RX4 yX4_writeByte yX4_writeByte, Cond.code yX4_writeByte cX4_writeByte 2 none, Cond.methodLink RX4 82 yX4_writeDigits, Cond.instanceMethod yX4_writeDigits, Cond.selects RX4 yX4_writeDigits yX4_writeDigits, Cond.code yX4_writeDigits cX4_writeDigits 6 none, Cond.methodLink RX4 96 Lib.MathLoose.abs_long.x, Cond.static Lib.MathLoose.abs_long.x, Cond.initialized "java/lang/Math", Cond.code Lib.MathLoose.abs_long.x Lib.MathLoose.abs_long.code 2 (some .long), Cond.constantLong RX4 102 (10), Cond.code yX4_writeInstance cX4_writeInstance 7 none, Cond.fieldLink RX4 85 "MarkRules$Marks" "sizes" "[I", Cond.fieldLink RX4 93 "MarkRules$Marks" "names" "[I", Cond.methodLink RX4 78 yX3_markOf, Cond.methodLink RX4 90 yX3_elementAt, Cond.code yX4_writeRow cX4_writeRow 4 none]
def wsL_law_r27 : List Cond := [Cond.methodLink RX4 74 yX3_partAt, Cond.methodLink RL 82 yX6_written, Cond.instanceMethod yX6_written, Cond.selects RX6 yX6_written yX6_written, Cond.code yX6_written cX6_written 6 (some .int), Cond.fieldLink RX6 187 "MarkRulesModel" "drafted" "I", Cond.fieldLink RX6 204 "MarkRulesModel" "letters" "I", Cond.methodLink RX6 198 yX6_begin, Cond.instanceMethod yX6_begin, Cond.selects RX6 yX6_begin yX6_begin, Cond.code yX6_begin cX6_begin 2 none, Cond.methodLink RX6 190 yX6_write, Cond.instanceMethod yX6_write, Cond.selects RX6 yX6_write yX6_write, Cond.code yX6_write cX6_write 2 none, Cond.methodLink RX6 195 yX6_writeNumber, Cond.instanceMethod yX6_writeNumber, Cond.selects RX6 yX6_writeNumber yX6_writeNumber, Cond.code yX6_writeNumber cX6_writeNumber 6 none, Cond.constantLong RX6 193 (10), Cond.methodLink RX6 201 yX6_isBehind, Cond.instanceMethod yX6_isBehind, Cond.selects RX6 yX6_isBehind yX6_isBehind, Cond.code yX6_isBehind cX6_isBehind 5 (some .boolean)]
def wsL_law_r28 : List Cond := [Cond.methodLink RL 83 yX5_letter, Cond.instanceMethod yX5_letter, Cond.selects RX5 yX5_letter yX5_letter, Cond.code yX5_letter cX5_letter 2 (some .int), Cond.fieldLink RX5 189 "MarkRules$Writer" "length" "I", Cond.fieldLink RX5 192 "MarkRules$Writer" "bytes" "[B", Cond.methodLink RL 86 yX6_letter, Cond.instanceMethod yX6_letter, Cond.selects RX6 yX6_letter yX6_letter, Cond.code yX6_letter cX6_letter 2 (some .int), Cond.methodLink RL 87 yX5_ask, Cond.instanceMethod yX5_ask, Cond.selects RX5 yX5_ask yX5_ask, Cond.code yX5_ask cX5_ask 4 (some .int), Cond.methodLink RX5 196 yX5_foundAt, Cond.instanceMethod yX5_foundAt, Cond.selects RX5 yX5_foundAt yX5_foundAt, Cond.code yX5_foundAt cX5_foundAt 6 (some .int), Cond.methodLink RX5 199 yX5_ownAt, Cond.instanceMethod yX5_ownAt, Cond.selects RX5 yX5_ownAt yX5_ownAt, Cond.code yX5_ownAt cX5_ownAt 4 (some .int), Cond.fieldLink RX5 252 "MarkRules$Marks" "keeps" "[I", Cond.methodLink RX5 255 yX5_gatheredAt]
def wsL_law_r29 : List Cond := [Cond.instanceMethod yX5_gatheredAt, Cond.selects RX5 yX5_gatheredAt yX5_gatheredAt, Cond.code yX5_gatheredAt cX5_gatheredAt 4 (some .int), Cond.methodLink RX5 208 yX2_nth, Cond.instanceMethod yX2_nth, Cond.selects RX2 yX2_nth yX2_nth, Cond.code yX2_nth cX2_nth 6 (some .int), Cond.methodLink RX5 258 yX5_inheritsFrom, Cond.instanceMethod yX5_inheritsFrom, Cond.selects RX5 yX5_inheritsFrom yX5_inheritsFrom, Cond.code yX5_inheritsFrom cX5_inheritsFrom 3 (some .int), Cond.fieldLink RX5 261 "MarkRules$Marks" "inherited" "[Z", Cond.methodLink RX5 264 yX1_parentOf, Cond.instanceMethod yX1_parentOf, Cond.selects RX1 yX1_parentOf yX1_parentOf, Cond.code yX1_parentOf cX1_parentOf 2 (some .int), Cond.methodLink RL 90 yX6_ask, Cond.instanceMethod yX6_ask, Cond.selects RX6 yX6_ask yX6_ask, Cond.code yX6_ask cX6_ask 6 (some .int), Cond.methodLink RX6 216 yX6_own, Cond.instanceMethod yX6_own, Cond.selects RX6 yX6_own yX6_own, Cond.code yX6_own cX6_own 6 (some .int)]
def wsL_law_r30 : List Cond := [Cond.methodLink RX6 213 yX6_stander, Cond.instanceMethod yX6_stander, Cond.selects RX6 yX6_stander yX6_stander, Cond.code yX6_stander cX6_stander 6 (some .int), Cond.methodLink RX6 219 yX6_goesUp, Cond.instanceMethod yX6_goesUp, Cond.selects RX6 yX6_goesUp yX6_goesUp, Cond.code yX6_goesUp cX6_goesUp 3 (some .boolean), Cond.methodLink RL 91 yX5_all, Cond.instanceMethod yX5_all, Cond.selects RX5 yX5_all yX5_all, Cond.code yX5_all cX5_all 4 (some .int), Cond.methodLink RX5 202 yX5_sourceOfAll, Cond.instanceMethod yX5_sourceOfAll, Cond.selects RX5 yX5_sourceOfAll yX5_sourceOfAll, Cond.code yX5_sourceOfAll cX5_sourceOfAll 5 (some .int), Cond.methodLink RX5 205 yX5_howManyHere, Cond.instanceMethod yX5_howManyHere, Cond.selects RX5 yX5_howManyHere yX5_howManyHere, Cond.code yX5_howManyHere cX5_howManyHere 5 (some .int), Cond.methodLink RX5 211 yX5_containerRowAt, Cond.instanceMethod yX5_containerRowAt, Cond.selects RX5 yX5_containerRowAt yX5_containerRowAt, Cond.code yX5_containerRowAt cX5_containerRowAt 5 (some .int)]
def wsL_law_r31 : List Cond := [Cond.methodLink RL 94 yX6_all, Cond.instanceMethod yX6_all, Cond.selects RX6 yX6_all yX6_all, Cond.code yX6_all cX6_all 3 (some .int), Cond.methodLink RX6 228 yX6_whereAll, Cond.instanceMethod yX6_whereAll, Cond.selects RX6 yX6_whereAll yX6_whereAll, Cond.code yX6_whereAll cX6_whereAll 4 (some .int), Cond.methodLink RX6 225 yX6_allAt, Cond.instanceMethod yX6_allAt, Cond.selects RX6 yX6_allAt yX6_allAt, Cond.code yX6_allAt cX6_allAt 5 (some .int), Cond.methodLink RX6 222 yX6_rowAt, Cond.instanceMethod yX6_rowAt, Cond.selects RX6 yX6_rowAt yX6_rowAt, Cond.code yX6_rowAt cX6_rowAt 5 (some .int), Cond.methodLink RL 95 yX5_of, Cond.instanceMethod yX5_of, Cond.selects RX5 yX5_of yX5_of, Cond.code yX5_of cX5_of 5 (some .int), Cond.methodLink RL 98 yX6_of, Cond.instanceMethod yX6_of, Cond.selects RX6 yX6_of yX6_of, Cond.code yX6_of cX6_of 5 (some .int)]
def wsL_law_r32 : List Cond := [Cond.methodLink RL 99 yX5_stands, Cond.instanceMethod yX5_stands, Cond.selects RX5 yX5_stands yX5_stands, Cond.code yX5_stands cX5_stands 2 (some .int), Cond.methodLink RX5 214 yX2_howManyAt, Cond.instanceMethod yX2_howManyAt, Cond.selects RX2 yX2_howManyAt yX2_howManyAt, Cond.code yX2_howManyAt cX2_howManyAt 4 (some .int), Cond.methodLink RL 102 yX6_stands, Cond.instanceMethod yX6_stands, Cond.selects RX6 yX6_stands yX6_stands, Cond.code yX6_stands cX6_stands 4 (some .int), Cond.methodLink RL 103 yX5_count, Cond.instanceMethod yX5_count, Cond.selects RX5 yX5_count yX5_count, Cond.code yX5_count cX5_count 2 (some .int), Cond.fieldLink RX5 217 "MarkRules$Marks" "size" "I", Cond.fieldLink RX5 220 "MarkRules$Places" "size" "I", Cond.fieldLink RX5 221 "MarkRules$Values" "size" "I", Cond.fieldLink RX5 222 "MarkRules$Standing" "size" "I", Cond.methodLink RX5 223 yX5_countOfMark, Cond.instanceMethod yX5_countOfMark, Cond.selects RX5 yX5_countOfMark yX5_countOfMark, Cond.code yX5_countOfMark cX5_countOfMark 2 (some .int)]
def wsL_law_r33 : List Cond := [Cond.fieldLink RX5 226 "MarkRules$Marks" "sizes" "[I", Cond.methodLink RL 106 yX6_count, Cond.instanceMethod yX6_count, Cond.selects RX6 yX6_count yX6_count, Cond.code yX6_count cX6_count 2 (some .int)]
def wsL_law : List Cond := (wsL_law_r1 ++ (wsL_law_r2 ++ (wsL_law_r3 ++ (wsL_law_r4 ++ (wsL_law_r5 ++ (wsL_law_r6 ++ (wsL_law_r7 ++ (wsL_law_r8 ++ (wsL_law_r9 ++ (wsL_law_r10 ++ (wsL_law_r11 ++ (wsL_law_r12 ++ (wsL_law_r13 ++ (wsL_law_r14 ++ (wsL_law_r15 ++ (wsL_law_r16 ++ (wsL_law_r17 ++ (wsL_law_r18 ++ (wsL_law_r19 ++ (wsL_law_r20 ++ (wsL_law_r21 ++ (wsL_law_r22 ++ (wsL_law_r23 ++ (wsL_law_r24 ++ (wsL_law_r25 ++ (wsL_law_r26 ++ (wsL_law_r27 ++ (wsL_law_r28 ++ (wsL_law_r29 ++ (wsL_law_r30 ++ (wsL_law_r31 ++ (wsL_law_r32 ++ wsL_law_r33)))))))))))))))))))))))))))))))) ++ wsX50 ++ wsX60 ++ wsX00 ++ wsX30 ++ wsX10 ++ wsX20 ++ wsX40 ++ ([] : List Cond)
set_option maxRecDepth 20000 in
theorem zg_r1 : GoodIn lw_tbl wsL_law_r1 := goodIn_r _ [74, 75, 65, 662, 663, 72, 76, 77, 78, 79, 80, 81, 82, 83, 66, 152, 153, 68, 257, 259, 189, 190, 69, 258] (by decide +kernel) (by decide +kernel)
set_option maxRecDepth 20000 in
theorem zg_r2 : GoodIn lw_tbl wsL_law_r2 := goodIn_r _ [206, 207, 70, 260, 226, 227, 71, 261, 150, 262, 263, 84, 85, 86, 87, 91, 93, 95, 151, 97, 99, 103, 104, 106] (by decide +kernel) (by decide +kernel)
set_option maxRecDepth 20000 in
theorem zg_r3 : GoodIn lw_tbl wsL_law_r3 := goodIn_r _ [108, 110, 112, 114, 116, 118, 88, 89, 67, 90, 154, 155, 156, 157, 160, 162, 165, 168, 171, 173, 159, 158, 192, 193] (by decide +kernel) (by decide +kernel)
set_option maxRecDepth 20000 in
theorem zg_r4 : GoodIn lw_tbl wsL_law_r4 := goodIn_r _ [194, 195, 197, 198, 209, 210, 211, 212, 214, 215, 216, 228, 229, 230, 231, 256, 234, 236, 238, 239, 240, 232, 233, 664] (by decide +kernel) (by decide +kernel)
set_option maxRecDepth 20000 in
theorem zg_r5 : GoodIn lw_tbl wsL_law_r5 := goodIn_r _ [665, 666, 667, 669, 670, 671, 672, 673, 674, 675, 676, 677, 678, 679, 681, 682, 684, 685, 686, 687, 688, 690, 692, 693] (by decide +kernel) (by decide +kernel)
set_option maxRecDepth 20000 in
theorem zg_r6 : GoodIn lw_tbl wsL_law_r6 := goodIn_r _ [694, 696, 698, 699, 701, 702, 279, 280, 281, 282, 283, 284, 285, 286, 774, 775, 776, 777, 668, 287, 288, 289, 290, 291] (by decide +kernel) (by decide +kernel)
set_option maxRecDepth 20000 in
theorem zg_r7 : GoodIn lw_tbl wsL_law_r7 := goodIn_r _ [292, 293, 294, 295, 296, 297, 298, 299, 300, 301, 302, 303, 304, 305, 306, 307, 308, 309, 310, 311, 312, 313, 314, 315] (by decide +kernel) (by decide +kernel)
set_option maxRecDepth 20000 in
theorem zg_r8 : GoodIn lw_tbl wsL_law_r8 := goodIn_r _ [316, 317, 318, 319, 321, 0, 322, 323, 324, 325, 326, 778, 779, 780, 781, 782, 784, 29, 785, 786, 788, 30, 789, 790] (by decide +kernel) (by decide +kernel)
set_option maxRecDepth 20000 in
theorem zg_r9 : GoodIn lw_tbl wsL_law_r9 := goodIn_r _ [792, 31, 793, 794, 796, 32, 797, 683, 798, 800, 33, 801, 327, 328, 329, 330, 172, 119, 331, 333, 1, 334, 335, 336] (by decide +kernel) (by decide +kernel)
set_option maxRecDepth 20000 in
theorem zg_r10 : GoodIn lw_tbl wsL_law_r10 := goodIn_r _ [337, 338, 339, 340, 341, 342, 343, 344, 346, 2, 353, 355, 3, 347, 348, 349, 350, 351, 352, 356, 357, 358, 359, 360] (by decide +kernel) (by decide +kernel)
set_option maxRecDepth 20000 in
theorem zg_r11 : GoodIn lw_tbl wsL_law_r11 := goodIn_r _ [101, 361, 362, 363, 364, 365, 366, 367, 368, 120, 369, 371, 4, 372, 115, 117, 373, 375, 5, 376, 377, 378, 379, 380] (by decide +kernel) (by decide +kernel)
set_option maxRecDepth 20000 in
theorem zg_r12 : GoodIn lw_tbl wsL_law_r12 := goodIn_r _ [381, 382, 383, 384, 385, 386, 387, 388, 389, 390, 391, 392, 393, 394, 395, 396, 397, 398, 399, 400, 401, 402, 403, 404] (by decide +kernel) (by decide +kernel)
set_option maxRecDepth 20000 in
theorem zg_r13 : GoodIn lw_tbl wsL_law_r13 := goodIn_r _ [405, 870, 871, 872, 873, 850, 852, 40, 853, 874, 876, 45, 877, 691, 878, 880, 46, 881, 882, 884, 47, 885, 886, 888] (by decide +kernel) (by decide +kernel)
set_option maxRecDepth 20000 in
theorem zg_r14 : GoodIn lw_tbl wsL_law_r14 := goodIn_r _ [48, 889, 890, 892, 49, 893, 858, 860, 42, 861, 854, 856, 41, 857, 689, 830, 832, 38, 833, 862, 864, 43, 865, 866] (by decide +kernel) (by decide +kernel)
set_option maxRecDepth 20000 in
theorem zg_r15 : GoodIn lw_tbl wsL_law_r15 := goodIn_r _ [868, 44, 869, 406, 407, 408, 409, 105, 111, 107, 410, 411, 412, 413, 414, 415, 417, 6, 418, 802, 803, 804, 805, 700] (by decide +kernel) (by decide +kernel)
set_option maxRecDepth 20000 in
theorem zg_r16 : GoodIn lw_tbl wsL_law_r16 := goodIn_r _ [806, 808, 34, 809, 419, 420, 421, 422, 423, 424, 425, 426, 427, 429, 7, 430, 431, 432, 433, 434, 435, 436, 437, 438] (by decide +kernel) (by decide +kernel)
set_option maxRecDepth 20000 in
theorem zg_r17 : GoodIn lw_tbl wsL_law_r17 := goodIn_r _ [439, 441, 8, 442, 443, 444, 445, 446, 810, 811, 812, 813, 680, 814, 816, 35, 817, 818, 820, 36, 821, 822, 824, 37] (by decide +kernel) (by decide +kernel)
set_option maxRecDepth 20000 in
theorem zg_r18 : GoodIn lw_tbl wsL_law_r18 := goodIn_r _ [825, 447, 448, 449, 450, 451, 453, 9, 454, 455, 456, 826, 827, 828, 829, 457, 458, 459, 460, 834, 835, 836, 837, 461] (by decide +kernel) (by decide +kernel)
set_option maxRecDepth 20000 in
theorem zg_r19 : GoodIn lw_tbl wsL_law_r19 := goodIn_r _ [462, 463, 464, 170, 167, 465, 466, 468, 10, 469, 470, 842, 843, 844, 845, 846, 848, 39, 849, 471, 472, 473, 474, 109] (by decide +kernel) (by decide +kernel)
set_option maxRecDepth 20000 in
theorem zg_r20 : GoodIn lw_tbl wsL_law_r20 := goodIn_r _ [838, 839, 840, 841, 475, 476, 477, 478, 479, 480, 481, 482, 483, 484, 485, 894, 895, 896, 897, 486, 487, 488, 489, 490] (by decide +kernel) (by decide +kernel)
set_option maxRecDepth 20000 in
theorem zg_r21 : GoodIn lw_tbl wsL_law_r21 := goodIn_r _ [491, 493, 11, 494, 94, 495, 496, 497, 498, 501, 502, 503, 504, 505, 506, 507, 508, 943, 944, 945, 946, 947, 949, 56] (by decide +kernel) (by decide +kernel)
set_option maxRecDepth 20000 in
theorem zg_r22 : GoodIn lw_tbl wsL_law_r22 := goodIn_r _ [950, 951, 953, 57, 954, 509, 510, 511, 512, 995, 996, 997, 998, 513, 514, 515, 516, 164, 517, 518, 519, 910, 911, 912] (by decide +kernel) (by decide +kernel)
set_option maxRecDepth 20000 in
theorem zg_r23 : GoodIn lw_tbl wsL_law_r23 := goodIn_r _ [913, 520, 521, 522, 523, 524, 525, 526, 527, 528, 529, 530, 531, 532, 914, 915, 916, 917, 533, 534, 535, 536, 537, 538] (by decide +kernel) (by decide +kernel)
set_option maxRecDepth 20000 in
theorem zg_r24 : GoodIn lw_tbl wsL_law_r24 := goodIn_r _ [539, 540, 541, 543, 12, 546, 548, 13, 544, 545, 549, 898, 899, 900, 901, 902, 904, 50, 905, 906, 908, 51, 909, 550] (by decide +kernel) (by decide +kernel)
set_option maxRecDepth 20000 in
theorem zg_r25 : GoodIn lw_tbl wsL_law_r25 := goodIn_r _ [551, 552, 553, 554, 555, 556, 557, 558, 560, 14, 561, 562, 564, 15, 565, 163, 166, 169, 566, 567, 569, 16, 576, 578] (by decide +kernel) (by decide +kernel)
set_option maxRecDepth 20000 in
theorem zg_r26 : GoodIn lw_tbl wsL_law_r26 := goodIn_r _ [18, 590, 592, 20, 593, 571, 573, 17, 574, 581, 583, 19, 584, 585, 586, 73, 587, 588, 579, 100, 113, 580, 589, 570] (by decide +kernel) (by decide +kernel)
set_option maxRecDepth 20000 in
theorem zg_r27 : GoodIn lw_tbl wsL_law_r27 := goodIn_r _ [575, 918, 919, 920, 921, 697, 695, 922, 924, 52, 925, 926, 928, 53, 929, 930, 932, 54, 933, 934, 935, 937, 55, 938] (by decide +kernel) (by decide +kernel)
set_option maxRecDepth 20000 in
theorem zg_r28 : GoodIn lw_tbl wsL_law_r28 := goodIn_r _ [594, 595, 596, 597, 237, 235, 939, 940, 941, 942, 598, 599, 600, 601, 602, 604, 21, 605, 606, 608, 22, 609, 96, 610] (by decide +kernel) (by decide +kernel)
set_option maxRecDepth 20000 in
theorem zg_r29 : GoodIn lw_tbl wsL_law_r29 := goodIn_r _ [612, 23, 613, 614, 615, 616, 617, 618, 620, 24, 621, 98, 622, 623, 624, 625, 955, 956, 957, 958, 959, 961, 58, 962] (by decide +kernel) (by decide +kernel)
set_option maxRecDepth 20000 in
theorem zg_r30 : GoodIn lw_tbl wsL_law_r30 := goodIn_r _ [963, 965, 59, 966, 967, 969, 60, 970, 626, 627, 628, 629, 630, 632, 25, 633, 634, 636, 26, 637, 638, 640, 27, 641] (by decide +kernel) (by decide +kernel)
set_option maxRecDepth 20000 in
theorem zg_r31 : GoodIn lw_tbl wsL_law_r31 := goodIn_r _ [971, 972, 973, 974, 975, 977, 61, 978, 979, 981, 62, 982, 983, 985, 63, 986, 642, 643, 644, 645, 987, 988, 989, 990] (by decide +kernel) (by decide +kernel)
set_option maxRecDepth 20000 in
theorem zg_r32 : GoodIn lw_tbl wsL_law_r32 := goodIn_r _ [646, 647, 648, 649, 650, 651, 652, 653, 991, 992, 993, 994, 654, 655, 656, 657, 92, 196, 161, 213, 658, 660, 28, 661] (by decide +kernel) (by decide +kernel)
set_option maxRecDepth 20000 in
theorem zg_r33 : GoodIn lw_tbl wsL_law_r33 := goodIn_r _ [102, 999, 1000, 1001, 1002] (by decide +kernel) (by decide +kernel)
set_option maxRecDepth 20000 in
theorem zg_X0 : GoodIn lw_tbl wsX00 := goodIn_r _ [121, 123, 125, 127, 129, 131, 133, 135, 137, 139, 141, 143, 145, 147] (by decide +kernel) (by decide +kernel)
set_option maxRecDepth 20000 in
theorem zg_X1 : GoodIn lw_tbl wsX10 := goodIn_r _ [199, 201, 203] (by decide +kernel) (by decide +kernel)
set_option maxRecDepth 20000 in
theorem zg_X2 : GoodIn lw_tbl wsX20 := goodIn_r _ [217, 219, 221, 223] (by decide +kernel) (by decide +kernel)
set_option maxRecDepth 20000 in
theorem zg_X3 : GoodIn lw_tbl wsX30 := goodIn_r _ [174, 176, 178, 180, 182, 184, 186] (by decide +kernel) (by decide +kernel)
set_option maxRecDepth 20000 in
theorem zg_X4 : GoodIn lw_tbl wsX40 := goodIn_r _ [241, 243, 245, 247, 249, 251, 253] (by decide +kernel) (by decide +kernel)
set_option maxRecDepth 20000 in
theorem zg_X5 : GoodIn lw_tbl wsX50 := goodIn_r _ [264, 266, 268, 270, 272, 274, 276] (by decide +kernel) (by decide +kernel)
set_option maxRecDepth 20000 in
theorem zg_X6 : GoodIn lw_tbl wsX60 := goodIn_r _ [703, 705, 707, 709, 711, 713, 715, 717, 719, 721, 723, 725, 727, 729, 731, 733, 735, 737, 739, 741, 743, 745, 747, 749, 751, 753, 755, 757, 759, 761, 763, 765, 767, 769, 771] (by decide +kernel) (by decide +kernel)
theorem zT_good : GoodIn lw_tbl wsL_law := goodIn_app (goodIn_app (goodIn_app (goodIn_app (goodIn_app (goodIn_app (goodIn_app (goodIn_app (goodIn_app zg_r1 (goodIn_app zg_r2 (goodIn_app zg_r3 (goodIn_app zg_r4 (goodIn_app zg_r5 (goodIn_app zg_r6 (goodIn_app zg_r7 (goodIn_app zg_r8 (goodIn_app zg_r9 (goodIn_app zg_r10 (goodIn_app zg_r11 (goodIn_app zg_r12 (goodIn_app zg_r13 (goodIn_app zg_r14 (goodIn_app zg_r15 (goodIn_app zg_r16 (goodIn_app zg_r17 (goodIn_app zg_r18 (goodIn_app zg_r19 (goodIn_app zg_r20 (goodIn_app zg_r21 (goodIn_app zg_r22 (goodIn_app zg_r23 (goodIn_app zg_r24 (goodIn_app zg_r25 (goodIn_app zg_r26 (goodIn_app zg_r27 (goodIn_app zg_r28 (goodIn_app zg_r29 (goodIn_app zg_r30 (goodIn_app zg_r31 (goodIn_app zg_r32 zg_r33)))))))))))))))))))))))))))))))) zg_X5) zg_X6) zg_X0) zg_X3) zg_X1) zg_X2) zg_X4) (fun w h => absurd h List.not_mem_nil)
theorem wsL_law_in : ∀ w ∈ wsL_law, w ∈ lw_tbl := fun w h => (zT_good w h).1
theorem inlX0 : ∀ w ∈ wsX00, w ∈ wsL_law := fun _ h => List.mem_append_left _ (List.mem_append_left _ (List.mem_append_left _ (List.mem_append_left _ (List.mem_append_left _ (List.mem_append_right _ h)))))
theorem inX0 : ∀ w ∈ wsX00, w ∈ lw_tbl := fun w h => wsL_law_in w (inlX0 w h)
theorem inlX1 : ∀ w ∈ wsX10, w ∈ wsL_law := fun _ h => List.mem_append_left _ (List.mem_append_left _ (List.mem_append_left _ (List.mem_append_right _ h)))
theorem inX1 : ∀ w ∈ wsX10, w ∈ lw_tbl := fun w h => wsL_law_in w (inlX1 w h)
theorem inlX2 : ∀ w ∈ wsX20, w ∈ wsL_law := fun _ h => List.mem_append_left _ (List.mem_append_left _ (List.mem_append_right _ h))
theorem inX2 : ∀ w ∈ wsX20, w ∈ lw_tbl := fun w h => wsL_law_in w (inlX2 w h)
theorem inlX3 : ∀ w ∈ wsX30, w ∈ wsL_law := fun _ h => List.mem_append_left _ (List.mem_append_left _ (List.mem_append_left _ (List.mem_append_left _ (List.mem_append_right _ h))))
theorem inX3 : ∀ w ∈ wsX30, w ∈ lw_tbl := fun w h => wsL_law_in w (inlX3 w h)
theorem inlX4 : ∀ w ∈ wsX40, w ∈ wsL_law := fun _ h => List.mem_append_left _ (List.mem_append_right _ h)
theorem inX4 : ∀ w ∈ wsX40, w ∈ lw_tbl := fun w h => wsL_law_in w (inlX4 w h)
theorem inlX5 : ∀ w ∈ wsX50, w ∈ wsL_law := fun _ h => List.mem_append_left _ (List.mem_append_left _ (List.mem_append_left _ (List.mem_append_left _ (List.mem_append_left _ (List.mem_append_left _ (List.mem_append_left _ (List.mem_append_right _ h)))))))
theorem inX5 : ∀ w ∈ wsX50, w ∈ lw_tbl := fun w h => wsL_law_in w (inlX5 w h)
theorem inlX6 : ∀ w ∈ wsX60, w ∈ wsL_law := fun _ h => List.mem_append_left _ (List.mem_append_left _ (List.mem_append_left _ (List.mem_append_left _ (List.mem_append_left _ (List.mem_append_left _ (List.mem_append_right _ h))))))
theorem inX6 : ∀ w ∈ wsX60, w ∈ lw_tbl := fun w h => wsL_law_in w (inlX6 w h)
abbrev vwCl : List vw_C := [(RX0, TX0, 14), (RX1, TX1, 3), (RX2, TX2, 4), (RX3, TX3, 7), (RX4, TX4, 7), (RX5, TX5, 7), (RX6, TX6, 35)]
