def wAll : List Cond := lw_tbl.filter goodWord
theorem wa {w : Cond} (h : w ∈ lw_tbl) (hg : goodWord w = true) : w ∈ wAll := List.mem_filter.mpr ⟨h, hg⟩
def RC0 : String := "MemberChoice"
def TC0 : u_T := fun k => match k with
  | 0 => ("MemberChoice", "types", "LMemberChoice$Types;", true)
  | 1 => ("MemberChoice", "members", "LMemberChoice$Members;", true)
  | 2 => ("MemberChoice", "arguments", "LMemberChoice$Arguments;", true)
  | 3 => ("MemberChoice", "latest", "LMemberChoice$Choice;", true)
  | _ => ("MemberChoice", "seenRow", "[I", true)
def tyC0 : Nat → FieldType := fun k => match k with
  | 0 => .object "MemberChoice$Types"
  | 1 => .object "MemberChoice$Members"
  | 2 => .object "MemberChoice$Arguments"
  | 3 => .object "MemberChoice$Choice"
  | _ => .array .int
theorem tyC0_ok : ∀ k, k < 5 → parseFieldDescriptor (TC0 k).2.2.1 = some (tyC0 k) := by decide +kernel
theorem nnC0 : ∀ a, a < 5 → ∀ b, b < 5 → a ≠ b → (TC0 a).2.1 ≠ (TC0 b).2.1 := by decide +kernel
theorem inC0_0 : ∀ w ∈ u_ws RC0 TC0 5, w ∈ lw_tbl := by decide +kernel
theorem inC0_1 : (u_ws RC0 TC0 5).all goodWord = true := by decide +kernel
theorem inC0 : ∀ w ∈ u_ws RC0 TC0 5, w ∈ wAll := fun w h => wa (inC0_0 w h) (List.all_eq_true.mp inC0_1 w h)
def RC1 : String := "MemberChoice$Types"
def TC1 : u_T := fun k => match k with
  | 0 => ("MemberChoice$Types", "above", "[J", true)
  | 1 => ("MemberChoice$Types", "toldFaces", "[I", true)
  | 2 => ("MemberChoice$Types", "interfaces", "[Z", true)
  | _ => ("MemberChoice$Types", "told", "I", false)
def tyC1 : Nat → FieldType := fun k => match k with
  | 0 => .array .long
  | 1 => .array .int
  | 2 => .array .boolean
  | _ => .int
theorem tyC1_ok : ∀ k, k < 4 → parseFieldDescriptor (TC1 k).2.2.1 = some (tyC1 k) := by decide +kernel
theorem nnC1 : ∀ a, a < 4 → ∀ b, b < 4 → a ≠ b → (TC1 a).2.1 ≠ (TC1 b).2.1 := by decide +kernel
theorem inC1_0 : ∀ w ∈ u_ws RC1 TC1 4, w ∈ lw_tbl := by decide +kernel
theorem inC1_1 : (u_ws RC1 TC1 4).all goodWord = true := by decide +kernel
theorem inC1 : ∀ w ∈ u_ws RC1 TC1 4, w ∈ wAll := fun w h => wa (inC1_0 w h) (List.all_eq_true.mp inC1_1 w h)
def RC2 : String := "MemberChoice$Members"
def TC2 : u_T := fun k => match k with
  | 0 => ("MemberChoice$Members", "types", "LMemberChoice$Types;", true)
  | 1 => ("MemberChoice$Members", "owners", "[I", true)
  | 2 => ("MemberChoice$Members", "names", "[I", true)
  | 3 => ("MemberChoice$Members", "marks", "[I", true)
  | 4 => ("MemberChoice$Members", "results", "[I", true)
  | 5 => ("MemberChoice$Members", "widths", "[I", true)
  | 6 => ("MemberChoice$Members", "parameters", "[I", true)
  | 7 => ("MemberChoice$Members", "functions", "[I", true)
  | 8 => ("MemberChoice$Members", "functionsSettled", "Z", false)
  | _ => ("MemberChoice$Members", "size", "I", false)
def tyC2 : Nat → FieldType := fun k => match k with
  | 0 => .object "MemberChoice$Types"
  | 1 => .array .int
  | 2 => .array .int
  | 3 => .array .int
  | 4 => .array .int
  | 5 => .array .int
  | 6 => .array .int
  | 7 => .array .int
  | 8 => .boolean
  | _ => .int
theorem tyC2_ok : ∀ k, k < 10 → parseFieldDescriptor (TC2 k).2.2.1 = some (tyC2 k) := by decide +kernel
theorem nnC2 : ∀ a, a < 10 → ∀ b, b < 10 → a ≠ b → (TC2 a).2.1 ≠ (TC2 b).2.1 := by decide +kernel
theorem inC2_0 : ∀ w ∈ u_ws RC2 TC2 10, w ∈ lw_tbl := by decide +kernel
theorem inC2_1 : (u_ws RC2 TC2 10).all goodWord = true := by decide +kernel
theorem inC2 : ∀ w ∈ u_ws RC2 TC2 10, w ∈ wAll := fun w h => wa (inC2_0 w h) (List.all_eq_true.mp inC2_1 w h)
def RC3 : String := "MemberChoice$Arguments"
def TC3 : u_T := fun k => match k with
  | 0 => ("MemberChoice$Arguments", "lambdas", "[Z", true)
  | 1 => ("MemberChoice$Arguments", "toldOnes", "[Z", true)
  | 2 => ("MemberChoice$Arguments", "values", "[I", true)
  | 3 => ("MemberChoice$Arguments", "widths", "[I", true)
  | 4 => ("MemberChoice$Arguments", "parameters", "[I", true)
  | _ => ("MemberChoice$Arguments", "size", "I", false)
def tyC3 : Nat → FieldType := fun k => match k with
  | 0 => .array .boolean
  | 1 => .array .boolean
  | 2 => .array .int
  | 3 => .array .int
  | 4 => .array .int
  | _ => .int
theorem tyC3_ok : ∀ k, k < 6 → parseFieldDescriptor (TC3 k).2.2.1 = some (tyC3 k) := by decide +kernel
theorem nnC3 : ∀ a, a < 6 → ∀ b, b < 6 → a ≠ b → (TC3 a).2.1 ≠ (TC3 b).2.1 := by decide +kernel
theorem inC3_0 : ∀ w ∈ u_ws RC3 TC3 6, w ∈ lw_tbl := by decide +kernel
theorem inC3_1 : (u_ws RC3 TC3 6).all goodWord = true := by decide +kernel
theorem inC3 : ∀ w ∈ u_ws RC3 TC3 6, w ∈ wAll := fun w h => wa (inC3_0 w h) (List.all_eq_true.mp inC3_1 w h)
def RC4 : String := "MemberChoice$Choice"
def TC4 : u_T := fun k => match k with
  | 0 => ("MemberChoice$Choice", "types", "LMemberChoice$Types;", true)
  | 1 => ("MemberChoice$Choice", "members", "LMemberChoice$Members;", true)
  | 2 => ("MemberChoice$Choice", "arguments", "LMemberChoice$Arguments;", true)
  | 3 => ("MemberChoice$Choice", "candidates", "[I", true)
  | 4 => ("MemberChoice$Choice", "applying", "[I", true)
  | 5 => ("MemberChoice$Choice", "asSpecial", "[J", true)
  | 6 => ("MemberChoice$Choice", "candidateCount", "I", false)
  | 7 => ("MemberChoice$Choice", "applyingCount", "I", false)
  | 8 => ("MemberChoice$Choice", "applyingBits", "J", false)
  | _ => ("MemberChoice$Choice", "reached", "I", false)
def tyC4 : Nat → FieldType := fun k => match k with
  | 0 => .object "MemberChoice$Types"
  | 1 => .object "MemberChoice$Members"
  | 2 => .object "MemberChoice$Arguments"
  | 3 => .array .int
  | 4 => .array .int
  | 5 => .array .long
  | 6 => .int
  | 7 => .int
  | 8 => .long
  | _ => .int
theorem tyC4_ok : ∀ k, k < 10 → parseFieldDescriptor (TC4 k).2.2.1 = some (tyC4 k) := by decide +kernel
theorem nnC4 : ∀ a, a < 10 → ∀ b, b < 10 → a ≠ b → (TC4 a).2.1 ≠ (TC4 b).2.1 := by decide +kernel
theorem inC4_0 : ∀ w ∈ u_ws RC4 TC4 10, w ∈ lw_tbl := by decide +kernel
theorem inC4_1 : (u_ws RC4 TC4 10).all goodWord = true := by decide +kernel
theorem inC4 : ∀ w ∈ u_ws RC4 TC4 10, w ∈ wAll := fun w h => wa (inC4_0 w h) (List.all_eq_true.mp inC4_1 w h)
def RCM : String := "MemberChoiceModel"
def TCM : u_T := fun k => match k with
  | 0 => ("MemberChoiceModel", "types", "I", false)
  | 1 => ("MemberChoiceModel", "isFace", "[Z", true)
  | 2 => ("MemberChoiceModel", "parents", "[I", true)
  | 3 => ("MemberChoiceModel", "aboveCounts", "[I", true)
  | 4 => ("MemberChoiceModel", "above", "[I", true)
  | 5 => ("MemberChoiceModel", "isOne", "[Z", true)
  | 6 => ("MemberChoiceModel", "members", "I", false)
  | 7 => ("MemberChoiceModel", "owners", "[I", true)
  | 8 => ("MemberChoiceModel", "names", "[I", true)
  | 9 => ("MemberChoiceModel", "marks", "[I", true)
  | 10 => ("MemberChoiceModel", "results", "[I", true)
  | 11 => ("MemberChoiceModel", "counts", "[I", true)
  | 12 => ("MemberChoiceModel", "params", "[I", true)
  | 13 => ("MemberChoiceModel", "arguments", "I", false)
  | 14 => ("MemberChoiceModel", "argTypes", "[I", true)
  | 15 => ("MemberChoiceModel", "lambdas", "[I", true)
  | 16 => ("MemberChoiceModel", "lambdaCounts", "[I", true)
  | 17 => ("MemberChoiceModel", "lambdaParams", "[I", true)
  | 18 => ("MemberChoiceModel", "lambdaResults", "[I", true)
  | 19 => ("MemberChoiceModel", "phase", "I", false)
  | 20 => ("MemberChoiceModel", "applies", "[Z", true)
  | 21 => ("MemberChoiceModel", "specials", "[Z", true)
  | _ => ("MemberChoiceModel", "functions", "[I", true)
def tyCM : Nat → FieldType := fun k => match k with
  | 0 => .int
  | 1 => .array .boolean
  | 2 => .array .int
  | 3 => .array .int
  | 4 => .array .int
  | 5 => .array .boolean
  | 6 => .int
  | 7 => .array .int
  | 8 => .array .int
  | 9 => .array .int
  | 10 => .array .int
  | 11 => .array .int
  | 12 => .array .int
  | 13 => .int
  | 14 => .array .int
  | 15 => .array .int
  | 16 => .array .int
  | 17 => .array .int
  | 18 => .array .int
  | 19 => .int
  | 20 => .array .boolean
  | 21 => .array .boolean
  | _ => .array .int
theorem tyCM_ok : ∀ k, k < 23 → parseFieldDescriptor (TCM k).2.2.1 = some (tyCM k) := by decide +kernel
theorem nnCM : ∀ a, a < 23 → ∀ b, b < 23 → a ≠ b → (TCM a).2.1 ≠ (TCM b).2.1 := by decide +kernel
theorem inCM_0 : ∀ w ∈ u_ws RCM TCM 23, w ∈ lw_tbl := by decide +kernel
theorem inCM_1 : (u_ws RCM TCM 23).all goodWord = true := by decide +kernel
theorem inCM : ∀ w ∈ u_ws RCM TCM 23, w ∈ wAll := fun w h => wa (inCM_0 w h) (List.all_eq_true.mp inCM_1 w h)
def RJI : String := "java/lang/Integer"
def RCL : String := "MemberChoiceLaw"
def RJA : String := "java/util/Arrays"
abbrev vwC : List vw_C := [(RC0, TC0, 5), (RC1, TC1, 4), (RC2, TC2, 10), (RC3, TC3, 6), (RC4, TC4, 10), (RCM, TCM, 23)]
abbrev cC1_add : ByteArray := prog_5_method_13_code
def yC1_add : MethodName := ⟨RC1, "add", "(IZ)I"⟩
def wsC1_add : List Cond := .code yC1_add cC1_add 4 (some .int) :: wAll
abbrev cC1_isTold : ByteArray := prog_5_method_3_code
def yC1_isTold : MethodName := ⟨RC1, "isTold", "(I)Z"⟩
def wsC1_isTold : List Cond := .code yC1_isTold cC1_isTold 2 (some .boolean) :: wAll
abbrev cC1_isInterface : ByteArray := prog_5_method_4_code
def yC1_isInterface : MethodName := ⟨RC1, "isInterface", "(I)Z"⟩
def wsC1_isInterface : List Cond := .code yC1_isInterface cC1_isInterface 2 (some .boolean) :: wAll
abbrev cC0_cls : ByteArray := prog_1_method_2_code
def yC0_cls : MethodName := ⟨RC0, "cls", "(I)I"⟩
def wsC0_cls : List Cond := .code yC0_cls cC0_cls 3 (some .int) :: wAll
abbrev cC0_face : ByteArray := prog_1_method_3_code
def yC0_face : MethodName := ⟨RC0, "face", "()I"⟩
def wsC0_face : List Cond := .code yC0_face cC0_face 1 (some .int) :: wAll
abbrev cJI_bitCount : ByteArray := prog_9_method_49_code
def yJI_bitCount : MethodName := ⟨RJI, "bitCount", "(I)I"⟩
def wsJI_bitCount : List Cond := .code yJI_bitCount cJI_bitCount 1 (some .int) :: wAll
abbrev cC1_isA : ByteArray := prog_5_method_15_code
def yC1_isA : MethodName := ⟨RC1, "isA", "(II)Z"⟩
def wsC1_isA : List Cond := .code yC1_isA cC1_isA 6 (some .boolean) :: wAll
abbrev cC1_putBelow : ByteArray := prog_5_method_14_code
def yC1_putBelow : MethodName := ⟨RC1, "putBelow", "(II)I"⟩
def wsC1_putBelow : List Cond := .code yC1_putBelow cC1_putBelow 7 (some .int) :: wAll
abbrev cC2_forgetFunctions : ByteArray := prog_4_method_25_code
def yC2_forgetFunctions : MethodName := ⟨RC2, "forgetFunctions", "()V"⟩
def wsC2_forgetFunctions : List Cond := .code yC2_forgetFunctions cC2_forgetFunctions 1 none :: wAll
abbrev cC0_below : ByteArray := prog_1_method_4_code
def yC0_below : MethodName := ⟨RC0, "below", "(II)I"⟩
def wsC0_below : List Cond := .code yC0_below cC0_below 4 (some .int) :: wAll
abbrev cC2_draftHead : ByteArray := prog_4_method_3_code
def yC2_draftHead : MethodName := ⟨RC2, "draftHead", "(IIII)V"⟩
def wsC2_draftHead : List Cond := .code yC2_draftHead cC2_draftHead 5 none :: wAll
abbrev cC2_draftParameters : ByteArray := prog_4_method_4_code
def yC2_draftParameters : MethodName := ⟨RC2, "draftParameters", "(IIIII)V"⟩
def wsC2_draftParameters : List Cond := .code yC2_draftParameters cC2_draftParameters 7 none :: wAll
abbrev cC2_isAbstract : ByteArray := prog_4_method_12_code
def yC2_isAbstract : MethodName := ⟨RC2, "isAbstract", "(I)Z"⟩
def wsC2_isAbstract : List Cond := .code yC2_isAbstract cC2_isAbstract 2 (some .boolean) :: wAll
abbrev cC2_isStatic : ByteArray := prog_4_method_10_code
def yC2_isStatic : MethodName := ⟨RC2, "isStatic", "(I)Z"⟩
def wsC2_isStatic : List Cond := .code yC2_isStatic cC2_isStatic 2 (some .boolean) :: wAll
abbrev cC2_isPrivate : ByteArray := prog_4_method_11_code
def yC2_isPrivate : MethodName := ⟨RC2, "isPrivate", "(I)Z"⟩
def wsC2_isPrivate : List Cond := .code yC2_isPrivate cC2_isPrivate 2 (some .boolean) :: wAll
abbrev cC2_hasGoodMarks : ByteArray := prog_4_method_7_code
def yC2_hasGoodMarks : MethodName := ⟨RC2, "hasGoodMarks", "(I)Z"⟩
def wsC2_hasGoodMarks : List Cond := .code yC2_hasGoodMarks cC2_hasGoodMarks 3 (some .boolean) :: wAll
abbrev cC1_isElement : ByteArray := prog_5_method_12_code
def yC1_isElement : MethodName := ⟨RC1, "isElement", "(I)Z"⟩
def wsC1_isElement : List Cond := .code yC1_isElement cC1_isElement 2 (some .boolean) :: wAll
abbrev cC1_isArray : ByteArray := prog_5_method_5_code
def yC1_isArray : MethodName := ⟨RC1, "isArray", "(I)Z"⟩
def wsC1_isArray : List Cond := .code yC1_isArray cC1_isArray 2 (some .boolean) :: wAll
abbrev cC1_canBeDeclared : ByteArray := prog_5_method_7_code
def yC1_canBeDeclared : MethodName := ⟨RC1, "canBeDeclared", "(I)Z"⟩
def wsC1_canBeDeclared : List Cond := .code yC1_canBeDeclared cC1_canBeDeclared 2 (some .boolean) :: wAll
abbrev cC1_canBeResult : ByteArray := prog_5_method_8_code
def yC1_canBeResult : MethodName := ⟨RC1, "canBeResult", "(I)Z"⟩
def wsC1_canBeResult : List Cond := .code yC1_canBeResult cC1_canBeResult 2 (some .boolean) :: wAll
abbrev cC2_hasGoodHead : ByteArray := prog_4_method_6_code
def yC2_hasGoodHead : MethodName := ⟨RC2, "hasGoodHead", "(I)Z"⟩
def wsC2_hasGoodHead : List Cond := .code yC2_hasGoodHead cC2_hasGoodHead 3 (some .boolean) :: wAll
abbrev cC2_isVaried : ByteArray := prog_4_method_13_code
def yC2_isVaried : MethodName := ⟨RC2, "isVaried", "(I)Z"⟩
def wsC2_isVaried : List Cond := .code yC2_isVaried cC2_isVaried 2 (some .boolean) :: wAll
abbrev cC2_parameterAt : ByteArray := prog_4_method_17_code
def yC2_parameterAt : MethodName := ⟨RC2, "parameterAt", "(II)I"⟩
def wsC2_parameterAt : List Cond := .code yC2_parameterAt cC2_parameterAt 3 (some .int) :: wAll
abbrev cC2_hasGoodParameters : ByteArray := prog_4_method_8_code
def yC2_hasGoodParameters : MethodName := ⟨RC2, "hasGoodParameters", "(I)Z"⟩
def wsC2_hasGoodParameters : List Cond := .code yC2_hasGoodParameters cC2_hasGoodParameters 3 (some .boolean) :: wAll
abbrev cC2_sameParameters : ByteArray := prog_4_method_20_code
def yC2_sameParameters : MethodName := ⟨RC2, "sameParameters", "(II)Z"⟩
def wsC2_sameParameters : List Cond := .code yC2_sameParameters cC2_sameParameters 4 (some .boolean) :: wAll
abbrev cC2_isToldTwice : ByteArray := prog_4_method_9_code
def yC2_isToldTwice : MethodName := ⟨RC2, "isToldTwice", "(I)Z"⟩
def wsC2_isToldTwice : List Cond := .code yC2_isToldTwice cC2_isToldTwice 3 (some .boolean) :: wAll
abbrev cC2_keepDraft : ByteArray := prog_4_method_5_code
def yC2_keepDraft : MethodName := ⟨RC2, "keepDraft", "()I"⟩
def wsC2_keepDraft : List Cond := .code yC2_keepDraft cC2_keepDraft 1 (some .int) :: wAll
abbrev cC0_member : ByteArray := prog_1_method_5_code
def yC0_member : MethodName := ⟨RC0, "member", "(IIIIIIIII)I"⟩
def wsC0_member : List Cond := .code yC0_member cC0_member 10 (some .int) :: wAll
abbrev cC1_isType : ByteArray := prog_5_method_6_code
def yC1_isType : MethodName := ⟨RC1, "isType", "(I)Z"⟩
def wsC1_isType : List Cond := .code yC1_isType cC1_isType 2 (some .boolean) :: wAll
abbrev cC1_isPrimitive : ByteArray := prog_5_method_9_code
def yC1_isPrimitive : MethodName := ⟨RC1, "isPrimitive", "(I)Z"⟩
def wsC1_isPrimitive : List Cond := .code yC1_isPrimitive cC1_isPrimitive 2 (some .boolean) :: wAll
abbrev cC1_accepts : ByteArray := prog_5_method_16_code
def yC1_accepts : MethodName := ⟨RC1, "accepts", "(IIZ)Z"⟩
def wsC1_accepts : List Cond := .code yC1_accepts cC1_accepts 5 (some .boolean) :: wAll
abbrev cC0_is : ByteArray := prog_1_method_6_code
def yC0_is : MethodName := ⟨RC0, "is", "(II)I"⟩
def wsC0_is : List Cond := .code yC0_is cC0_is 3 (some .int) :: wAll
abbrev cC0_fits : ByteArray := prog_1_method_7_code
def yC0_fits : MethodName := ⟨RC0, "fits", "(II)I"⟩
def wsC0_fits : List Cond := .code yC0_fits cC0_fits 3 (some .int) :: wAll
abbrev cC1_size : ByteArray := prog_5_method_2_code
def yC1_size : MethodName := ⟨RC1, "size", "()I"⟩
def wsC1_size : List Cond := .code yC1_size cC1_size 1 (some .int) :: wAll
abbrev cC2_overrides : ByteArray := prog_4_method_24_code
def yC2_overrides : MethodName := ⟨RC2, "overrides", "(II)Z"⟩
def wsC2_overrides : List Cond := .code yC2_overrides cC2_overrides 4 (some .boolean) :: wAll
abbrev cC2_isOverridden : ByteArray := prog_4_method_23_code
def yC2_isOverridden : MethodName := ⟨RC2, "isOverridden", "(II)Z"⟩
def wsC2_isOverridden : List Cond := .code yC2_isOverridden cC2_isOverridden 4 (some .boolean) :: wAll
abbrev cC2_isSeen : ByteArray := prog_4_method_22_code
def yC2_isSeen : MethodName := ⟨RC2, "isSeen", "(III)Z"⟩
def wsC2_isSeen : List Cond := .code yC2_isSeen cC2_isSeen 4 (some .boolean) :: wAll
abbrev cC2_findFunction : ByteArray := prog_4_method_27_code
def yC2_findFunction : MethodName := ⟨RC2, "findFunction", "(I)I"⟩
def wsC2_findFunction : List Cond := .code yC2_findFunction cC2_findFunction 4 (some .int) :: wAll
abbrev cC2_settleFunctions : ByteArray := prog_4_method_26_code
def yC2_settleFunctions : MethodName := ⟨RC2, "settleFunctions", "()V"⟩
def wsC2_settleFunctions : List Cond := .code yC2_settleFunctions cC2_settleFunctions 3 none :: wAll
abbrev cC2_functionOf : ByteArray := prog_4_method_28_code
def yC2_functionOf : MethodName := ⟨RC2, "functionOf", "(I)I"⟩
def wsC2_functionOf : List Cond := .code yC2_functionOf cC2_functionOf 2 (some .int) :: wAll
abbrev cC0_function : ByteArray := prog_1_method_8_code
def yC0_function : MethodName := ⟨RC0, "function", "(I)I"⟩
def wsC0_function : List Cond := .code yC0_function cC0_function 2 (some .int) :: wAll
abbrev cC0_canBeAsked : ByteArray := prog_1_method_19_code
def yC0_canBeAsked : MethodName := ⟨RC0, "canBeAsked", "(III)Z"⟩
def wsC0_canBeAsked : List Cond := .code yC0_canBeAsked cC0_canBeAsked 4 (some .boolean) :: wAll
abbrev cC2_listSeen : ByteArray := prog_4_method_21_code
def yC2_listSeen : MethodName := ⟨RC2, "listSeen", "(III[I)I"⟩
def wsC2_listSeen : List Cond := .code yC2_listSeen cC2_listSeen 7 (some .int) :: wAll
abbrev cC0_seen : ByteArray := prog_1_method_9_code
def yC0_seen : MethodName := ⟨RC0, "seen", "(III)I"⟩
def wsC0_seen : List Cond := .code yC0_seen cC0_seen 4 (some .int) :: wAll
abbrev cC0_seenAt : ByteArray := prog_1_method_10_code
def yC0_seenAt : MethodName := ⟨RC0, "seenAt", "(IIII)I"⟩
def wsC0_seenAt : List Cond := .code yC0_seenAt cC0_seenAt 6 (some .int) :: wAll
abbrev cC3_addType : ByteArray := prog_2_method_3_code
def yC3_addType : MethodName := ⟨RC3, "addType", "(I)I"⟩
def wsC3_addType : List Cond := .code yC3_addType cC3_addType 2 (some .int) :: wAll
abbrev cC0_argument : ByteArray := prog_1_method_11_code
def yC0_argument : MethodName := ⟨RC0, "argument", "(I)I"⟩
def wsC0_argument : List Cond := .code yC0_argument cC0_argument 2 (some .int) :: wAll
abbrev cC3_addLambda : ByteArray := prog_2_method_4_code
def yC3_addLambda : MethodName := ⟨RC3, "addLambda", "(IZIII)I"⟩
def wsC3_addLambda : List Cond := .code yC3_addLambda cC3_addLambda 6 (some .int) :: wAll
abbrev cC0_lambda : ByteArray := prog_1_method_12_code
def yC0_lambda : MethodName := ⟨RC0, "lambda", "(IIIII)I"⟩
def wsC0_lambda : List Cond := .code yC0_lambda cC0_lambda 8 (some .int) :: wAll
abbrev cC3_clear : ByteArray := prog_2_method_5_code
def yC3_clear : MethodName := ⟨RC3, "clear", "()I"⟩
def wsC3_clear : List Cond := .code yC3_clear cC3_clear 2 (some .int) :: wAll
abbrev cC0_wipe : ByteArray := prog_1_method_13_code
def yC0_wipe : MethodName := ⟨RC0, "wipe", "()I"⟩
def wsC0_wipe : List Cond := .code yC0_wipe cC0_wipe 1 (some .int) :: wAll
abbrev cC4_forget : ByteArray := prog_3_method_7_code
def yC4_forget : MethodName := ⟨RC4, "forget", "()V"⟩
def wsC4_forget : List Cond := .code yC4_forget cC4_forget 1 none :: wAll
abbrev cC2_widthOf : ByteArray := prog_4_method_16_code
def yC2_widthOf : MethodName := ⟨RC2, "widthOf", "(I)I"⟩
def wsC2_widthOf : List Cond := .code yC2_widthOf cC2_widthOf 2 (some .int) :: wAll
abbrev cC3_size : ByteArray := prog_2_method_2_code
def yC3_size : MethodName := ⟨RC3, "size", "()I"⟩
def wsC3_size : List Cond := .code yC3_size cC3_size 1 (some .int) :: wAll
abbrev cC3_isLambda : ByteArray := prog_2_method_6_code
def yC3_isLambda : MethodName := ⟨RC3, "isLambda", "(I)Z"⟩
def wsC3_isLambda : List Cond := .code yC3_isLambda cC3_isLambda 2 (some .boolean) :: wAll
abbrev cC1_elementOf : ByteArray := prog_5_method_11_code
def yC1_elementOf : MethodName := ⟨RC1, "elementOf", "(I)I"⟩
def wsC1_elementOf : List Cond := .code yC1_elementOf cC1_elementOf 2 (some .int) :: wAll
abbrev cC2_facing : ByteArray := prog_4_method_18_code
def yC2_facing : MethodName := ⟨RC2, "facing", "(IIZ)I"⟩
def wsC2_facing : List Cond := .code yC2_facing cC2_facing 5 (some .int) :: wAll
abbrev cC3_widthOf : ByteArray := prog_2_method_10_code
def yC3_widthOf : MethodName := ⟨RC3, "widthOf", "(I)I"⟩
def wsC3_widthOf : List Cond := .code yC3_widthOf cC3_widthOf 2 (some .int) :: wAll
abbrev cC2_hasResult : ByteArray := prog_4_method_14_code
def yC2_hasResult : MethodName := ⟨RC2, "hasResult", "(I)Z"⟩
def wsC2_hasResult : List Cond := .code yC2_hasResult cC2_hasResult 2 (some .boolean) :: wAll
abbrev cC3_hasResult : ByteArray := prog_2_method_9_code
def yC3_hasResult : MethodName := ⟨RC3, "hasResult", "(I)Z"⟩
def wsC3_hasResult : List Cond := .code yC3_hasResult cC3_hasResult 2 (some .boolean) :: wAll
abbrev cC4_hasShape : ByteArray := prog_3_method_13_code
def yC4_hasShape : MethodName := ⟨RC4, "hasShape", "(II)Z"⟩
def wsC4_hasShape : List Cond := .code yC4_hasShape cC4_hasShape 4 (some .boolean) :: wAll
abbrev cC4_couldBeMeant : ByteArray := prog_3_method_12_code
def yC4_couldBeMeant : MethodName := ⟨RC4, "couldBeMeant", "(I)Z"⟩
def wsC4_couldBeMeant : List Cond := .code yC4_couldBeMeant cC4_couldBeMeant 5 (some .boolean) :: wAll
abbrev cC4_keepMeant : ByteArray := prog_3_method_8_code
def yC4_keepMeant : MethodName := ⟨RC4, "keepMeant", "()V"⟩
def wsC4_keepMeant : List Cond := .code yC4_keepMeant cC4_keepMeant 3 none :: wAll
abbrev cC2_spreadType : ByteArray := prog_4_method_19_code
def yC2_spreadType : MethodName := ⟨RC2, "spreadType", "(I)I"⟩
def wsC2_spreadType : List Cond := .code yC2_spreadType cC2_spreadType 2 (some .int) :: wAll
abbrev cC3_isToldLambda : ByteArray := prog_2_method_7_code
def yC3_isToldLambda : MethodName := ⟨RC3, "isToldLambda", "(I)Z"⟩
def wsC3_isToldLambda : List Cond := .code yC3_isToldLambda cC3_isToldLambda 2 (some .boolean) :: wAll
abbrev cC3_valueOf : ByteArray := prog_2_method_8_code
def yC3_valueOf : MethodName := ⟨RC3, "valueOf", "(I)I"⟩
def wsC3_valueOf : List Cond := .code yC3_valueOf cC3_valueOf 2 (some .int) :: wAll
abbrev cC2_resultOf : ByteArray := prog_4_method_15_code
def yC2_resultOf : MethodName := ⟨RC2, "resultOf", "(I)I"⟩
def wsC2_resultOf : List Cond := .code yC2_resultOf cC2_resultOf 2 (some .int) :: wAll
abbrev cC1_isReference : ByteArray := prog_5_method_10_code
def yC1_isReference : MethodName := ⟨RC1, "isReference", "(I)Z"⟩
def wsC1_isReference : List Cond := .code yC1_isReference cC1_isReference 2 (some .boolean) :: wAll
abbrev cC4_isFinerResult : ByteArray := prog_3_method_19_code
def yC4_isFinerResult : MethodName := ⟨RC4, "isFinerResult", "(III)Z"⟩
def wsC4_isFinerResult : List Cond := .code yC4_isFinerResult cC4_isFinerResult 6 (some .boolean) :: wAll
abbrev cC4_isFinerFunction : ByteArray := prog_3_method_18_code
def yC4_isFinerFunction : MethodName := ⟨RC4, "isFinerFunction", "(III)Z"⟩
def wsC4_isFinerFunction : List Cond := .code yC4_isFinerFunction cC4_isFinerFunction 6 (some .boolean) :: wAll
abbrev cC4_isAsSpecialAs : ByteArray := prog_3_method_17_code
def yC4_isAsSpecialAs : MethodName := ⟨RC4, "isAsSpecialAs", "(II)Z"⟩
def wsC4_isAsSpecialAs : List Cond := .code yC4_isAsSpecialAs cC4_isAsSpecialAs 7 (some .boolean) :: wAll
abbrev cC4_compareAll : ByteArray := prog_3_method_10_code
def yC4_compareAll : MethodName := ⟨RC4, "compareAll", "()V"⟩
def wsC4_compareAll : List Cond := .code yC4_compareAll cC4_compareAll 4 none :: wAll
abbrev cC4_pick : ByteArray := prog_3_method_11_code
def yC4_pick : MethodName := ⟨RC4, "pick", "()I"⟩
def wsC4_pick : List Cond := .code yC4_pick cC4_pick 6 (some .int) :: wAll
abbrev cC3_parameterAt : ByteArray := prog_2_method_11_code
def yC3_parameterAt : MethodName := ⟨RC3, "parameterAt", "(II)I"⟩
def wsC3_parameterAt : List Cond := .code yC3_parameterAt cC3_parameterAt 3 (some .int) :: wAll
abbrev cC4_takesTold : ByteArray := prog_3_method_16_code
def yC4_takesTold : MethodName := ⟨RC4, "takesTold", "(IIZ)Z"⟩
def wsC4_takesTold : List Cond := .code yC4_takesTold cC4_takesTold 5 (some .boolean) :: wAll
abbrev cC4_takes : ByteArray := prog_3_method_15_code
def yC4_takes : MethodName := ⟨RC4, "takes", "(IIZ)Z"⟩
def wsC4_takes : List Cond := .code yC4_takes cC4_takes 4 (some .boolean) :: wAll
abbrev cC4_applies : ByteArray := prog_3_method_14_code
def yC4_applies : MethodName := ⟨RC4, "applies", "(II)Z"⟩
def wsC4_applies : List Cond := .code yC4_applies cC4_applies 5 (some .boolean) :: wAll
abbrev cC4_findApplying : ByteArray := prog_3_method_9_code
def yC4_findApplying : MethodName := ⟨RC4, "findApplying", "(I)V"⟩
def wsC4_findApplying : List Cond := .code yC4_findApplying cC4_findApplying 4 none :: wAll
abbrev cC4_decide : ByteArray := prog_3_method_6_code
def yC4_decide : MethodName := ⟨RC4, "decide", "(III)I"⟩
def wsC4_decide : List Cond := .code yC4_decide cC4_decide 5 (some .int) :: wAll
abbrev cC0_choose : ByteArray := prog_1_method_14_code
def yC0_choose : MethodName := ⟨RC0, "choose", "(IIII)I"⟩
def wsC0_choose : List Cond := .code yC0_choose cC0_choose 6 (some .int) :: wAll
abbrev cC4_phaseReached : ByteArray := prog_3_method_2_code
def yC4_phaseReached : MethodName := ⟨RC4, "phaseReached", "()I"⟩
def wsC4_phaseReached : List Cond := .code yC4_phaseReached cC4_phaseReached 1 (some .int) :: wAll
abbrev cC0_phase : ByteArray := prog_1_method_15_code
def yC0_phase : MethodName := ⟨RC0, "phase", "()I"⟩
def wsC0_phase : List Cond := .code yC0_phase cC0_phase 1 (some .int) :: wAll
abbrev cC4_applyingAt : ByteArray := prog_3_method_3_code
def yC4_applyingAt : MethodName := ⟨RC4, "applyingAt", "(I)I"⟩
def wsC4_applyingAt : List Cond := .code yC4_applyingAt cC4_applyingAt 2 (some .int) :: wAll
abbrev cC0_applied : ByteArray := prog_1_method_16_code
def yC0_applied : MethodName := ⟨RC0, "applied", "(I)I"⟩
def wsC0_applied : List Cond := .code yC0_applied cC0_applied 2 (some .int) :: wAll
abbrev cC4_didApply : ByteArray := prog_3_method_5_code
def yC4_didApply : MethodName := ⟨RC4, "didApply", "(I)Z"⟩
def wsC4_didApply : List Cond := .code yC4_didApply cC4_didApply 2 (some .boolean) :: wAll
abbrev cC4_compared : ByteArray := prog_3_method_4_code
def yC4_compared : MethodName := ⟨RC4, "compared", "(II)I"⟩
def wsC4_compared : List Cond := .code yC4_compared cC4_compared 3 (some .int) :: wAll
abbrev cC0_special : ByteArray := prog_1_method_17_code
def yC0_special : MethodName := ⟨RC0, "special", "(II)I"⟩
def wsC0_special : List Cond := .code yC0_special cC0_special 3 (some .int) :: wAll
abbrev cC2_size : ByteArray := prog_4_method_2_code
def yC2_size : MethodName := ⟨RC2, "size", "()I"⟩
def wsC2_size : List Cond := .code yC2_size cC2_size 1 (some .int) :: wAll
abbrev cC0_count : ByteArray := prog_1_method_18_code
def yC0_count : MethodName := ⟨RC0, "count", "(I)I"⟩
def wsC0_count : List Cond := .code yC0_count cC0_count 2 (some .int) :: wAll
abbrev cCM_forgetFunctions : ByteArray := prog_7_method_22_code
def yCM_forgetFunctions : MethodName := ⟨RCM, "forgetFunctions", "()V"⟩
def wsCM_forgetFunctions : List Cond := .code yCM_forgetFunctions cCM_forgetFunctions 2 none :: wAll
abbrev cCM_closeTypes : ByteArray := prog_7_method_7_code
def yCM_closeTypes : MethodName := ⟨RCM, "closeTypes", "()V"⟩
def wsCM_closeTypes : List Cond := .code yCM_closeTypes cCM_closeTypes 5 none :: wAll
abbrev cCM_isTold : ByteArray := prog_7_method_2_code
def yCM_isTold : MethodName := ⟨RCM, "isTold", "(I)Z"⟩
def wsCM_isTold : List Cond := .code yCM_isTold cCM_isTold 2 (some .boolean) :: wAll
abbrev cCM_cls : ByteArray := prog_7_method_11_code
def yCM_cls : MethodName := ⟨RCM, "cls", "(I)I"⟩
def wsCM_cls : List Cond := .code yCM_cls cCM_cls 2 (some .int) :: wAll
abbrev cCM_face : ByteArray := prog_7_method_12_code
def yCM_face : MethodName := ⟨RCM, "face", "()I"⟩
def wsCM_face : List Cond := .code yCM_face cCM_face 1 (some .int) :: wAll
abbrev cCM_below : ByteArray := prog_7_method_13_code
def yCM_below : MethodName := ⟨RCM, "below", "(II)I"⟩
def wsCM_below : List Cond := .code yCM_below cCM_below 6 (some .int) :: wAll
abbrev cCM_isPlain : ByteArray := prog_7_method_3_code
def yCM_isPlain : MethodName := ⟨RCM, "isPlain", "(I)Z"⟩
def wsCM_isPlain : List Cond := .code yCM_isPlain cCM_isPlain 2 (some .boolean) :: wAll
abbrev cCM_isType : ByteArray := prog_7_method_4_code
def yCM_isType : MethodName := ⟨RCM, "isType", "(I)Z"⟩
def wsCM_isType : List Cond := .code yCM_isType cCM_isType 2 (some .boolean) :: wAll
abbrev cCM_isPrimitive : ByteArray := prog_7_method_5_code
def yCM_isPrimitive : MethodName := ⟨RCM, "isPrimitive", "(I)Z"⟩
def wsCM_isPrimitive : List Cond := .code yCM_isPrimitive cCM_isPrimitive 1 (some .boolean) :: wAll
abbrev cCM_plainIs : ByteArray := prog_7_method_8_code
def yCM_plainIs : MethodName := ⟨RCM, "plainIs", "(II)Z"⟩
def wsCM_plainIs : List Cond := .code yCM_plainIs cCM_plainIs 3 (some .boolean) :: wAll
abbrev cCM_isIt : ByteArray := prog_7_method_9_code
def yCM_isIt : MethodName := ⟨RCM, "isIt", "(II)Z"⟩
def wsCM_isIt : List Cond := .code yCM_isIt cCM_isIt 3 (some .boolean) :: wAll
abbrev cCM_is : ByteArray := prog_7_method_14_code
def yCM_is : MethodName := ⟨RCM, "is", "(II)I"⟩
def wsCM_is : List Cond := .code yCM_is cCM_is 3 (some .int) :: wAll
abbrev cCM_isBox : ByteArray := prog_7_method_6_code
def yCM_isBox : MethodName := ⟨RCM, "isBox", "(I)Z"⟩
def wsCM_isBox : List Cond := .code yCM_isBox cCM_isBox 1 (some .boolean) :: wAll
abbrev cCM_fitsIt : ByteArray := prog_7_method_10_code
def yCM_fitsIt : MethodName := ⟨RCM, "fitsIt", "(II)Z"⟩
def wsCM_fitsIt : List Cond := .code yCM_fitsIt cCM_fitsIt 3 (some .boolean) :: wAll
abbrev cCM_fits : ByteArray := prog_7_method_15_code
def yCM_fits : MethodName := ⟨RCM, "fits", "(II)I"⟩
def wsCM_fits : List Cond := .code yCM_fits cCM_fits 3 (some .int) :: wAll
abbrev cCM_parameter : ByteArray := prog_7_method_18_code
def yCM_parameter : MethodName := ⟨RCM, "parameter", "(IIIII)I"⟩
def wsCM_parameter : List Cond := .code yCM_parameter cCM_parameter 5 (some .int) :: wAll
abbrev cCM_isValue : ByteArray := prog_7_method_30_code
def yCM_isValue : MethodName := ⟨RCM, "isValue", "(I)Z"⟩
def wsCM_isValue : List Cond := .code yCM_isValue cCM_isValue 2 (some .boolean) :: wAll
abbrev cCM_isName : ByteArray := prog_7_method_16_code
def yCM_isName : MethodName := ⟨RCM, "isName", "(I)Z"⟩
def wsCM_isName : List Cond := .code yCM_isName cCM_isName 1 (some .boolean) :: wAll
abbrev cCM_member : ByteArray := prog_7_method_17_code
def yCM_member : MethodName := ⟨RCM, "member", "(IIIIIIIII)I"⟩
def wsCM_member : List Cond := .code yCM_member cCM_member 15 (some .int) :: wAll
abbrev cCM_has : ByteArray := prog_7_method_20_code
def yCM_has : MethodName := ⟨RCM, "has", "(II)Z"⟩
def wsCM_has : List Cond := .code yCM_has cCM_has 3 (some .boolean) :: wAll
abbrev cCM_sameParams : ByteArray := prog_7_method_19_code
def yCM_sameParams : MethodName := ⟨RCM, "sameParams", "(II)Z"⟩
def wsCM_sameParams : List Cond := .code yCM_sameParams cCM_sameParams 5 (some .boolean) :: wAll
abbrev cCM_isSeen : ByteArray := prog_7_method_21_code
def yCM_isSeen : MethodName := ⟨RCM, "isSeen", "(III)Z"⟩
def wsCM_isSeen : List Cond := .code yCM_isSeen cCM_isSeen 6 (some .boolean) :: wAll
abbrev cCM_findFunction : ByteArray := prog_7_method_24_code
def yCM_findFunction : MethodName := ⟨RCM, "findFunction", "(I)I"⟩
def wsCM_findFunction : List Cond := .code yCM_findFunction cCM_findFunction 4 (some .int) :: wAll
abbrev cCM_functionOf : ByteArray := prog_7_method_23_code
def yCM_functionOf : MethodName := ⟨RCM, "functionOf", "(I)I"⟩
def wsCM_functionOf : List Cond := .code yCM_functionOf cCM_functionOf 2 (some .int) :: wAll
abbrev cCM_function : ByteArray := prog_7_method_25_code
def yCM_function : MethodName := ⟨RCM, "function", "(I)I"⟩
def wsCM_function : List Cond := .code yCM_function cCM_function 2 (some .int) :: wAll
abbrev cCM_isAsked : ByteArray := prog_7_method_26_code
def yCM_isAsked : MethodName := ⟨RCM, "isAsked", "(III)Z"⟩
def wsCM_isAsked : List Cond := .code yCM_isAsked cCM_isAsked 4 (some .boolean) :: wAll
abbrev cCM_seen : ByteArray := prog_7_method_27_code
def yCM_seen : MethodName := ⟨RCM, "seen", "(III)I"⟩
def wsCM_seen : List Cond := .code yCM_seen cCM_seen 6 (some .int) :: wAll
abbrev cCM_seenAt : ByteArray := prog_7_method_28_code
def yCM_seenAt : MethodName := ⟨RCM, "seenAt", "(IIII)I"⟩
def wsCM_seenAt : List Cond := .code yCM_seenAt cCM_seenAt 7 (some .int) :: wAll
abbrev cCM_argument : ByteArray := prog_7_method_29_code
def yCM_argument : MethodName := ⟨RCM, "argument", "(I)I"⟩
def wsCM_argument : List Cond := .code yCM_argument cCM_argument 2 (some .int) :: wAll
abbrev cCM_lambda : ByteArray := prog_7_method_31_code
def yCM_lambda : MethodName := ⟨RCM, "lambda", "(IIIII)I"⟩
def wsCM_lambda : List Cond := .code yCM_lambda cCM_lambda 6 (some .int) :: wAll
abbrev cCM_wipe : ByteArray := prog_7_method_32_code
def yCM_wipe : MethodName := ⟨RCM, "wipe", "()I"⟩
def wsCM_wipe : List Cond := .code yCM_wipe cCM_wipe 2 (some .int) :: wAll
abbrev cCM_mostSpecial : ByteArray := prog_7_method_42_code
def yCM_mostSpecial : MethodName := ⟨RCM, "mostSpecial", "()I"⟩
def wsCM_mostSpecial : List Cond := .code yCM_mostSpecial cCM_mostSpecial 9 (some .int) :: wAll
abbrev cCM_typeAt : ByteArray := prog_7_method_33_code
def yCM_typeAt : MethodName := ⟨RCM, "typeAt", "(IIZ)I"⟩
def wsCM_typeAt : List Cond := .code yCM_typeAt cCM_typeAt 5 (some .int) :: wAll
abbrev cCM_isFiner : ByteArray := prog_7_method_40_code
def yCM_isFiner : MethodName := ⟨RCM, "isFiner", "(III)Z"⟩
def wsCM_isFiner : List Cond := .code yCM_isFiner cCM_isFiner 9 (some .boolean) :: wAll
abbrev cCM_isSpecial : ByteArray := prog_7_method_39_code
def yCM_isSpecial : MethodName := ⟨RCM, "isSpecial", "(II)Z"⟩
def wsCM_isSpecial : List Cond := .code yCM_isSpecial cCM_isSpecial 7 (some .boolean) :: wAll
abbrev cCM_hasShape : ByteArray := prog_7_method_34_code
def yCM_hasShape : MethodName := ⟨RCM, "hasShape", "(II)Z"⟩
def wsCM_hasShape : List Cond := .code yCM_hasShape cCM_hasShape 4 (some .boolean) :: wAll
abbrev cCM_passes : ByteArray := prog_7_method_36_code
def yCM_passes : MethodName := ⟨RCM, "passes", "(III)Z"⟩
def wsCM_passes : List Cond := .code yCM_passes cCM_passes 4 (some .boolean) :: wAll
abbrev cCM_takes : ByteArray := prog_7_method_38_code
def yCM_takes : MethodName := ⟨RCM, "takes", "(III)Z"⟩
def wsCM_takes : List Cond := .code yCM_takes cCM_takes 7 (some .boolean) :: wAll
abbrev cCM_doesApply : ByteArray := prog_7_method_37_code
def yCM_doesApply : MethodName := ⟨RCM, "doesApply", "(II)Z"⟩
def wsCM_doesApply : List Cond := .code yCM_doesApply cCM_doesApply 5 (some .boolean) :: wAll
abbrev cCM_isMeant : ByteArray := prog_7_method_35_code
def yCM_isMeant : MethodName := ⟨RCM, "isMeant", "(I)Z"⟩
def wsCM_isMeant : List Cond := .code yCM_isMeant cCM_isMeant 5 (some .boolean) :: wAll
abbrev cCM_choose : ByteArray := prog_7_method_41_code
def yCM_choose : MethodName := ⟨RCM, "choose", "(IIII)I"⟩
def wsCM_choose : List Cond := .code yCM_choose cCM_choose 10 (some .int) :: wAll
abbrev cCM_phase : ByteArray := prog_7_method_43_code
def yCM_phase : MethodName := ⟨RCM, "phase", "()I"⟩
def wsCM_phase : List Cond := .code yCM_phase cCM_phase 1 (some .int) :: wAll
abbrev cCM_applied : ByteArray := prog_7_method_44_code
def yCM_applied : MethodName := ⟨RCM, "applied", "(I)I"⟩
def wsCM_applied : List Cond := .code yCM_applied cCM_applied 4 (some .int) :: wAll
abbrev cCM_special : ByteArray := prog_7_method_45_code
def yCM_special : MethodName := ⟨RCM, "special", "(II)I"⟩
def wsCM_special : List Cond := .code yCM_special cCM_special 4 (some .int) :: wAll
abbrev cCM_count : ByteArray := prog_7_method_46_code
def yCM_count : MethodName := ⟨RCM, "count", "(I)I"⟩
def wsCM_count : List Cond := .code yCM_count cCM_count 2 (some .int) :: wAll
theorem hdC1_add : yC1_add.cls = RC1 ∧ yC1_add.cls ≠ "java/lang/invoke/MethodHandle" ∧ yC1_add.cls ≠ "java/lang/invoke/VarHandle" ∧ (parseMethodDescriptor yC1_add.desc).map (fun d => d.parameters.length) = some 2 := by decide +kernel
theorem hdC1_isTold : yC1_isTold.cls = RC1 ∧ yC1_isTold.cls ≠ "java/lang/invoke/MethodHandle" ∧ yC1_isTold.cls ≠ "java/lang/invoke/VarHandle" ∧ (parseMethodDescriptor yC1_isTold.desc).map (fun d => d.parameters.length) = some 1 := by decide +kernel
theorem hdC1_isInterface : yC1_isInterface.cls = RC1 ∧ yC1_isInterface.cls ≠ "java/lang/invoke/MethodHandle" ∧ yC1_isInterface.cls ≠ "java/lang/invoke/VarHandle" ∧ (parseMethodDescriptor yC1_isInterface.desc).map (fun d => d.parameters.length) = some 1 := by decide +kernel
theorem hdC0_cls : yC0_cls.cls = RC0 ∧ yC0_cls.cls ≠ "java/lang/invoke/MethodHandle" ∧ yC0_cls.cls ≠ "java/lang/invoke/VarHandle" ∧ (parseMethodDescriptor yC0_cls.desc).map (fun d => d.parameters.length) = some 1 := by decide +kernel
theorem hdC0_face : yC0_face.cls = RC0 ∧ yC0_face.cls ≠ "java/lang/invoke/MethodHandle" ∧ yC0_face.cls ≠ "java/lang/invoke/VarHandle" ∧ (parseMethodDescriptor yC0_face.desc).map (fun d => d.parameters.length) = some 0 := by decide +kernel
theorem hdJI_bitCount : yJI_bitCount.cls ≠ "java/lang/invoke/MethodHandle" ∧ yJI_bitCount.cls ≠ "java/lang/invoke/VarHandle" ∧ (parseMethodDescriptor yJI_bitCount.desc).map (fun d => d.parameters.length) = some 1 := by decide +kernel
theorem hdC1_isA : yC1_isA.cls = RC1 ∧ yC1_isA.cls ≠ "java/lang/invoke/MethodHandle" ∧ yC1_isA.cls ≠ "java/lang/invoke/VarHandle" ∧ (parseMethodDescriptor yC1_isA.desc).map (fun d => d.parameters.length) = some 2 := by decide +kernel
theorem hdC1_putBelow : yC1_putBelow.cls = RC1 ∧ yC1_putBelow.cls ≠ "java/lang/invoke/MethodHandle" ∧ yC1_putBelow.cls ≠ "java/lang/invoke/VarHandle" ∧ (parseMethodDescriptor yC1_putBelow.desc).map (fun d => d.parameters.length) = some 2 := by decide +kernel
theorem hdC2_forgetFunctions : yC2_forgetFunctions.cls = RC2 ∧ yC2_forgetFunctions.cls ≠ "java/lang/invoke/MethodHandle" ∧ yC2_forgetFunctions.cls ≠ "java/lang/invoke/VarHandle" ∧ (parseMethodDescriptor yC2_forgetFunctions.desc).map (fun d => d.parameters.length) = some 0 := by decide +kernel
theorem hdC0_below : yC0_below.cls = RC0 ∧ yC0_below.cls ≠ "java/lang/invoke/MethodHandle" ∧ yC0_below.cls ≠ "java/lang/invoke/VarHandle" ∧ (parseMethodDescriptor yC0_below.desc).map (fun d => d.parameters.length) = some 2 := by decide +kernel
theorem hdC2_draftHead : yC2_draftHead.cls = RC2 ∧ yC2_draftHead.cls ≠ "java/lang/invoke/MethodHandle" ∧ yC2_draftHead.cls ≠ "java/lang/invoke/VarHandle" ∧ (parseMethodDescriptor yC2_draftHead.desc).map (fun d => d.parameters.length) = some 4 := by decide +kernel
theorem hdC2_draftParameters : yC2_draftParameters.cls = RC2 ∧ yC2_draftParameters.cls ≠ "java/lang/invoke/MethodHandle" ∧ yC2_draftParameters.cls ≠ "java/lang/invoke/VarHandle" ∧ (parseMethodDescriptor yC2_draftParameters.desc).map (fun d => d.parameters.length) = some 5 := by decide +kernel
theorem hdC2_isAbstract : yC2_isAbstract.cls = RC2 ∧ yC2_isAbstract.cls ≠ "java/lang/invoke/MethodHandle" ∧ yC2_isAbstract.cls ≠ "java/lang/invoke/VarHandle" ∧ (parseMethodDescriptor yC2_isAbstract.desc).map (fun d => d.parameters.length) = some 1 := by decide +kernel
theorem hdC2_isStatic : yC2_isStatic.cls = RC2 ∧ yC2_isStatic.cls ≠ "java/lang/invoke/MethodHandle" ∧ yC2_isStatic.cls ≠ "java/lang/invoke/VarHandle" ∧ (parseMethodDescriptor yC2_isStatic.desc).map (fun d => d.parameters.length) = some 1 := by decide +kernel
theorem hdC2_isPrivate : yC2_isPrivate.cls = RC2 ∧ yC2_isPrivate.cls ≠ "java/lang/invoke/MethodHandle" ∧ yC2_isPrivate.cls ≠ "java/lang/invoke/VarHandle" ∧ (parseMethodDescriptor yC2_isPrivate.desc).map (fun d => d.parameters.length) = some 1 := by decide +kernel
theorem hdC2_hasGoodMarks : yC2_hasGoodMarks.cls = RC2 ∧ yC2_hasGoodMarks.cls ≠ "java/lang/invoke/MethodHandle" ∧ yC2_hasGoodMarks.cls ≠ "java/lang/invoke/VarHandle" ∧ (parseMethodDescriptor yC2_hasGoodMarks.desc).map (fun d => d.parameters.length) = some 1 := by decide +kernel
theorem hdC1_isElement : yC1_isElement.cls = RC1 ∧ yC1_isElement.cls ≠ "java/lang/invoke/MethodHandle" ∧ yC1_isElement.cls ≠ "java/lang/invoke/VarHandle" ∧ (parseMethodDescriptor yC1_isElement.desc).map (fun d => d.parameters.length) = some 1 := by decide +kernel
theorem hdC1_isArray : yC1_isArray.cls = RC1 ∧ yC1_isArray.cls ≠ "java/lang/invoke/MethodHandle" ∧ yC1_isArray.cls ≠ "java/lang/invoke/VarHandle" ∧ (parseMethodDescriptor yC1_isArray.desc).map (fun d => d.parameters.length) = some 1 := by decide +kernel
theorem hdC1_canBeDeclared : yC1_canBeDeclared.cls = RC1 ∧ yC1_canBeDeclared.cls ≠ "java/lang/invoke/MethodHandle" ∧ yC1_canBeDeclared.cls ≠ "java/lang/invoke/VarHandle" ∧ (parseMethodDescriptor yC1_canBeDeclared.desc).map (fun d => d.parameters.length) = some 1 := by decide +kernel
theorem hdC1_canBeResult : yC1_canBeResult.cls = RC1 ∧ yC1_canBeResult.cls ≠ "java/lang/invoke/MethodHandle" ∧ yC1_canBeResult.cls ≠ "java/lang/invoke/VarHandle" ∧ (parseMethodDescriptor yC1_canBeResult.desc).map (fun d => d.parameters.length) = some 1 := by decide +kernel
theorem hdC2_hasGoodHead : yC2_hasGoodHead.cls = RC2 ∧ yC2_hasGoodHead.cls ≠ "java/lang/invoke/MethodHandle" ∧ yC2_hasGoodHead.cls ≠ "java/lang/invoke/VarHandle" ∧ (parseMethodDescriptor yC2_hasGoodHead.desc).map (fun d => d.parameters.length) = some 1 := by decide +kernel
theorem hdC2_isVaried : yC2_isVaried.cls = RC2 ∧ yC2_isVaried.cls ≠ "java/lang/invoke/MethodHandle" ∧ yC2_isVaried.cls ≠ "java/lang/invoke/VarHandle" ∧ (parseMethodDescriptor yC2_isVaried.desc).map (fun d => d.parameters.length) = some 1 := by decide +kernel
theorem hdC2_parameterAt : yC2_parameterAt.cls = RC2 ∧ yC2_parameterAt.cls ≠ "java/lang/invoke/MethodHandle" ∧ yC2_parameterAt.cls ≠ "java/lang/invoke/VarHandle" ∧ (parseMethodDescriptor yC2_parameterAt.desc).map (fun d => d.parameters.length) = some 2 := by decide +kernel
theorem hdC2_hasGoodParameters : yC2_hasGoodParameters.cls = RC2 ∧ yC2_hasGoodParameters.cls ≠ "java/lang/invoke/MethodHandle" ∧ yC2_hasGoodParameters.cls ≠ "java/lang/invoke/VarHandle" ∧ (parseMethodDescriptor yC2_hasGoodParameters.desc).map (fun d => d.parameters.length) = some 1 := by decide +kernel
theorem hdC2_sameParameters : yC2_sameParameters.cls = RC2 ∧ yC2_sameParameters.cls ≠ "java/lang/invoke/MethodHandle" ∧ yC2_sameParameters.cls ≠ "java/lang/invoke/VarHandle" ∧ (parseMethodDescriptor yC2_sameParameters.desc).map (fun d => d.parameters.length) = some 2 := by decide +kernel
theorem hdC2_isToldTwice : yC2_isToldTwice.cls = RC2 ∧ yC2_isToldTwice.cls ≠ "java/lang/invoke/MethodHandle" ∧ yC2_isToldTwice.cls ≠ "java/lang/invoke/VarHandle" ∧ (parseMethodDescriptor yC2_isToldTwice.desc).map (fun d => d.parameters.length) = some 1 := by decide +kernel
theorem hdC2_keepDraft : yC2_keepDraft.cls = RC2 ∧ yC2_keepDraft.cls ≠ "java/lang/invoke/MethodHandle" ∧ yC2_keepDraft.cls ≠ "java/lang/invoke/VarHandle" ∧ (parseMethodDescriptor yC2_keepDraft.desc).map (fun d => d.parameters.length) = some 0 := by decide +kernel
theorem hdC0_member : yC0_member.cls = RC0 ∧ yC0_member.cls ≠ "java/lang/invoke/MethodHandle" ∧ yC0_member.cls ≠ "java/lang/invoke/VarHandle" ∧ (parseMethodDescriptor yC0_member.desc).map (fun d => d.parameters.length) = some 9 := by decide +kernel
theorem hdC1_isType : yC1_isType.cls = RC1 ∧ yC1_isType.cls ≠ "java/lang/invoke/MethodHandle" ∧ yC1_isType.cls ≠ "java/lang/invoke/VarHandle" ∧ (parseMethodDescriptor yC1_isType.desc).map (fun d => d.parameters.length) = some 1 := by decide +kernel
theorem hdC1_isPrimitive : yC1_isPrimitive.cls = RC1 ∧ yC1_isPrimitive.cls ≠ "java/lang/invoke/MethodHandle" ∧ yC1_isPrimitive.cls ≠ "java/lang/invoke/VarHandle" ∧ (parseMethodDescriptor yC1_isPrimitive.desc).map (fun d => d.parameters.length) = some 1 := by decide +kernel
theorem hdC1_accepts : yC1_accepts.cls = RC1 ∧ yC1_accepts.cls ≠ "java/lang/invoke/MethodHandle" ∧ yC1_accepts.cls ≠ "java/lang/invoke/VarHandle" ∧ (parseMethodDescriptor yC1_accepts.desc).map (fun d => d.parameters.length) = some 3 := by decide +kernel
theorem hdC0_is : yC0_is.cls = RC0 ∧ yC0_is.cls ≠ "java/lang/invoke/MethodHandle" ∧ yC0_is.cls ≠ "java/lang/invoke/VarHandle" ∧ (parseMethodDescriptor yC0_is.desc).map (fun d => d.parameters.length) = some 2 := by decide +kernel
theorem hdC0_fits : yC0_fits.cls = RC0 ∧ yC0_fits.cls ≠ "java/lang/invoke/MethodHandle" ∧ yC0_fits.cls ≠ "java/lang/invoke/VarHandle" ∧ (parseMethodDescriptor yC0_fits.desc).map (fun d => d.parameters.length) = some 2 := by decide +kernel
theorem hdC1_size : yC1_size.cls = RC1 ∧ yC1_size.cls ≠ "java/lang/invoke/MethodHandle" ∧ yC1_size.cls ≠ "java/lang/invoke/VarHandle" ∧ (parseMethodDescriptor yC1_size.desc).map (fun d => d.parameters.length) = some 0 := by decide +kernel
theorem hdC2_overrides : yC2_overrides.cls = RC2 ∧ yC2_overrides.cls ≠ "java/lang/invoke/MethodHandle" ∧ yC2_overrides.cls ≠ "java/lang/invoke/VarHandle" ∧ (parseMethodDescriptor yC2_overrides.desc).map (fun d => d.parameters.length) = some 2 := by decide +kernel
theorem hdC2_isOverridden : yC2_isOverridden.cls = RC2 ∧ yC2_isOverridden.cls ≠ "java/lang/invoke/MethodHandle" ∧ yC2_isOverridden.cls ≠ "java/lang/invoke/VarHandle" ∧ (parseMethodDescriptor yC2_isOverridden.desc).map (fun d => d.parameters.length) = some 2 := by decide +kernel
theorem hdC2_isSeen : yC2_isSeen.cls = RC2 ∧ yC2_isSeen.cls ≠ "java/lang/invoke/MethodHandle" ∧ yC2_isSeen.cls ≠ "java/lang/invoke/VarHandle" ∧ (parseMethodDescriptor yC2_isSeen.desc).map (fun d => d.parameters.length) = some 3 := by decide +kernel
theorem hdC2_findFunction : yC2_findFunction.cls = RC2 ∧ yC2_findFunction.cls ≠ "java/lang/invoke/MethodHandle" ∧ yC2_findFunction.cls ≠ "java/lang/invoke/VarHandle" ∧ (parseMethodDescriptor yC2_findFunction.desc).map (fun d => d.parameters.length) = some 1 := by decide +kernel
theorem hdC2_settleFunctions : yC2_settleFunctions.cls = RC2 ∧ yC2_settleFunctions.cls ≠ "java/lang/invoke/MethodHandle" ∧ yC2_settleFunctions.cls ≠ "java/lang/invoke/VarHandle" ∧ (parseMethodDescriptor yC2_settleFunctions.desc).map (fun d => d.parameters.length) = some 0 := by decide +kernel
theorem hdC2_functionOf : yC2_functionOf.cls = RC2 ∧ yC2_functionOf.cls ≠ "java/lang/invoke/MethodHandle" ∧ yC2_functionOf.cls ≠ "java/lang/invoke/VarHandle" ∧ (parseMethodDescriptor yC2_functionOf.desc).map (fun d => d.parameters.length) = some 1 := by decide +kernel
theorem hdC0_function : yC0_function.cls = RC0 ∧ yC0_function.cls ≠ "java/lang/invoke/MethodHandle" ∧ yC0_function.cls ≠ "java/lang/invoke/VarHandle" ∧ (parseMethodDescriptor yC0_function.desc).map (fun d => d.parameters.length) = some 1 := by decide +kernel
theorem hdC0_canBeAsked : yC0_canBeAsked.cls = RC0 ∧ yC0_canBeAsked.cls ≠ "java/lang/invoke/MethodHandle" ∧ yC0_canBeAsked.cls ≠ "java/lang/invoke/VarHandle" ∧ (parseMethodDescriptor yC0_canBeAsked.desc).map (fun d => d.parameters.length) = some 3 := by decide +kernel
theorem hdC2_listSeen : yC2_listSeen.cls = RC2 ∧ yC2_listSeen.cls ≠ "java/lang/invoke/MethodHandle" ∧ yC2_listSeen.cls ≠ "java/lang/invoke/VarHandle" ∧ (parseMethodDescriptor yC2_listSeen.desc).map (fun d => d.parameters.length) = some 4 := by decide +kernel
theorem hdC0_seen : yC0_seen.cls = RC0 ∧ yC0_seen.cls ≠ "java/lang/invoke/MethodHandle" ∧ yC0_seen.cls ≠ "java/lang/invoke/VarHandle" ∧ (parseMethodDescriptor yC0_seen.desc).map (fun d => d.parameters.length) = some 3 := by decide +kernel
theorem hdC0_seenAt : yC0_seenAt.cls = RC0 ∧ yC0_seenAt.cls ≠ "java/lang/invoke/MethodHandle" ∧ yC0_seenAt.cls ≠ "java/lang/invoke/VarHandle" ∧ (parseMethodDescriptor yC0_seenAt.desc).map (fun d => d.parameters.length) = some 4 := by decide +kernel
theorem hdC3_addType : yC3_addType.cls = RC3 ∧ yC3_addType.cls ≠ "java/lang/invoke/MethodHandle" ∧ yC3_addType.cls ≠ "java/lang/invoke/VarHandle" ∧ (parseMethodDescriptor yC3_addType.desc).map (fun d => d.parameters.length) = some 1 := by decide +kernel
theorem hdC0_argument : yC0_argument.cls = RC0 ∧ yC0_argument.cls ≠ "java/lang/invoke/MethodHandle" ∧ yC0_argument.cls ≠ "java/lang/invoke/VarHandle" ∧ (parseMethodDescriptor yC0_argument.desc).map (fun d => d.parameters.length) = some 1 := by decide +kernel
theorem hdC3_addLambda : yC3_addLambda.cls = RC3 ∧ yC3_addLambda.cls ≠ "java/lang/invoke/MethodHandle" ∧ yC3_addLambda.cls ≠ "java/lang/invoke/VarHandle" ∧ (parseMethodDescriptor yC3_addLambda.desc).map (fun d => d.parameters.length) = some 5 := by decide +kernel
theorem hdC0_lambda : yC0_lambda.cls = RC0 ∧ yC0_lambda.cls ≠ "java/lang/invoke/MethodHandle" ∧ yC0_lambda.cls ≠ "java/lang/invoke/VarHandle" ∧ (parseMethodDescriptor yC0_lambda.desc).map (fun d => d.parameters.length) = some 5 := by decide +kernel
theorem hdC3_clear : yC3_clear.cls = RC3 ∧ yC3_clear.cls ≠ "java/lang/invoke/MethodHandle" ∧ yC3_clear.cls ≠ "java/lang/invoke/VarHandle" ∧ (parseMethodDescriptor yC3_clear.desc).map (fun d => d.parameters.length) = some 0 := by decide +kernel
theorem hdC0_wipe : yC0_wipe.cls = RC0 ∧ yC0_wipe.cls ≠ "java/lang/invoke/MethodHandle" ∧ yC0_wipe.cls ≠ "java/lang/invoke/VarHandle" ∧ (parseMethodDescriptor yC0_wipe.desc).map (fun d => d.parameters.length) = some 0 := by decide +kernel
theorem hdC4_forget : yC4_forget.cls = RC4 ∧ yC4_forget.cls ≠ "java/lang/invoke/MethodHandle" ∧ yC4_forget.cls ≠ "java/lang/invoke/VarHandle" ∧ (parseMethodDescriptor yC4_forget.desc).map (fun d => d.parameters.length) = some 0 := by decide +kernel
theorem hdC2_widthOf : yC2_widthOf.cls = RC2 ∧ yC2_widthOf.cls ≠ "java/lang/invoke/MethodHandle" ∧ yC2_widthOf.cls ≠ "java/lang/invoke/VarHandle" ∧ (parseMethodDescriptor yC2_widthOf.desc).map (fun d => d.parameters.length) = some 1 := by decide +kernel
theorem hdC3_size : yC3_size.cls = RC3 ∧ yC3_size.cls ≠ "java/lang/invoke/MethodHandle" ∧ yC3_size.cls ≠ "java/lang/invoke/VarHandle" ∧ (parseMethodDescriptor yC3_size.desc).map (fun d => d.parameters.length) = some 0 := by decide +kernel
theorem hdC3_isLambda : yC3_isLambda.cls = RC3 ∧ yC3_isLambda.cls ≠ "java/lang/invoke/MethodHandle" ∧ yC3_isLambda.cls ≠ "java/lang/invoke/VarHandle" ∧ (parseMethodDescriptor yC3_isLambda.desc).map (fun d => d.parameters.length) = some 1 := by decide +kernel
theorem hdC1_elementOf : yC1_elementOf.cls = RC1 ∧ yC1_elementOf.cls ≠ "java/lang/invoke/MethodHandle" ∧ yC1_elementOf.cls ≠ "java/lang/invoke/VarHandle" ∧ (parseMethodDescriptor yC1_elementOf.desc).map (fun d => d.parameters.length) = some 1 := by decide +kernel
theorem hdC2_facing : yC2_facing.cls = RC2 ∧ yC2_facing.cls ≠ "java/lang/invoke/MethodHandle" ∧ yC2_facing.cls ≠ "java/lang/invoke/VarHandle" ∧ (parseMethodDescriptor yC2_facing.desc).map (fun d => d.parameters.length) = some 3 := by decide +kernel
theorem hdC3_widthOf : yC3_widthOf.cls = RC3 ∧ yC3_widthOf.cls ≠ "java/lang/invoke/MethodHandle" ∧ yC3_widthOf.cls ≠ "java/lang/invoke/VarHandle" ∧ (parseMethodDescriptor yC3_widthOf.desc).map (fun d => d.parameters.length) = some 1 := by decide +kernel
theorem hdC2_hasResult : yC2_hasResult.cls = RC2 ∧ yC2_hasResult.cls ≠ "java/lang/invoke/MethodHandle" ∧ yC2_hasResult.cls ≠ "java/lang/invoke/VarHandle" ∧ (parseMethodDescriptor yC2_hasResult.desc).map (fun d => d.parameters.length) = some 1 := by decide +kernel
theorem hdC3_hasResult : yC3_hasResult.cls = RC3 ∧ yC3_hasResult.cls ≠ "java/lang/invoke/MethodHandle" ∧ yC3_hasResult.cls ≠ "java/lang/invoke/VarHandle" ∧ (parseMethodDescriptor yC3_hasResult.desc).map (fun d => d.parameters.length) = some 1 := by decide +kernel
theorem hdC4_hasShape : yC4_hasShape.cls = RC4 ∧ yC4_hasShape.cls ≠ "java/lang/invoke/MethodHandle" ∧ yC4_hasShape.cls ≠ "java/lang/invoke/VarHandle" ∧ (parseMethodDescriptor yC4_hasShape.desc).map (fun d => d.parameters.length) = some 2 := by decide +kernel
theorem hdC4_couldBeMeant : yC4_couldBeMeant.cls = RC4 ∧ yC4_couldBeMeant.cls ≠ "java/lang/invoke/MethodHandle" ∧ yC4_couldBeMeant.cls ≠ "java/lang/invoke/VarHandle" ∧ (parseMethodDescriptor yC4_couldBeMeant.desc).map (fun d => d.parameters.length) = some 1 := by decide +kernel
theorem hdC4_keepMeant : yC4_keepMeant.cls = RC4 ∧ yC4_keepMeant.cls ≠ "java/lang/invoke/MethodHandle" ∧ yC4_keepMeant.cls ≠ "java/lang/invoke/VarHandle" ∧ (parseMethodDescriptor yC4_keepMeant.desc).map (fun d => d.parameters.length) = some 0 := by decide +kernel
theorem hdC2_spreadType : yC2_spreadType.cls = RC2 ∧ yC2_spreadType.cls ≠ "java/lang/invoke/MethodHandle" ∧ yC2_spreadType.cls ≠ "java/lang/invoke/VarHandle" ∧ (parseMethodDescriptor yC2_spreadType.desc).map (fun d => d.parameters.length) = some 1 := by decide +kernel
theorem hdC3_isToldLambda : yC3_isToldLambda.cls = RC3 ∧ yC3_isToldLambda.cls ≠ "java/lang/invoke/MethodHandle" ∧ yC3_isToldLambda.cls ≠ "java/lang/invoke/VarHandle" ∧ (parseMethodDescriptor yC3_isToldLambda.desc).map (fun d => d.parameters.length) = some 1 := by decide +kernel
theorem hdC3_valueOf : yC3_valueOf.cls = RC3 ∧ yC3_valueOf.cls ≠ "java/lang/invoke/MethodHandle" ∧ yC3_valueOf.cls ≠ "java/lang/invoke/VarHandle" ∧ (parseMethodDescriptor yC3_valueOf.desc).map (fun d => d.parameters.length) = some 1 := by decide +kernel
theorem hdC2_resultOf : yC2_resultOf.cls = RC2 ∧ yC2_resultOf.cls ≠ "java/lang/invoke/MethodHandle" ∧ yC2_resultOf.cls ≠ "java/lang/invoke/VarHandle" ∧ (parseMethodDescriptor yC2_resultOf.desc).map (fun d => d.parameters.length) = some 1 := by decide +kernel
theorem hdC1_isReference : yC1_isReference.cls = RC1 ∧ yC1_isReference.cls ≠ "java/lang/invoke/MethodHandle" ∧ yC1_isReference.cls ≠ "java/lang/invoke/VarHandle" ∧ (parseMethodDescriptor yC1_isReference.desc).map (fun d => d.parameters.length) = some 1 := by decide +kernel
theorem hdC4_isFinerResult : yC4_isFinerResult.cls = RC4 ∧ yC4_isFinerResult.cls ≠ "java/lang/invoke/MethodHandle" ∧ yC4_isFinerResult.cls ≠ "java/lang/invoke/VarHandle" ∧ (parseMethodDescriptor yC4_isFinerResult.desc).map (fun d => d.parameters.length) = some 3 := by decide +kernel
theorem hdC4_isFinerFunction : yC4_isFinerFunction.cls = RC4 ∧ yC4_isFinerFunction.cls ≠ "java/lang/invoke/MethodHandle" ∧ yC4_isFinerFunction.cls ≠ "java/lang/invoke/VarHandle" ∧ (parseMethodDescriptor yC4_isFinerFunction.desc).map (fun d => d.parameters.length) = some 3 := by decide +kernel
theorem hdC4_isAsSpecialAs : yC4_isAsSpecialAs.cls = RC4 ∧ yC4_isAsSpecialAs.cls ≠ "java/lang/invoke/MethodHandle" ∧ yC4_isAsSpecialAs.cls ≠ "java/lang/invoke/VarHandle" ∧ (parseMethodDescriptor yC4_isAsSpecialAs.desc).map (fun d => d.parameters.length) = some 2 := by decide +kernel
theorem hdC4_compareAll : yC4_compareAll.cls = RC4 ∧ yC4_compareAll.cls ≠ "java/lang/invoke/MethodHandle" ∧ yC4_compareAll.cls ≠ "java/lang/invoke/VarHandle" ∧ (parseMethodDescriptor yC4_compareAll.desc).map (fun d => d.parameters.length) = some 0 := by decide +kernel
theorem hdC4_pick : yC4_pick.cls = RC4 ∧ yC4_pick.cls ≠ "java/lang/invoke/MethodHandle" ∧ yC4_pick.cls ≠ "java/lang/invoke/VarHandle" ∧ (parseMethodDescriptor yC4_pick.desc).map (fun d => d.parameters.length) = some 0 := by decide +kernel
theorem hdC3_parameterAt : yC3_parameterAt.cls = RC3 ∧ yC3_parameterAt.cls ≠ "java/lang/invoke/MethodHandle" ∧ yC3_parameterAt.cls ≠ "java/lang/invoke/VarHandle" ∧ (parseMethodDescriptor yC3_parameterAt.desc).map (fun d => d.parameters.length) = some 2 := by decide +kernel
theorem hdC4_takesTold : yC4_takesTold.cls = RC4 ∧ yC4_takesTold.cls ≠ "java/lang/invoke/MethodHandle" ∧ yC4_takesTold.cls ≠ "java/lang/invoke/VarHandle" ∧ (parseMethodDescriptor yC4_takesTold.desc).map (fun d => d.parameters.length) = some 3 := by decide +kernel
theorem hdC4_takes : yC4_takes.cls = RC4 ∧ yC4_takes.cls ≠ "java/lang/invoke/MethodHandle" ∧ yC4_takes.cls ≠ "java/lang/invoke/VarHandle" ∧ (parseMethodDescriptor yC4_takes.desc).map (fun d => d.parameters.length) = some 3 := by decide +kernel
theorem hdC4_applies : yC4_applies.cls = RC4 ∧ yC4_applies.cls ≠ "java/lang/invoke/MethodHandle" ∧ yC4_applies.cls ≠ "java/lang/invoke/VarHandle" ∧ (parseMethodDescriptor yC4_applies.desc).map (fun d => d.parameters.length) = some 2 := by decide +kernel
theorem hdC4_findApplying : yC4_findApplying.cls = RC4 ∧ yC4_findApplying.cls ≠ "java/lang/invoke/MethodHandle" ∧ yC4_findApplying.cls ≠ "java/lang/invoke/VarHandle" ∧ (parseMethodDescriptor yC4_findApplying.desc).map (fun d => d.parameters.length) = some 1 := by decide +kernel
theorem hdC4_decide : yC4_decide.cls = RC4 ∧ yC4_decide.cls ≠ "java/lang/invoke/MethodHandle" ∧ yC4_decide.cls ≠ "java/lang/invoke/VarHandle" ∧ (parseMethodDescriptor yC4_decide.desc).map (fun d => d.parameters.length) = some 3 := by decide +kernel
theorem hdC0_choose : yC0_choose.cls = RC0 ∧ yC0_choose.cls ≠ "java/lang/invoke/MethodHandle" ∧ yC0_choose.cls ≠ "java/lang/invoke/VarHandle" ∧ (parseMethodDescriptor yC0_choose.desc).map (fun d => d.parameters.length) = some 4 := by decide +kernel
theorem hdC4_phaseReached : yC4_phaseReached.cls = RC4 ∧ yC4_phaseReached.cls ≠ "java/lang/invoke/MethodHandle" ∧ yC4_phaseReached.cls ≠ "java/lang/invoke/VarHandle" ∧ (parseMethodDescriptor yC4_phaseReached.desc).map (fun d => d.parameters.length) = some 0 := by decide +kernel
theorem hdC0_phase : yC0_phase.cls = RC0 ∧ yC0_phase.cls ≠ "java/lang/invoke/MethodHandle" ∧ yC0_phase.cls ≠ "java/lang/invoke/VarHandle" ∧ (parseMethodDescriptor yC0_phase.desc).map (fun d => d.parameters.length) = some 0 := by decide +kernel
theorem hdC4_applyingAt : yC4_applyingAt.cls = RC4 ∧ yC4_applyingAt.cls ≠ "java/lang/invoke/MethodHandle" ∧ yC4_applyingAt.cls ≠ "java/lang/invoke/VarHandle" ∧ (parseMethodDescriptor yC4_applyingAt.desc).map (fun d => d.parameters.length) = some 1 := by decide +kernel
theorem hdC0_applied : yC0_applied.cls = RC0 ∧ yC0_applied.cls ≠ "java/lang/invoke/MethodHandle" ∧ yC0_applied.cls ≠ "java/lang/invoke/VarHandle" ∧ (parseMethodDescriptor yC0_applied.desc).map (fun d => d.parameters.length) = some 1 := by decide +kernel
theorem hdC4_didApply : yC4_didApply.cls = RC4 ∧ yC4_didApply.cls ≠ "java/lang/invoke/MethodHandle" ∧ yC4_didApply.cls ≠ "java/lang/invoke/VarHandle" ∧ (parseMethodDescriptor yC4_didApply.desc).map (fun d => d.parameters.length) = some 1 := by decide +kernel
theorem hdC4_compared : yC4_compared.cls = RC4 ∧ yC4_compared.cls ≠ "java/lang/invoke/MethodHandle" ∧ yC4_compared.cls ≠ "java/lang/invoke/VarHandle" ∧ (parseMethodDescriptor yC4_compared.desc).map (fun d => d.parameters.length) = some 2 := by decide +kernel
theorem hdC0_special : yC0_special.cls = RC0 ∧ yC0_special.cls ≠ "java/lang/invoke/MethodHandle" ∧ yC0_special.cls ≠ "java/lang/invoke/VarHandle" ∧ (parseMethodDescriptor yC0_special.desc).map (fun d => d.parameters.length) = some 2 := by decide +kernel
theorem hdC2_size : yC2_size.cls = RC2 ∧ yC2_size.cls ≠ "java/lang/invoke/MethodHandle" ∧ yC2_size.cls ≠ "java/lang/invoke/VarHandle" ∧ (parseMethodDescriptor yC2_size.desc).map (fun d => d.parameters.length) = some 0 := by decide +kernel
theorem hdC0_count : yC0_count.cls = RC0 ∧ yC0_count.cls ≠ "java/lang/invoke/MethodHandle" ∧ yC0_count.cls ≠ "java/lang/invoke/VarHandle" ∧ (parseMethodDescriptor yC0_count.desc).map (fun d => d.parameters.length) = some 1 := by decide +kernel
theorem hdCM_forgetFunctions : yCM_forgetFunctions.cls = RCM ∧ yCM_forgetFunctions.cls ≠ "java/lang/invoke/MethodHandle" ∧ yCM_forgetFunctions.cls ≠ "java/lang/invoke/VarHandle" ∧ (parseMethodDescriptor yCM_forgetFunctions.desc).map (fun d => d.parameters.length) = some 0 := by decide +kernel
theorem hdCM_closeTypes : yCM_closeTypes.cls = RCM ∧ yCM_closeTypes.cls ≠ "java/lang/invoke/MethodHandle" ∧ yCM_closeTypes.cls ≠ "java/lang/invoke/VarHandle" ∧ (parseMethodDescriptor yCM_closeTypes.desc).map (fun d => d.parameters.length) = some 0 := by decide +kernel
theorem hdCM_isTold : yCM_isTold.cls = RCM ∧ yCM_isTold.cls ≠ "java/lang/invoke/MethodHandle" ∧ yCM_isTold.cls ≠ "java/lang/invoke/VarHandle" ∧ (parseMethodDescriptor yCM_isTold.desc).map (fun d => d.parameters.length) = some 1 := by decide +kernel
theorem hdCM_cls : yCM_cls.cls = RCM ∧ yCM_cls.cls ≠ "java/lang/invoke/MethodHandle" ∧ yCM_cls.cls ≠ "java/lang/invoke/VarHandle" ∧ (parseMethodDescriptor yCM_cls.desc).map (fun d => d.parameters.length) = some 1 := by decide +kernel
theorem hdCM_face : yCM_face.cls = RCM ∧ yCM_face.cls ≠ "java/lang/invoke/MethodHandle" ∧ yCM_face.cls ≠ "java/lang/invoke/VarHandle" ∧ (parseMethodDescriptor yCM_face.desc).map (fun d => d.parameters.length) = some 0 := by decide +kernel
theorem hdCM_below : yCM_below.cls = RCM ∧ yCM_below.cls ≠ "java/lang/invoke/MethodHandle" ∧ yCM_below.cls ≠ "java/lang/invoke/VarHandle" ∧ (parseMethodDescriptor yCM_below.desc).map (fun d => d.parameters.length) = some 2 := by decide +kernel
theorem hdCM_isPlain : yCM_isPlain.cls = RCM ∧ yCM_isPlain.cls ≠ "java/lang/invoke/MethodHandle" ∧ yCM_isPlain.cls ≠ "java/lang/invoke/VarHandle" ∧ (parseMethodDescriptor yCM_isPlain.desc).map (fun d => d.parameters.length) = some 1 := by decide +kernel
theorem hdCM_isType : yCM_isType.cls = RCM ∧ yCM_isType.cls ≠ "java/lang/invoke/MethodHandle" ∧ yCM_isType.cls ≠ "java/lang/invoke/VarHandle" ∧ (parseMethodDescriptor yCM_isType.desc).map (fun d => d.parameters.length) = some 1 := by decide +kernel
theorem hdCM_isPrimitive : yCM_isPrimitive.cls ≠ "java/lang/invoke/MethodHandle" ∧ yCM_isPrimitive.cls ≠ "java/lang/invoke/VarHandle" ∧ (parseMethodDescriptor yCM_isPrimitive.desc).map (fun d => d.parameters.length) = some 1 := by decide +kernel
theorem hdCM_plainIs : yCM_plainIs.cls = RCM ∧ yCM_plainIs.cls ≠ "java/lang/invoke/MethodHandle" ∧ yCM_plainIs.cls ≠ "java/lang/invoke/VarHandle" ∧ (parseMethodDescriptor yCM_plainIs.desc).map (fun d => d.parameters.length) = some 2 := by decide +kernel
theorem hdCM_isIt : yCM_isIt.cls = RCM ∧ yCM_isIt.cls ≠ "java/lang/invoke/MethodHandle" ∧ yCM_isIt.cls ≠ "java/lang/invoke/VarHandle" ∧ (parseMethodDescriptor yCM_isIt.desc).map (fun d => d.parameters.length) = some 2 := by decide +kernel
theorem hdCM_is : yCM_is.cls = RCM ∧ yCM_is.cls ≠ "java/lang/invoke/MethodHandle" ∧ yCM_is.cls ≠ "java/lang/invoke/VarHandle" ∧ (parseMethodDescriptor yCM_is.desc).map (fun d => d.parameters.length) = some 2 := by decide +kernel
theorem hdCM_isBox : yCM_isBox.cls ≠ "java/lang/invoke/MethodHandle" ∧ yCM_isBox.cls ≠ "java/lang/invoke/VarHandle" ∧ (parseMethodDescriptor yCM_isBox.desc).map (fun d => d.parameters.length) = some 1 := by decide +kernel
theorem hdCM_fitsIt : yCM_fitsIt.cls = RCM ∧ yCM_fitsIt.cls ≠ "java/lang/invoke/MethodHandle" ∧ yCM_fitsIt.cls ≠ "java/lang/invoke/VarHandle" ∧ (parseMethodDescriptor yCM_fitsIt.desc).map (fun d => d.parameters.length) = some 2 := by decide +kernel
theorem hdCM_fits : yCM_fits.cls = RCM ∧ yCM_fits.cls ≠ "java/lang/invoke/MethodHandle" ∧ yCM_fits.cls ≠ "java/lang/invoke/VarHandle" ∧ (parseMethodDescriptor yCM_fits.desc).map (fun d => d.parameters.length) = some 2 := by decide +kernel
theorem hdCM_parameter : yCM_parameter.cls ≠ "java/lang/invoke/MethodHandle" ∧ yCM_parameter.cls ≠ "java/lang/invoke/VarHandle" ∧ (parseMethodDescriptor yCM_parameter.desc).map (fun d => d.parameters.length) = some 5 := by decide +kernel
theorem hdCM_isValue : yCM_isValue.cls = RCM ∧ yCM_isValue.cls ≠ "java/lang/invoke/MethodHandle" ∧ yCM_isValue.cls ≠ "java/lang/invoke/VarHandle" ∧ (parseMethodDescriptor yCM_isValue.desc).map (fun d => d.parameters.length) = some 1 := by decide +kernel
theorem hdCM_isName : yCM_isName.cls ≠ "java/lang/invoke/MethodHandle" ∧ yCM_isName.cls ≠ "java/lang/invoke/VarHandle" ∧ (parseMethodDescriptor yCM_isName.desc).map (fun d => d.parameters.length) = some 1 := by decide +kernel
theorem hdCM_member : yCM_member.cls = RCM ∧ yCM_member.cls ≠ "java/lang/invoke/MethodHandle" ∧ yCM_member.cls ≠ "java/lang/invoke/VarHandle" ∧ (parseMethodDescriptor yCM_member.desc).map (fun d => d.parameters.length) = some 9 := by decide +kernel
theorem hdCM_has : yCM_has.cls = RCM ∧ yCM_has.cls ≠ "java/lang/invoke/MethodHandle" ∧ yCM_has.cls ≠ "java/lang/invoke/VarHandle" ∧ (parseMethodDescriptor yCM_has.desc).map (fun d => d.parameters.length) = some 2 := by decide +kernel
theorem hdCM_sameParams : yCM_sameParams.cls = RCM ∧ yCM_sameParams.cls ≠ "java/lang/invoke/MethodHandle" ∧ yCM_sameParams.cls ≠ "java/lang/invoke/VarHandle" ∧ (parseMethodDescriptor yCM_sameParams.desc).map (fun d => d.parameters.length) = some 2 := by decide +kernel
theorem hdCM_isSeen : yCM_isSeen.cls = RCM ∧ yCM_isSeen.cls ≠ "java/lang/invoke/MethodHandle" ∧ yCM_isSeen.cls ≠ "java/lang/invoke/VarHandle" ∧ (parseMethodDescriptor yCM_isSeen.desc).map (fun d => d.parameters.length) = some 3 := by decide +kernel
theorem hdCM_findFunction : yCM_findFunction.cls = RCM ∧ yCM_findFunction.cls ≠ "java/lang/invoke/MethodHandle" ∧ yCM_findFunction.cls ≠ "java/lang/invoke/VarHandle" ∧ (parseMethodDescriptor yCM_findFunction.desc).map (fun d => d.parameters.length) = some 1 := by decide +kernel
theorem hdCM_functionOf : yCM_functionOf.cls = RCM ∧ yCM_functionOf.cls ≠ "java/lang/invoke/MethodHandle" ∧ yCM_functionOf.cls ≠ "java/lang/invoke/VarHandle" ∧ (parseMethodDescriptor yCM_functionOf.desc).map (fun d => d.parameters.length) = some 1 := by decide +kernel
theorem hdCM_function : yCM_function.cls = RCM ∧ yCM_function.cls ≠ "java/lang/invoke/MethodHandle" ∧ yCM_function.cls ≠ "java/lang/invoke/VarHandle" ∧ (parseMethodDescriptor yCM_function.desc).map (fun d => d.parameters.length) = some 1 := by decide +kernel
theorem hdCM_isAsked : yCM_isAsked.cls = RCM ∧ yCM_isAsked.cls ≠ "java/lang/invoke/MethodHandle" ∧ yCM_isAsked.cls ≠ "java/lang/invoke/VarHandle" ∧ (parseMethodDescriptor yCM_isAsked.desc).map (fun d => d.parameters.length) = some 3 := by decide +kernel
theorem hdCM_seen : yCM_seen.cls = RCM ∧ yCM_seen.cls ≠ "java/lang/invoke/MethodHandle" ∧ yCM_seen.cls ≠ "java/lang/invoke/VarHandle" ∧ (parseMethodDescriptor yCM_seen.desc).map (fun d => d.parameters.length) = some 3 := by decide +kernel
theorem hdCM_seenAt : yCM_seenAt.cls = RCM ∧ yCM_seenAt.cls ≠ "java/lang/invoke/MethodHandle" ∧ yCM_seenAt.cls ≠ "java/lang/invoke/VarHandle" ∧ (parseMethodDescriptor yCM_seenAt.desc).map (fun d => d.parameters.length) = some 4 := by decide +kernel
theorem hdCM_argument : yCM_argument.cls = RCM ∧ yCM_argument.cls ≠ "java/lang/invoke/MethodHandle" ∧ yCM_argument.cls ≠ "java/lang/invoke/VarHandle" ∧ (parseMethodDescriptor yCM_argument.desc).map (fun d => d.parameters.length) = some 1 := by decide +kernel
theorem hdCM_lambda : yCM_lambda.cls = RCM ∧ yCM_lambda.cls ≠ "java/lang/invoke/MethodHandle" ∧ yCM_lambda.cls ≠ "java/lang/invoke/VarHandle" ∧ (parseMethodDescriptor yCM_lambda.desc).map (fun d => d.parameters.length) = some 5 := by decide +kernel
theorem hdCM_wipe : yCM_wipe.cls = RCM ∧ yCM_wipe.cls ≠ "java/lang/invoke/MethodHandle" ∧ yCM_wipe.cls ≠ "java/lang/invoke/VarHandle" ∧ (parseMethodDescriptor yCM_wipe.desc).map (fun d => d.parameters.length) = some 0 := by decide +kernel
theorem hdCM_mostSpecial : yCM_mostSpecial.cls = RCM ∧ yCM_mostSpecial.cls ≠ "java/lang/invoke/MethodHandle" ∧ yCM_mostSpecial.cls ≠ "java/lang/invoke/VarHandle" ∧ (parseMethodDescriptor yCM_mostSpecial.desc).map (fun d => d.parameters.length) = some 0 := by decide +kernel
theorem hdCM_typeAt : yCM_typeAt.cls = RCM ∧ yCM_typeAt.cls ≠ "java/lang/invoke/MethodHandle" ∧ yCM_typeAt.cls ≠ "java/lang/invoke/VarHandle" ∧ (parseMethodDescriptor yCM_typeAt.desc).map (fun d => d.parameters.length) = some 3 := by decide +kernel
theorem hdCM_isFiner : yCM_isFiner.cls = RCM ∧ yCM_isFiner.cls ≠ "java/lang/invoke/MethodHandle" ∧ yCM_isFiner.cls ≠ "java/lang/invoke/VarHandle" ∧ (parseMethodDescriptor yCM_isFiner.desc).map (fun d => d.parameters.length) = some 3 := by decide +kernel
theorem hdCM_isSpecial : yCM_isSpecial.cls = RCM ∧ yCM_isSpecial.cls ≠ "java/lang/invoke/MethodHandle" ∧ yCM_isSpecial.cls ≠ "java/lang/invoke/VarHandle" ∧ (parseMethodDescriptor yCM_isSpecial.desc).map (fun d => d.parameters.length) = some 2 := by decide +kernel
theorem hdCM_hasShape : yCM_hasShape.cls = RCM ∧ yCM_hasShape.cls ≠ "java/lang/invoke/MethodHandle" ∧ yCM_hasShape.cls ≠ "java/lang/invoke/VarHandle" ∧ (parseMethodDescriptor yCM_hasShape.desc).map (fun d => d.parameters.length) = some 2 := by decide +kernel
theorem hdCM_passes : yCM_passes.cls = RCM ∧ yCM_passes.cls ≠ "java/lang/invoke/MethodHandle" ∧ yCM_passes.cls ≠ "java/lang/invoke/VarHandle" ∧ (parseMethodDescriptor yCM_passes.desc).map (fun d => d.parameters.length) = some 3 := by decide +kernel
theorem hdCM_takes : yCM_takes.cls = RCM ∧ yCM_takes.cls ≠ "java/lang/invoke/MethodHandle" ∧ yCM_takes.cls ≠ "java/lang/invoke/VarHandle" ∧ (parseMethodDescriptor yCM_takes.desc).map (fun d => d.parameters.length) = some 3 := by decide +kernel
theorem hdCM_doesApply : yCM_doesApply.cls = RCM ∧ yCM_doesApply.cls ≠ "java/lang/invoke/MethodHandle" ∧ yCM_doesApply.cls ≠ "java/lang/invoke/VarHandle" ∧ (parseMethodDescriptor yCM_doesApply.desc).map (fun d => d.parameters.length) = some 2 := by decide +kernel
theorem hdCM_isMeant : yCM_isMeant.cls = RCM ∧ yCM_isMeant.cls ≠ "java/lang/invoke/MethodHandle" ∧ yCM_isMeant.cls ≠ "java/lang/invoke/VarHandle" ∧ (parseMethodDescriptor yCM_isMeant.desc).map (fun d => d.parameters.length) = some 1 := by decide +kernel
theorem hdCM_choose : yCM_choose.cls = RCM ∧ yCM_choose.cls ≠ "java/lang/invoke/MethodHandle" ∧ yCM_choose.cls ≠ "java/lang/invoke/VarHandle" ∧ (parseMethodDescriptor yCM_choose.desc).map (fun d => d.parameters.length) = some 4 := by decide +kernel
theorem hdCM_phase : yCM_phase.cls = RCM ∧ yCM_phase.cls ≠ "java/lang/invoke/MethodHandle" ∧ yCM_phase.cls ≠ "java/lang/invoke/VarHandle" ∧ (parseMethodDescriptor yCM_phase.desc).map (fun d => d.parameters.length) = some 0 := by decide +kernel
theorem hdCM_applied : yCM_applied.cls = RCM ∧ yCM_applied.cls ≠ "java/lang/invoke/MethodHandle" ∧ yCM_applied.cls ≠ "java/lang/invoke/VarHandle" ∧ (parseMethodDescriptor yCM_applied.desc).map (fun d => d.parameters.length) = some 1 := by decide +kernel
theorem hdCM_special : yCM_special.cls = RCM ∧ yCM_special.cls ≠ "java/lang/invoke/MethodHandle" ∧ yCM_special.cls ≠ "java/lang/invoke/VarHandle" ∧ (parseMethodDescriptor yCM_special.desc).map (fun d => d.parameters.length) = some 2 := by decide +kernel
theorem hdCM_count : yCM_count.cls = RCM ∧ yCM_count.cls ≠ "java/lang/invoke/MethodHandle" ∧ yCM_count.cls ≠ "java/lang/invoke/VarHandle" ∧ (parseMethodDescriptor yCM_count.desc).map (fun d => d.parameters.length) = some 1 := by decide +kernel
abbrev cJA_fill : ByteArray := prog_12_method_103_code
def yJA_fill : MethodName := ⟨RJA, "fill", "([II)V"⟩
def wsJA_fill : List Cond := .code yJA_fill cJA_fill 4 none :: wAll
abbrev cJA_copyOf : ByteArray := prog_12_method_124_code
def yJA_copyOf : MethodName := ⟨RJA, "copyOf", "([JI)[J"⟩
def wsJA_copyOf : List Cond := .code yJA_copyOf cJA_copyOf 3 (some (.array .long)) :: wAll
abbrev cC3_init : ByteArray := prog_2_method_1_code
def yC3_init : MethodName := ⟨RC3, "<init>", "()V"⟩
def wsC3_init : List Cond := .code yC3_init cC3_init 1 none :: wAll
abbrev cC4_init : ByteArray := prog_3_method_1_code
def yC4_init : MethodName := ⟨RC4, "<init>", "(LMemberChoice$Types;LMemberChoice$Members;LMemberChoice$Arguments;)V"⟩
def wsC4_init : List Cond := .code yC4_init cC4_init 4 none :: wAll
abbrev cC2_init : ByteArray := prog_4_method_1_code
def yC2_init : MethodName := ⟨RC2, "<init>", "(LMemberChoice$Types;)V"⟩
def wsC2_init : List Cond := .code yC2_init cC2_init 2 none :: wAll
abbrev cC1_init : ByteArray := prog_5_method_1_code
def yC1_init : MethodName := ⟨RC1, "<init>", "()V"⟩
def wsC1_init : List Cond := .code yC1_init cC1_init 1 none :: wAll
abbrev cC0_init : ByteArray := prog_1_method_1_code
def yC0_init : MethodName := ⟨RC0, "<init>", "()V"⟩
def wsC0_init : List Cond := .code yC0_init cC0_init 1 none :: wAll
abbrev cCM_init : ByteArray := prog_7_method_1_code
def yCM_init : MethodName := ⟨RCM, "<init>", "()V"⟩
def wsCM_init : List Cond := .code yCM_init cCM_init 1 none :: wAll
theorem hdJA_fill : yJA_fill.cls ≠ "java/lang/invoke/MethodHandle" ∧ yJA_fill.cls ≠ "java/lang/invoke/VarHandle" ∧ (parseMethodDescriptor yJA_fill.desc).map (fun d => d.parameters.length) = some 2 := by decide +kernel
theorem hdJA_copyOf : yJA_copyOf.cls ≠ "java/lang/invoke/MethodHandle" ∧ yJA_copyOf.cls ≠ "java/lang/invoke/VarHandle" ∧ (parseMethodDescriptor yJA_copyOf.desc).map (fun d => d.parameters.length) = some 2 := by decide +kernel
theorem tb_1 : ∀ w ∈ tables_1_1, w ∈ lw_tbl := fun w h => List.mem_append_right _ (List.mem_append_left _ h)
theorem tb_2 : ∀ w ∈ tables_1_2, w ∈ lw_tbl := fun w h => List.mem_append_right _ (List.mem_append_right _ (List.mem_append_left _ h))
theorem tb_3 : ∀ w ∈ tables_1_3, w ∈ lw_tbl := fun w h => List.mem_append_right _ (List.mem_append_right _ (List.mem_append_right _ (List.mem_append_left _ h)))
theorem tb_4 : ∀ w ∈ tables_1_4, w ∈ lw_tbl := fun w h => List.mem_append_right _ (List.mem_append_right _ (List.mem_append_right _ (List.mem_append_right _ (h))))
theorem ps_1 : ∀ w ∈ k2_sels lw_privs_1, w ∈ lw_tbl := fun w h => List.mem_append_left _ (by
  obtain ⟨q, hq, rfl⟩ := List.mem_map.mp h
  exact List.mem_map.mpr ⟨q, (List.mem_append_left _ hq), rfl⟩)
theorem ps_2 : ∀ w ∈ k2_sels lw_privs_2, w ∈ lw_tbl := fun w h => List.mem_append_left _ (by
  obtain ⟨q, hq, rfl⟩ := List.mem_map.mp h
  exact List.mem_map.mpr ⟨q, (List.mem_append_right _ (List.mem_append_left _ hq)), rfl⟩)
theorem ps_3 : ∀ w ∈ k2_sels lw_privs_3, w ∈ lw_tbl := fun w h => List.mem_append_left _ (by
  obtain ⟨q, hq, rfl⟩ := List.mem_map.mp h
  exact List.mem_map.mpr ⟨q, (List.mem_append_right _ (List.mem_append_right _ (hq))), rfl⟩)
theorem mw_0 : .fieldLink RC0 10 "MemberChoice" "types" "LMemberChoice$Types;" ∈ wAll := wa (tb_1 _ (List.mem_of_getElem? (i := 161) rfl)) rfl
theorem mw_1 : .fieldLink RC1 32 "MemberChoice$Types" "told" "I" ∈ wAll := wa (tb_1 _ (List.mem_of_getElem? (i := 46) rfl)) rfl
theorem mw_2 : .fieldLink RC1 21 "MemberChoice$Types" "above" "[J" ∈ wAll := wa (tb_1 _ (List.mem_of_getElem? (i := 43) rfl)) rfl
theorem mw_3 : .fieldLink RC1 28 "MemberChoice$Types" "interfaces" "[Z" ∈ wAll := wa (tb_1 _ (List.mem_of_getElem? (i := 45) rfl)) rfl
theorem mw_4 : .methodLink RC0 52 yC1_add ∈ wAll := wa (tb_1 _ (List.mem_of_getElem? (i := 190) rfl)) rfl
theorem mw_5 : .instanceMethod yC1_add ∈ wAll := wa (tb_1 _ (List.mem_of_getElem? (i := 191) rfl)) rfl
theorem mw_6 : .selects RC1 yC1_add yC1_add ∈ wAll := wa (tb_1 _ (List.mem_of_getElem? (i := 192) rfl)) rfl
theorem mw_7 : .initialized RC1 ∈ wAll := wa (tb_1 _ (List.mem_of_getElem? (i := 2) rfl)) rfl
theorem mw_8 : .code yC1_add cC1_add 4 (some .int) ∈ wAll := wa (tb_1 _ (List.mem_of_getElem? (i := 193) rfl)) rfl
theorem mw_9 : .methodLink RC0 45 yC1_isTold ∈ wAll := wa (tb_1 _ (List.mem_of_getElem? (i := 181) rfl)) rfl
theorem mw_10 : .instanceMethod yC1_isTold ∈ wAll := wa (tb_1 _ (List.mem_of_getElem? (i := 182) rfl)) rfl
theorem mw_11 : .selects RC1 yC1_isTold yC1_isTold ∈ wAll := wa (tb_1 _ (List.mem_of_getElem? (i := 183) rfl)) rfl
theorem mw_12 : .code yC1_isTold cC1_isTold 2 (some .boolean) ∈ wAll := wa (tb_1 _ (List.mem_of_getElem? (i := 184) rfl)) rfl
theorem mw_13 : .methodLink RC1 36 yC1_isTold ∈ wAll := wa (tb_1 _ (List.mem_of_getElem? (i := 189) rfl)) rfl
theorem mw_14 : .methodLink RC0 49 yC1_isInterface ∈ wAll := wa (tb_1 _ (List.mem_of_getElem? (i := 185) rfl)) rfl
theorem mw_15 : .instanceMethod yC1_isInterface ∈ wAll := wa (tb_1 _ (List.mem_of_getElem? (i := 186) rfl)) rfl
theorem mw_16 : .selects RC1 yC1_isInterface yC1_isInterface ∈ wAll := wa (tb_1 _ (List.mem_of_getElem? (i := 187) rfl)) rfl
theorem mw_17 : .code yC1_isInterface cC1_isInterface 2 (some .boolean) ∈ wAll := wa (tb_1 _ (List.mem_of_getElem? (i := 188) rfl)) rfl
theorem mw_18 : .methodLink RC1 49 yC1_isInterface ∈ wAll := wa (tb_1 _ (List.mem_of_getElem? (i := 206) rfl)) rfl
theorem mw_19 : .fieldLink RC1 24 "MemberChoice$Types" "toldFaces" "[I" ∈ wAll := wa (tb_1 _ (List.mem_of_getElem? (i := 44) rfl)) rfl
theorem mw_20 : .constant RJI 265 1431655765 ∈ wAll := wa (tb_1 _ (List.mem_of_getElem? (i := 210) rfl)) rfl
theorem mw_21 : .constant RJI 266 858993459 ∈ wAll := wa (tb_1 _ (List.mem_of_getElem? (i := 211) rfl)) rfl
theorem mw_22 : .constant RJI 267 252645135 ∈ wAll := wa (tb_1 _ (List.mem_of_getElem? (i := 212) rfl)) rfl
theorem mw_23 : .methodLink RC1 52 yJI_bitCount ∈ wAll := wa (tb_1 _ (List.mem_of_getElem? (i := 207) rfl)) rfl
theorem mw_24 : .static yJI_bitCount ∈ wAll := wa (tb_1 _ (List.mem_of_getElem? (i := 208) rfl)) rfl
theorem mw_25 : .initialized RJI ∈ wAll := wa (tb_1 _ (List.mem_of_getElem? (i := 10) rfl)) rfl
theorem mw_26 : .code yJI_bitCount cJI_bitCount 1 (some .int) ∈ wAll := wa (tb_1 _ (List.mem_of_getElem? (i := 209) rfl)) rfl
theorem mw_27 : .methodLink RC1 58 yC1_isA ∈ wAll := wa (tb_1 _ (List.mem_of_getElem? (i := 213) rfl)) rfl
theorem mw_28 : .instanceMethod yC1_isA ∈ wAll := wa (tb_1 _ (List.mem_of_getElem? (i := 214) rfl)) rfl
theorem mw_29 : .selects RC1 yC1_isA yC1_isA ∈ wAll := wa (tb_1 _ (List.mem_of_getElem? (i := 215) rfl)) rfl
theorem mw_30 : .code yC1_isA cC1_isA 6 (some .boolean) ∈ wAll := wa (tb_1 _ (List.mem_of_getElem? (i := 216) rfl)) rfl
theorem mw_31 : .methodLink RC0 56 yC1_putBelow ∈ wAll := wa (tb_1 _ (List.mem_of_getElem? (i := 202) rfl)) rfl
theorem mw_32 : .instanceMethod yC1_putBelow ∈ wAll := wa (tb_1 _ (List.mem_of_getElem? (i := 203) rfl)) rfl
theorem mw_33 : .selects RC1 yC1_putBelow yC1_putBelow ∈ wAll := wa (tb_1 _ (List.mem_of_getElem? (i := 204) rfl)) rfl
theorem mw_34 : .code yC1_putBelow cC1_putBelow 7 (some .int) ∈ wAll := wa (tb_1 _ (List.mem_of_getElem? (i := 205) rfl)) rfl
theorem mw_35 : .fieldLink RC0 21 "MemberChoice" "members" "LMemberChoice$Members;" ∈ wAll := wa (tb_1 _ (List.mem_of_getElem? (i := 162) rfl)) rfl
theorem mw_36 : .fieldLink RC2 121 "MemberChoice$Members" "functionsSettled" "Z" ∈ wAll := wa (tb_1 _ (List.mem_of_getElem? (i := 76) rfl)) rfl
theorem mw_37 : .methodLink RC0 60 yC2_forgetFunctions ∈ wAll := wa (tb_1 _ (List.mem_of_getElem? (i := 217) rfl)) rfl
theorem mw_38 : .instanceMethod yC2_forgetFunctions ∈ wAll := wa (tb_1 _ (List.mem_of_getElem? (i := 218) rfl)) rfl
theorem mw_39 : .selects RC2 yC2_forgetFunctions yC2_forgetFunctions ∈ wAll := wa (tb_1 _ (List.mem_of_getElem? (i := 219) rfl)) rfl
theorem mw_40 : .initialized RC2 ∈ wAll := wa (tb_1 _ (List.mem_of_getElem? (i := 6) rfl)) rfl
theorem mw_41 : .code yC2_forgetFunctions cC2_forgetFunctions 1 none ∈ wAll := wa (tb_1 _ (List.mem_of_getElem? (i := 220) rfl)) rfl
theorem mw_42 : .fieldLink RC2 15 "MemberChoice$Members" "owners" "[I" ∈ wAll := wa (tb_1 _ (List.mem_of_getElem? (i := 69) rfl)) rfl
theorem mw_43 : .fieldLink RC2 45 "MemberChoice$Members" "size" "I" ∈ wAll := wa (tb_1 _ (List.mem_of_getElem? (i := 77) rfl)) rfl
theorem mw_44 : .fieldLink RC2 19 "MemberChoice$Members" "names" "[I" ∈ wAll := wa (tb_1 _ (List.mem_of_getElem? (i := 70) rfl)) rfl
theorem mw_45 : .fieldLink RC2 22 "MemberChoice$Members" "marks" "[I" ∈ wAll := wa (tb_1 _ (List.mem_of_getElem? (i := 71) rfl)) rfl
theorem mw_46 : .fieldLink RC2 25 "MemberChoice$Members" "results" "[I" ∈ wAll := wa (tb_1 _ (List.mem_of_getElem? (i := 72) rfl)) rfl
theorem mw_47 : .methodLink RC0 63 yC2_draftHead ∈ wAll := wa (tb_1 _ (List.mem_of_getElem? (i := 225) rfl)) rfl
theorem mw_48 : .instanceMethod yC2_draftHead ∈ wAll := wa (tb_1 _ (List.mem_of_getElem? (i := 226) rfl)) rfl
theorem mw_49 : .selects RC2 yC2_draftHead yC2_draftHead ∈ wAll := wa (tb_1 _ (List.mem_of_getElem? (i := 227) rfl)) rfl
theorem mw_50 : .code yC2_draftHead cC2_draftHead 5 none ∈ wAll := wa (tb_1 _ (List.mem_of_getElem? (i := 228) rfl)) rfl
theorem mw_51 : .fieldLink RC2 28 "MemberChoice$Members" "widths" "[I" ∈ wAll := wa (tb_1 _ (List.mem_of_getElem? (i := 73) rfl)) rfl
theorem mw_52 : .fieldLink RC2 31 "MemberChoice$Members" "parameters" "[I" ∈ wAll := wa (tb_1 _ (List.mem_of_getElem? (i := 74) rfl)) rfl
theorem mw_53 : .methodLink RC0 67 yC2_draftParameters ∈ wAll := wa (tb_1 _ (List.mem_of_getElem? (i := 229) rfl)) rfl
theorem mw_54 : .instanceMethod yC2_draftParameters ∈ wAll := wa (tb_1 _ (List.mem_of_getElem? (i := 230) rfl)) rfl
theorem mw_55 : .selects RC2 yC2_draftParameters yC2_draftParameters ∈ wAll := wa (tb_1 _ (List.mem_of_getElem? (i := 231) rfl)) rfl
theorem mw_56 : .code yC2_draftParameters cC2_draftParameters 7 none ∈ wAll := wa (tb_1 _ (List.mem_of_getElem? (i := 232) rfl)) rfl
theorem mw_57 : .fieldLink RC2 9 "MemberChoice$Members" "types" "LMemberChoice$Types;" ∈ wAll := wa (tb_1 _ (List.mem_of_getElem? (i := 68) rfl)) rfl
theorem mw_58 : .methodLink RC2 62 yC1_isTold ∈ wAll := wa (tb_2 _ (List.mem_of_getElem? (i := 1) rfl)) rfl
theorem mw_59 : .methodLink RC2 71 yC1_isInterface ∈ wAll := wa (tb_2 _ (List.mem_of_getElem? (i := 6) rfl)) rfl
theorem mw_60 : .methodLink RC2 77 yC2_isAbstract ∈ wAll := wa (tb_2 _ (List.mem_of_getElem? (i := 11) rfl)) rfl
theorem mw_61 : .instanceMethod yC2_isAbstract ∈ wAll := wa (tb_2 _ (List.mem_of_getElem? (i := 12) rfl)) rfl
theorem mw_62 : .selects RC2 yC2_isAbstract yC2_isAbstract ∈ wAll := wa (tb_2 _ (List.mem_of_getElem? (i := 13) rfl)) rfl
theorem mw_63 : .code yC2_isAbstract cC2_isAbstract 2 (some .boolean) ∈ wAll := wa (tb_2 _ (List.mem_of_getElem? (i := 14) rfl)) rfl
theorem mw_64 : .methodLink RC2 80 yC2_isStatic ∈ wAll := wa (tb_2 _ (List.mem_of_getElem? (i := 15) rfl)) rfl
theorem mw_65 : .instanceMethod yC2_isStatic ∈ wAll := wa (tb_2 _ (List.mem_of_getElem? (i := 16) rfl)) rfl
theorem mw_66 : .selects RC2 yC2_isStatic yC2_isStatic ∈ wAll := wa (tb_2 _ (List.mem_of_getElem? (i := 17) rfl)) rfl
theorem mw_67 : .code yC2_isStatic cC2_isStatic 2 (some .boolean) ∈ wAll := wa (tb_2 _ (List.mem_of_getElem? (i := 18) rfl)) rfl
theorem mw_68 : .methodLink RC2 74 yC2_isPrivate ∈ wAll := wa (tb_2 _ (List.mem_of_getElem? (i := 7) rfl)) rfl
theorem mw_69 : .instanceMethod yC2_isPrivate ∈ wAll := wa (tb_2 _ (List.mem_of_getElem? (i := 8) rfl)) rfl
theorem mw_70 : .selects RC2 yC2_isPrivate yC2_isPrivate ∈ wAll := wa (tb_2 _ (List.mem_of_getElem? (i := 9) rfl)) rfl
theorem mw_71 : .code yC2_isPrivate cC2_isPrivate 2 (some .boolean) ∈ wAll := wa (tb_2 _ (List.mem_of_getElem? (i := 10) rfl)) rfl
theorem mw_72 : .methodLink RC2 65 yC2_hasGoodMarks ∈ wAll := wa (tb_2 _ (List.mem_of_getElem? (i := 2) rfl)) rfl
theorem mw_73 : .instanceMethod yC2_hasGoodMarks ∈ wAll := wa (tb_2 _ (List.mem_of_getElem? (i := 4) rfl)) rfl
theorem mw_74 : .selects RC2 yC2_hasGoodMarks yC2_hasGoodMarks ∈ wAll := wa (ps_1 _ (List.mem_of_getElem? (i := 1) rfl)) rfl
theorem mw_75 : .code yC2_hasGoodMarks cC2_hasGoodMarks 3 (some .boolean) ∈ wAll := wa (tb_2 _ (List.mem_of_getElem? (i := 5) rfl)) rfl
theorem mw_76 : .methodLink RC1 40 yC1_isElement ∈ wAll := wa (tb_2 _ (List.mem_of_getElem? (i := 27) rfl)) rfl
theorem mw_77 : .instanceMethod yC1_isElement ∈ wAll := wa (tb_2 _ (List.mem_of_getElem? (i := 29) rfl)) rfl
theorem mw_78 : .selects RC1 yC1_isElement yC1_isElement ∈ wAll := wa (ps_1 _ (List.mem_of_getElem? (i := 2) rfl)) rfl
theorem mw_79 : .code yC1_isElement cC1_isElement 2 (some .boolean) ∈ wAll := wa (tb_2 _ (List.mem_of_getElem? (i := 30) rfl)) rfl
theorem mw_80 : .methodLink RC1 43 yC1_isArray ∈ wAll := wa (tb_2 _ (List.mem_of_getElem? (i := 31) rfl)) rfl
theorem mw_81 : .instanceMethod yC1_isArray ∈ wAll := wa (tb_2 _ (List.mem_of_getElem? (i := 32) rfl)) rfl
theorem mw_82 : .selects RC1 yC1_isArray yC1_isArray ∈ wAll := wa (tb_2 _ (List.mem_of_getElem? (i := 33) rfl)) rfl
theorem mw_83 : .code yC1_isArray cC1_isArray 2 (some .boolean) ∈ wAll := wa (tb_2 _ (List.mem_of_getElem? (i := 34) rfl)) rfl
theorem mw_84 : .methodLink RC1 46 yC1_canBeDeclared ∈ wAll := wa (tb_2 _ (List.mem_of_getElem? (i := 23) rfl)) rfl
theorem mw_85 : .instanceMethod yC1_canBeDeclared ∈ wAll := wa (tb_2 _ (List.mem_of_getElem? (i := 24) rfl)) rfl
theorem mw_86 : .selects RC1 yC1_canBeDeclared yC1_canBeDeclared ∈ wAll := wa (tb_2 _ (List.mem_of_getElem? (i := 25) rfl)) rfl
theorem mw_87 : .code yC1_canBeDeclared cC1_canBeDeclared 2 (some .boolean) ∈ wAll := wa (tb_2 _ (List.mem_of_getElem? (i := 26) rfl)) rfl
theorem mw_88 : .methodLink RC2 68 yC1_canBeResult ∈ wAll := wa (tb_2 _ (List.mem_of_getElem? (i := 19) rfl)) rfl
theorem mw_89 : .instanceMethod yC1_canBeResult ∈ wAll := wa (tb_2 _ (List.mem_of_getElem? (i := 20) rfl)) rfl
theorem mw_90 : .selects RC1 yC1_canBeResult yC1_canBeResult ∈ wAll := wa (tb_2 _ (List.mem_of_getElem? (i := 21) rfl)) rfl
theorem mw_91 : .code yC1_canBeResult cC1_canBeResult 2 (some .boolean) ∈ wAll := wa (tb_2 _ (List.mem_of_getElem? (i := 22) rfl)) rfl
theorem mw_92 : .methodLink RC2 49 yC2_hasGoodHead ∈ wAll := wa (tb_1 _ (List.mem_of_getElem? (i := 237) rfl)) rfl
theorem mw_93 : .instanceMethod yC2_hasGoodHead ∈ wAll := wa (tb_1 _ (List.mem_of_getElem? (i := 239) rfl)) rfl
theorem mw_94 : .selects RC2 yC2_hasGoodHead yC2_hasGoodHead ∈ wAll := wa (ps_1 _ (List.mem_of_getElem? (i := 0) rfl)) rfl
theorem mw_95 : .code yC2_hasGoodHead cC2_hasGoodHead 3 (some .boolean) ∈ wAll := wa (tb_2 _ (List.mem_of_getElem? (i := 0) rfl)) rfl
theorem mw_96 : .methodLink RC2 90 yC2_isVaried ∈ wAll := wa (tb_2 _ (List.mem_of_getElem? (i := 44) rfl)) rfl
theorem mw_97 : .instanceMethod yC2_isVaried ∈ wAll := wa (tb_2 _ (List.mem_of_getElem? (i := 45) rfl)) rfl
theorem mw_98 : .selects RC2 yC2_isVaried yC2_isVaried ∈ wAll := wa (tb_2 _ (List.mem_of_getElem? (i := 46) rfl)) rfl
theorem mw_99 : .code yC2_isVaried cC2_isVaried 2 (some .boolean) ∈ wAll := wa (tb_2 _ (List.mem_of_getElem? (i := 47) rfl)) rfl
theorem mw_100 : .methodLink RC2 83 yC2_parameterAt ∈ wAll := wa (tb_2 _ (List.mem_of_getElem? (i := 39) rfl)) rfl
theorem mw_101 : .instanceMethod yC2_parameterAt ∈ wAll := wa (tb_2 _ (List.mem_of_getElem? (i := 40) rfl)) rfl
theorem mw_102 : .selects RC2 yC2_parameterAt yC2_parameterAt ∈ wAll := wa (tb_2 _ (List.mem_of_getElem? (i := 41) rfl)) rfl
theorem mw_103 : .code yC2_parameterAt cC2_parameterAt 3 (some .int) ∈ wAll := wa (tb_2 _ (List.mem_of_getElem? (i := 42) rfl)) rfl
theorem mw_104 : .methodLink RC2 93 yC1_isArray ∈ wAll := wa (tb_2 _ (List.mem_of_getElem? (i := 48) rfl)) rfl
theorem mw_105 : .methodLink RC2 87 yC1_canBeDeclared ∈ wAll := wa (tb_2 _ (List.mem_of_getElem? (i := 43) rfl)) rfl
theorem mw_106 : .methodLink RC2 53 yC2_hasGoodParameters ∈ wAll := wa (tb_2 _ (List.mem_of_getElem? (i := 35) rfl)) rfl
theorem mw_107 : .instanceMethod yC2_hasGoodParameters ∈ wAll := wa (tb_2 _ (List.mem_of_getElem? (i := 37) rfl)) rfl
theorem mw_108 : .selects RC2 yC2_hasGoodParameters yC2_hasGoodParameters ∈ wAll := wa (ps_1 _ (List.mem_of_getElem? (i := 3) rfl)) rfl
theorem mw_109 : .code yC2_hasGoodParameters cC2_hasGoodParameters 3 (some .boolean) ∈ wAll := wa (tb_2 _ (List.mem_of_getElem? (i := 38) rfl)) rfl
theorem mw_110 : .methodLink RC2 96 yC2_sameParameters ∈ wAll := wa (tb_2 _ (List.mem_of_getElem? (i := 53) rfl)) rfl
theorem mw_111 : .instanceMethod yC2_sameParameters ∈ wAll := wa (tb_2 _ (List.mem_of_getElem? (i := 54) rfl)) rfl
theorem mw_112 : .selects RC2 yC2_sameParameters yC2_sameParameters ∈ wAll := wa (tb_2 _ (List.mem_of_getElem? (i := 55) rfl)) rfl
theorem mw_113 : .code yC2_sameParameters cC2_sameParameters 4 (some .boolean) ∈ wAll := wa (tb_2 _ (List.mem_of_getElem? (i := 56) rfl)) rfl
theorem mw_114 : .methodLink RC2 56 yC2_isToldTwice ∈ wAll := wa (tb_2 _ (List.mem_of_getElem? (i := 49) rfl)) rfl
theorem mw_115 : .instanceMethod yC2_isToldTwice ∈ wAll := wa (tb_2 _ (List.mem_of_getElem? (i := 51) rfl)) rfl
theorem mw_116 : .selects RC2 yC2_isToldTwice yC2_isToldTwice ∈ wAll := wa (ps_1 _ (List.mem_of_getElem? (i := 4) rfl)) rfl
theorem mw_117 : .code yC2_isToldTwice cC2_isToldTwice 3 (some .boolean) ∈ wAll := wa (tb_2 _ (List.mem_of_getElem? (i := 52) rfl)) rfl
theorem mw_118 : .methodLink RC2 59 yC2_forgetFunctions ∈ wAll := wa (tb_2 _ (List.mem_of_getElem? (i := 57) rfl)) rfl
theorem mw_119 : .methodLink RC0 71 yC2_keepDraft ∈ wAll := wa (tb_1 _ (List.mem_of_getElem? (i := 233) rfl)) rfl
theorem mw_120 : .instanceMethod yC2_keepDraft ∈ wAll := wa (tb_1 _ (List.mem_of_getElem? (i := 234) rfl)) rfl
theorem mw_121 : .selects RC2 yC2_keepDraft yC2_keepDraft ∈ wAll := wa (tb_1 _ (List.mem_of_getElem? (i := 235) rfl)) rfl
theorem mw_122 : .code yC2_keepDraft cC2_keepDraft 1 (some .int) ∈ wAll := wa (tb_1 _ (List.mem_of_getElem? (i := 236) rfl)) rfl
theorem mw_123 : .methodLink RC0 75 yC1_isType ∈ wAll := wa (tb_2 _ (List.mem_of_getElem? (i := 62) rfl)) rfl
theorem mw_124 : .instanceMethod yC1_isType ∈ wAll := wa (tb_2 _ (List.mem_of_getElem? (i := 63) rfl)) rfl
theorem mw_125 : .selects RC1 yC1_isType yC1_isType ∈ wAll := wa (tb_2 _ (List.mem_of_getElem? (i := 64) rfl)) rfl
theorem mw_126 : .code yC1_isType cC1_isType 2 (some .boolean) ∈ wAll := wa (tb_2 _ (List.mem_of_getElem? (i := 65) rfl)) rfl
theorem mw_127 : .methodLink RC1 62 yC1_isPrimitive ∈ wAll := wa (tb_2 _ (List.mem_of_getElem? (i := 70) rfl)) rfl
theorem mw_128 : .instanceMethod yC1_isPrimitive ∈ wAll := wa (tb_2 _ (List.mem_of_getElem? (i := 71) rfl)) rfl
theorem mw_129 : .selects RC1 yC1_isPrimitive yC1_isPrimitive ∈ wAll := wa (tb_2 _ (List.mem_of_getElem? (i := 72) rfl)) rfl
theorem mw_130 : .code yC1_isPrimitive cC1_isPrimitive 2 (some .boolean) ∈ wAll := wa (tb_2 _ (List.mem_of_getElem? (i := 73) rfl)) rfl
theorem mw_131 : .methodLink RC0 78 yC1_accepts ∈ wAll := wa (tb_2 _ (List.mem_of_getElem? (i := 66) rfl)) rfl
theorem mw_132 : .instanceMethod yC1_accepts ∈ wAll := wa (tb_2 _ (List.mem_of_getElem? (i := 67) rfl)) rfl
theorem mw_133 : .selects RC1 yC1_accepts yC1_accepts ∈ wAll := wa (tb_2 _ (List.mem_of_getElem? (i := 68) rfl)) rfl
theorem mw_134 : .code yC1_accepts cC1_accepts 5 (some .boolean) ∈ wAll := wa (tb_2 _ (List.mem_of_getElem? (i := 69) rfl)) rfl
theorem mw_135 : .methodLink RC2 125 yC1_size ∈ wAll := wa (tb_2 _ (List.mem_of_getElem? (i := 86) rfl)) rfl
theorem mw_136 : .instanceMethod yC1_size ∈ wAll := wa (tb_2 _ (List.mem_of_getElem? (i := 87) rfl)) rfl
theorem mw_137 : .selects RC1 yC1_size yC1_size ∈ wAll := wa (tb_2 _ (List.mem_of_getElem? (i := 88) rfl)) rfl
theorem mw_138 : .code yC1_size cC1_size 1 (some .int) ∈ wAll := wa (tb_2 _ (List.mem_of_getElem? (i := 89) rfl)) rfl
theorem mw_139 : .fieldLink RC2 36 "MemberChoice$Members" "functions" "[I" ∈ wAll := wa (tb_1 _ (List.mem_of_getElem? (i := 75) rfl)) rfl
theorem mw_140 : .methodLink RC2 112 yC1_isA ∈ wAll := wa (tb_2 _ (List.mem_of_getElem? (i := 98) rfl)) rfl
theorem mw_141 : .methodLink RC2 118 yC2_overrides ∈ wAll := wa (tb_2 _ (List.mem_of_getElem? (i := 103) rfl)) rfl
theorem mw_142 : .instanceMethod yC2_overrides ∈ wAll := wa (tb_2 _ (List.mem_of_getElem? (i := 105) rfl)) rfl
theorem mw_143 : .selects RC2 yC2_overrides yC2_overrides ∈ wAll := wa (ps_1 _ (List.mem_of_getElem? (i := 8) rfl)) rfl
theorem mw_144 : .code yC2_overrides cC2_overrides 4 (some .boolean) ∈ wAll := wa (tb_2 _ (List.mem_of_getElem? (i := 106) rfl)) rfl
theorem mw_145 : .methodLink RC2 115 yC2_isOverridden ∈ wAll := wa (tb_2 _ (List.mem_of_getElem? (i := 99) rfl)) rfl
theorem mw_146 : .instanceMethod yC2_isOverridden ∈ wAll := wa (tb_2 _ (List.mem_of_getElem? (i := 101) rfl)) rfl
theorem mw_147 : .selects RC2 yC2_isOverridden yC2_isOverridden ∈ wAll := wa (ps_1 _ (List.mem_of_getElem? (i := 7) rfl)) rfl
theorem mw_148 : .code yC2_isOverridden cC2_isOverridden 4 (some .boolean) ∈ wAll := wa (tb_2 _ (List.mem_of_getElem? (i := 102) rfl)) rfl
theorem mw_149 : .methodLink RC2 108 yC2_isSeen ∈ wAll := wa (tb_2 _ (List.mem_of_getElem? (i := 94) rfl)) rfl
theorem mw_150 : .instanceMethod yC2_isSeen ∈ wAll := wa (tb_2 _ (List.mem_of_getElem? (i := 96) rfl)) rfl
theorem mw_151 : .selects RC2 yC2_isSeen yC2_isSeen ∈ wAll := wa (ps_1 _ (List.mem_of_getElem? (i := 6) rfl)) rfl
theorem mw_152 : .code yC2_isSeen cC2_isSeen 4 (some .boolean) ∈ wAll := wa (tb_2 _ (List.mem_of_getElem? (i := 97) rfl)) rfl
theorem mw_153 : .methodLink RC2 128 yC2_findFunction ∈ wAll := wa (tb_2 _ (List.mem_of_getElem? (i := 90) rfl)) rfl
theorem mw_154 : .instanceMethod yC2_findFunction ∈ wAll := wa (tb_2 _ (List.mem_of_getElem? (i := 92) rfl)) rfl
theorem mw_155 : .selects RC2 yC2_findFunction yC2_findFunction ∈ wAll := wa (ps_1 _ (List.mem_of_getElem? (i := 5) rfl)) rfl
theorem mw_156 : .code yC2_findFunction cC2_findFunction 4 (some .int) ∈ wAll := wa (tb_2 _ (List.mem_of_getElem? (i := 93) rfl)) rfl
theorem mw_157 : .methodLink RC0 82 yC2_settleFunctions ∈ wAll := wa (tb_2 _ (List.mem_of_getElem? (i := 82) rfl)) rfl
theorem mw_158 : .instanceMethod yC2_settleFunctions ∈ wAll := wa (tb_2 _ (List.mem_of_getElem? (i := 83) rfl)) rfl
theorem mw_159 : .selects RC2 yC2_settleFunctions yC2_settleFunctions ∈ wAll := wa (tb_2 _ (List.mem_of_getElem? (i := 84) rfl)) rfl
theorem mw_160 : .code yC2_settleFunctions cC2_settleFunctions 3 none ∈ wAll := wa (tb_2 _ (List.mem_of_getElem? (i := 85) rfl)) rfl
theorem mw_161 : .methodLink RC0 85 yC2_functionOf ∈ wAll := wa (tb_2 _ (List.mem_of_getElem? (i := 107) rfl)) rfl
theorem mw_162 : .instanceMethod yC2_functionOf ∈ wAll := wa (tb_2 _ (List.mem_of_getElem? (i := 108) rfl)) rfl
theorem mw_163 : .selects RC2 yC2_functionOf yC2_functionOf ∈ wAll := wa (tb_2 _ (List.mem_of_getElem? (i := 109) rfl)) rfl
theorem mw_164 : .code yC2_functionOf cC2_functionOf 2 (some .int) ∈ wAll := wa (tb_2 _ (List.mem_of_getElem? (i := 110) rfl)) rfl
theorem mw_165 : .methodLink RC0 89 yC0_canBeAsked ∈ wAll := wa (tb_2 _ (List.mem_of_getElem? (i := 115) rfl)) rfl
theorem mw_166 : .instanceMethod yC0_canBeAsked ∈ wAll := wa (tb_2 _ (List.mem_of_getElem? (i := 117) rfl)) rfl
theorem mw_167 : .selects RC0 yC0_canBeAsked yC0_canBeAsked ∈ wAll := wa (ps_1 _ (List.mem_of_getElem? (i := 9) rfl)) rfl
theorem mw_168 : .initialized RC0 ∈ wAll := wa (tb_1 _ (List.mem_of_getElem? (i := 1) rfl)) rfl
theorem mw_169 : .code yC0_canBeAsked cC0_canBeAsked 4 (some .boolean) ∈ wAll := wa (tb_2 _ (List.mem_of_getElem? (i := 118) rfl)) rfl
theorem mw_170 : .fieldLink RC0 41 "MemberChoice" "seenRow" "[I" ∈ wAll := wa (tb_1 _ (List.mem_of_getElem? (i := 165) rfl)) rfl
theorem mw_171 : .methodLink RC0 93 yC2_listSeen ∈ wAll := wa (tb_2 _ (List.mem_of_getElem? (i := 119) rfl)) rfl
theorem mw_172 : .instanceMethod yC2_listSeen ∈ wAll := wa (tb_2 _ (List.mem_of_getElem? (i := 120) rfl)) rfl
theorem mw_173 : .selects RC2 yC2_listSeen yC2_listSeen ∈ wAll := wa (tb_2 _ (List.mem_of_getElem? (i := 121) rfl)) rfl
theorem mw_174 : .code yC2_listSeen cC2_listSeen 7 (some .int) ∈ wAll := wa (tb_2 _ (List.mem_of_getElem? (i := 122) rfl)) rfl
theorem mw_175 : .fieldLink RC0 28 "MemberChoice" "arguments" "LMemberChoice$Arguments;" ∈ wAll := wa (tb_1 _ (List.mem_of_getElem? (i := 163) rfl)) rfl
theorem mw_176 : .fieldLink RC3 28 "MemberChoice$Arguments" "size" "I" ∈ wAll := wa (tb_1 _ (List.mem_of_getElem? (i := 110) rfl)) rfl
theorem mw_177 : .fieldLink RC3 11 "MemberChoice$Arguments" "lambdas" "[Z" ∈ wAll := wa (tb_1 _ (List.mem_of_getElem? (i := 105) rfl)) rfl
theorem mw_178 : .fieldLink RC3 15 "MemberChoice$Arguments" "toldOnes" "[Z" ∈ wAll := wa (tb_1 _ (List.mem_of_getElem? (i := 106) rfl)) rfl
theorem mw_179 : .fieldLink RC3 18 "MemberChoice$Arguments" "values" "[I" ∈ wAll := wa (tb_1 _ (List.mem_of_getElem? (i := 107) rfl)) rfl
theorem mw_180 : .fieldLink RC3 22 "MemberChoice$Arguments" "widths" "[I" ∈ wAll := wa (tb_1 _ (List.mem_of_getElem? (i := 108) rfl)) rfl
theorem mw_181 : .methodLink RC0 97 yC3_addType ∈ wAll := wa (tb_2 _ (List.mem_of_getElem? (i := 131) rfl)) rfl
theorem mw_182 : .instanceMethod yC3_addType ∈ wAll := wa (tb_2 _ (List.mem_of_getElem? (i := 132) rfl)) rfl
theorem mw_183 : .selects RC3 yC3_addType yC3_addType ∈ wAll := wa (tb_2 _ (List.mem_of_getElem? (i := 133) rfl)) rfl
theorem mw_184 : .initialized RC3 ∈ wAll := wa (tb_1 _ (List.mem_of_getElem? (i := 7) rfl)) rfl
theorem mw_185 : .code yC3_addType cC3_addType 2 (some .int) ∈ wAll := wa (tb_2 _ (List.mem_of_getElem? (i := 134) rfl)) rfl
theorem mw_186 : .methodLink RC0 100 yC1_canBeResult ∈ wAll := wa (tb_2 _ (List.mem_of_getElem? (i := 139) rfl)) rfl
theorem mw_187 : .fieldLink RC3 25 "MemberChoice$Arguments" "parameters" "[I" ∈ wAll := wa (tb_1 _ (List.mem_of_getElem? (i := 109) rfl)) rfl
theorem mw_188 : .methodLink RC0 106 yC3_addLambda ∈ wAll := wa (tb_2 _ (List.mem_of_getElem? (i := 141) rfl)) rfl
theorem mw_189 : .instanceMethod yC3_addLambda ∈ wAll := wa (tb_2 _ (List.mem_of_getElem? (i := 142) rfl)) rfl
theorem mw_190 : .selects RC3 yC3_addLambda yC3_addLambda ∈ wAll := wa (tb_2 _ (List.mem_of_getElem? (i := 143) rfl)) rfl
theorem mw_191 : .code yC3_addLambda cC3_addLambda 6 (some .int) ∈ wAll := wa (tb_2 _ (List.mem_of_getElem? (i := 144) rfl)) rfl
theorem mw_192 : .methodLink RC0 103 yC1_canBeDeclared ∈ wAll := wa (tb_2 _ (List.mem_of_getElem? (i := 140) rfl)) rfl
theorem mw_193 : .methodLink RC0 110 yC3_clear ∈ wAll := wa (tb_2 _ (List.mem_of_getElem? (i := 149) rfl)) rfl
theorem mw_194 : .instanceMethod yC3_clear ∈ wAll := wa (tb_2 _ (List.mem_of_getElem? (i := 150) rfl)) rfl
theorem mw_195 : .selects RC3 yC3_clear yC3_clear ∈ wAll := wa (tb_2 _ (List.mem_of_getElem? (i := 151) rfl)) rfl
theorem mw_196 : .code yC3_clear cC3_clear 2 (some .int) ∈ wAll := wa (tb_2 _ (List.mem_of_getElem? (i := 152) rfl)) rfl
theorem mw_197 : .fieldLink RC0 37 "MemberChoice" "latest" "LMemberChoice$Choice;" ∈ wAll := wa (tb_1 _ (List.mem_of_getElem? (i := 164) rfl)) rfl
theorem mw_198 : .fieldLink RC4 36 "MemberChoice$Choice" "reached" "I" ∈ wAll := wa (tb_1 _ (List.mem_of_getElem? (i := 139) rfl)) rfl
theorem mw_199 : .fieldLink RC4 40 "MemberChoice$Choice" "applyingCount" "I" ∈ wAll := wa (tb_1 _ (List.mem_of_getElem? (i := 137) rfl)) rfl
theorem mw_200 : .fieldLink RC4 47 "MemberChoice$Choice" "applyingBits" "J" ∈ wAll := wa (tb_1 _ (List.mem_of_getElem? (i := 138) rfl)) rfl
theorem mw_201 : .methodLink RC4 51 yC4_forget ∈ wAll := wa (tb_2 _ (List.mem_of_getElem? (i := 161) rfl)) rfl
theorem mw_202 : .instanceMethod yC4_forget ∈ wAll := wa (tb_2 _ (List.mem_of_getElem? (i := 163) rfl)) rfl
theorem mw_203 : .selects RC4 yC4_forget yC4_forget ∈ wAll := wa (ps_1 _ (List.mem_of_getElem? (i := 10) rfl)) rfl
theorem mw_204 : .initialized RC4 ∈ wAll := wa (tb_1 _ (List.mem_of_getElem? (i := 8) rfl)) rfl
theorem mw_205 : .code yC4_forget cC4_forget 1 none ∈ wAll := wa (tb_2 _ (List.mem_of_getElem? (i := 164) rfl)) rfl
theorem mw_206 : .fieldLink RC4 15 "MemberChoice$Choice" "members" "LMemberChoice$Members;" ∈ wAll := wa (tb_1 _ (List.mem_of_getElem? (i := 131) rfl)) rfl
theorem mw_207 : .methodLink RC4 54 yC2_settleFunctions ∈ wAll := wa (tb_2 _ (List.mem_of_getElem? (i := 165) rfl)) rfl
theorem mw_208 : .fieldLink RC4 25 "MemberChoice$Choice" "candidates" "[I" ∈ wAll := wa (tb_1 _ (List.mem_of_getElem? (i := 133) rfl)) rfl
theorem mw_209 : .methodLink RC4 57 yC2_listSeen ∈ wAll := wa (tb_2 _ (List.mem_of_getElem? (i := 166) rfl)) rfl
theorem mw_210 : .fieldLink RC4 61 "MemberChoice$Choice" "candidateCount" "I" ∈ wAll := wa (tb_1 _ (List.mem_of_getElem? (i := 136) rfl)) rfl
theorem mw_211 : .methodLink RC4 94 yC2_isVaried ∈ wAll := wa (tb_2 _ (List.mem_of_getElem? (i := 175) rfl)) rfl
theorem mw_212 : .methodLink RC4 97 yC2_widthOf ∈ wAll := wa (tb_2 _ (List.mem_of_getElem? (i := 176) rfl)) rfl
theorem mw_213 : .instanceMethod yC2_widthOf ∈ wAll := wa (tb_2 _ (List.mem_of_getElem? (i := 177) rfl)) rfl
theorem mw_214 : .selects RC2 yC2_widthOf yC2_widthOf ∈ wAll := wa (tb_2 _ (List.mem_of_getElem? (i := 178) rfl)) rfl
theorem mw_215 : .code yC2_widthOf cC2_widthOf 2 (some .int) ∈ wAll := wa (tb_2 _ (List.mem_of_getElem? (i := 179) rfl)) rfl
theorem mw_216 : .fieldLink RC4 19 "MemberChoice$Choice" "arguments" "LMemberChoice$Arguments;" ∈ wAll := wa (tb_1 _ (List.mem_of_getElem? (i := 132) rfl)) rfl
theorem mw_217 : .methodLink RC4 101 yC3_size ∈ wAll := wa (tb_2 _ (List.mem_of_getElem? (i := 180) rfl)) rfl
theorem mw_218 : .instanceMethod yC3_size ∈ wAll := wa (tb_2 _ (List.mem_of_getElem? (i := 181) rfl)) rfl
theorem mw_219 : .selects RC3 yC3_size yC3_size ∈ wAll := wa (tb_2 _ (List.mem_of_getElem? (i := 182) rfl)) rfl
theorem mw_220 : .code yC3_size cC3_size 1 (some .int) ∈ wAll := wa (tb_2 _ (List.mem_of_getElem? (i := 183) rfl)) rfl
theorem mw_221 : .methodLink RC4 106 yC3_isLambda ∈ wAll := wa (tb_2 _ (List.mem_of_getElem? (i := 184) rfl)) rfl
theorem mw_222 : .instanceMethod yC3_isLambda ∈ wAll := wa (tb_2 _ (List.mem_of_getElem? (i := 185) rfl)) rfl
theorem mw_223 : .selects RC3 yC3_isLambda yC3_isLambda ∈ wAll := wa (tb_2 _ (List.mem_of_getElem? (i := 186) rfl)) rfl
theorem mw_224 : .code yC3_isLambda cC3_isLambda 2 (some .boolean) ∈ wAll := wa (tb_2 _ (List.mem_of_getElem? (i := 187) rfl)) rfl
theorem mw_225 : .methodLink RC2 100 yC1_elementOf ∈ wAll := wa (tb_2 _ (List.mem_of_getElem? (i := 192) rfl)) rfl
theorem mw_226 : .instanceMethod yC1_elementOf ∈ wAll := wa (tb_2 _ (List.mem_of_getElem? (i := 193) rfl)) rfl
theorem mw_227 : .selects RC1 yC1_elementOf yC1_elementOf ∈ wAll := wa (tb_2 _ (List.mem_of_getElem? (i := 194) rfl)) rfl
theorem mw_228 : .code yC1_elementOf cC1_elementOf 2 (some .int) ∈ wAll := wa (tb_2 _ (List.mem_of_getElem? (i := 195) rfl)) rfl
theorem mw_229 : .methodLink RC4 109 yC2_facing ∈ wAll := wa (tb_2 _ (List.mem_of_getElem? (i := 188) rfl)) rfl
theorem mw_230 : .instanceMethod yC2_facing ∈ wAll := wa (tb_2 _ (List.mem_of_getElem? (i := 189) rfl)) rfl
theorem mw_231 : .selects RC2 yC2_facing yC2_facing ∈ wAll := wa (tb_2 _ (List.mem_of_getElem? (i := 190) rfl)) rfl
theorem mw_232 : .code yC2_facing cC2_facing 5 (some .int) ∈ wAll := wa (tb_2 _ (List.mem_of_getElem? (i := 191) rfl)) rfl
theorem mw_233 : .methodLink RC4 116 yC2_functionOf ∈ wAll := wa (tb_2 _ (List.mem_of_getElem? (i := 200) rfl)) rfl
theorem mw_234 : .methodLink RC4 119 yC3_widthOf ∈ wAll := wa (tb_2 _ (List.mem_of_getElem? (i := 201) rfl)) rfl
theorem mw_235 : .instanceMethod yC3_widthOf ∈ wAll := wa (tb_2 _ (List.mem_of_getElem? (i := 202) rfl)) rfl
theorem mw_236 : .selects RC3 yC3_widthOf yC3_widthOf ∈ wAll := wa (tb_2 _ (List.mem_of_getElem? (i := 203) rfl)) rfl
theorem mw_237 : .code yC3_widthOf cC3_widthOf 2 (some .int) ∈ wAll := wa (tb_2 _ (List.mem_of_getElem? (i := 204) rfl)) rfl
theorem mw_238 : .methodLink RC4 120 yC2_hasResult ∈ wAll := wa (tb_2 _ (List.mem_of_getElem? (i := 205) rfl)) rfl
theorem mw_239 : .instanceMethod yC2_hasResult ∈ wAll := wa (tb_2 _ (List.mem_of_getElem? (i := 206) rfl)) rfl
theorem mw_240 : .selects RC2 yC2_hasResult yC2_hasResult ∈ wAll := wa (tb_2 _ (List.mem_of_getElem? (i := 207) rfl)) rfl
theorem mw_241 : .code yC2_hasResult cC2_hasResult 2 (some .boolean) ∈ wAll := wa (tb_2 _ (List.mem_of_getElem? (i := 208) rfl)) rfl
theorem mw_242 : .methodLink RC4 123 yC3_hasResult ∈ wAll := wa (tb_2 _ (List.mem_of_getElem? (i := 209) rfl)) rfl
theorem mw_243 : .instanceMethod yC3_hasResult ∈ wAll := wa (tb_2 _ (List.mem_of_getElem? (i := 210) rfl)) rfl
theorem mw_244 : .selects RC3 yC3_hasResult yC3_hasResult ∈ wAll := wa (tb_2 _ (List.mem_of_getElem? (i := 211) rfl)) rfl
theorem mw_245 : .code yC3_hasResult cC3_hasResult 2 (some .boolean) ∈ wAll := wa (tb_2 _ (List.mem_of_getElem? (i := 212) rfl)) rfl
theorem mw_246 : .methodLink RC4 113 yC4_hasShape ∈ wAll := wa (tb_2 _ (List.mem_of_getElem? (i := 196) rfl)) rfl
theorem mw_247 : .instanceMethod yC4_hasShape ∈ wAll := wa (tb_2 _ (List.mem_of_getElem? (i := 198) rfl)) rfl
theorem mw_248 : .selects RC4 yC4_hasShape yC4_hasShape ∈ wAll := wa (ps_1 _ (List.mem_of_getElem? (i := 13) rfl)) rfl
theorem mw_249 : .code yC4_hasShape cC4_hasShape 4 (some .boolean) ∈ wAll := wa (tb_2 _ (List.mem_of_getElem? (i := 199) rfl)) rfl
theorem mw_250 : .methodLink RC4 78 yC4_couldBeMeant ∈ wAll := wa (tb_2 _ (List.mem_of_getElem? (i := 171) rfl)) rfl
theorem mw_251 : .instanceMethod yC4_couldBeMeant ∈ wAll := wa (tb_2 _ (List.mem_of_getElem? (i := 173) rfl)) rfl
theorem mw_252 : .selects RC4 yC4_couldBeMeant yC4_couldBeMeant ∈ wAll := wa (ps_1 _ (List.mem_of_getElem? (i := 12) rfl)) rfl
theorem mw_253 : .code yC4_couldBeMeant cC4_couldBeMeant 5 (some .boolean) ∈ wAll := wa (tb_2 _ (List.mem_of_getElem? (i := 174) rfl)) rfl
theorem mw_254 : .methodLink RC4 64 yC4_keepMeant ∈ wAll := wa (tb_2 _ (List.mem_of_getElem? (i := 167) rfl)) rfl
theorem mw_255 : .instanceMethod yC4_keepMeant ∈ wAll := wa (tb_2 _ (List.mem_of_getElem? (i := 169) rfl)) rfl
theorem mw_256 : .selects RC4 yC4_keepMeant yC4_keepMeant ∈ wAll := wa (ps_1 _ (List.mem_of_getElem? (i := 11) rfl)) rfl
theorem mw_257 : .code yC4_keepMeant cC4_keepMeant 3 none ∈ wAll := wa (tb_2 _ (List.mem_of_getElem? (i := 170) rfl)) rfl
theorem mw_258 : .fieldLink RC4 29 "MemberChoice$Choice" "applying" "[I" ∈ wAll := wa (tb_1 _ (List.mem_of_getElem? (i := 134) rfl)) rfl
theorem mw_259 : .fieldLink RC4 32 "MemberChoice$Choice" "asSpecial" "[J" ∈ wAll := wa (tb_1 _ (List.mem_of_getElem? (i := 135) rfl)) rfl
theorem mw_260 : .fieldLink RC4 9 "MemberChoice$Choice" "types" "LMemberChoice$Types;" ∈ wAll := wa (tb_1 _ (List.mem_of_getElem? (i := 130) rfl)) rfl
theorem mw_261 : .methodLink RC2 104 yC2_facing ∈ wAll := wa (tb_3 _ (List.mem_of_getElem? (i := 34) rfl)) rfl
theorem mw_262 : .methodLink RC4 157 yC2_spreadType ∈ wAll := wa (tb_3 _ (List.mem_of_getElem? (i := 30) rfl)) rfl
theorem mw_263 : .instanceMethod yC2_spreadType ∈ wAll := wa (tb_3 _ (List.mem_of_getElem? (i := 31) rfl)) rfl
theorem mw_264 : .selects RC2 yC2_spreadType yC2_spreadType ∈ wAll := wa (tb_3 _ (List.mem_of_getElem? (i := 32) rfl)) rfl
theorem mw_265 : .code yC2_spreadType cC2_spreadType 2 (some .int) ∈ wAll := wa (tb_3 _ (List.mem_of_getElem? (i := 33) rfl)) rfl
theorem mw_266 : .methodLink RC4 150 yC1_isA ∈ wAll := wa (tb_3 _ (List.mem_of_getElem? (i := 15) rfl)) rfl
theorem mw_267 : .methodLink RC4 136 yC3_isToldLambda ∈ wAll := wa (tb_2 _ (List.mem_of_getElem? (i := 230) rfl)) rfl
theorem mw_268 : .instanceMethod yC3_isToldLambda ∈ wAll := wa (tb_2 _ (List.mem_of_getElem? (i := 231) rfl)) rfl
theorem mw_269 : .selects RC3 yC3_isToldLambda yC3_isToldLambda ∈ wAll := wa (tb_2 _ (List.mem_of_getElem? (i := 232) rfl)) rfl
theorem mw_270 : .code yC3_isToldLambda cC3_isToldLambda 2 (some .boolean) ∈ wAll := wa (tb_2 _ (List.mem_of_getElem? (i := 233) rfl)) rfl
theorem mw_271 : .methodLink RC4 88 yC2_sameParameters ∈ wAll := wa (tb_3 _ (List.mem_of_getElem? (i := 20) rfl)) rfl
theorem mw_272 : .methodLink RC4 128 yC3_valueOf ∈ wAll := wa (tb_2 _ (List.mem_of_getElem? (i := 225) rfl)) rfl
theorem mw_273 : .instanceMethod yC3_valueOf ∈ wAll := wa (tb_2 _ (List.mem_of_getElem? (i := 226) rfl)) rfl
theorem mw_274 : .selects RC3 yC3_valueOf yC3_valueOf ∈ wAll := wa (tb_2 _ (List.mem_of_getElem? (i := 227) rfl)) rfl
theorem mw_275 : .code yC3_valueOf cC3_valueOf 2 (some .int) ∈ wAll := wa (tb_2 _ (List.mem_of_getElem? (i := 228) rfl)) rfl
theorem mw_276 : .methodLink RC4 147 yC2_resultOf ∈ wAll := wa (tb_3 _ (List.mem_of_getElem? (i := 3) rfl)) rfl
theorem mw_277 : .instanceMethod yC2_resultOf ∈ wAll := wa (tb_3 _ (List.mem_of_getElem? (i := 4) rfl)) rfl
theorem mw_278 : .selects RC2 yC2_resultOf yC2_resultOf ∈ wAll := wa (tb_3 _ (List.mem_of_getElem? (i := 5) rfl)) rfl
theorem mw_279 : .code yC2_resultOf cC2_resultOf 2 (some .int) ∈ wAll := wa (tb_3 _ (List.mem_of_getElem? (i := 6) rfl)) rfl
theorem mw_280 : .methodLink RC4 163 yC1_isPrimitive ∈ wAll := wa (tb_3 _ (List.mem_of_getElem? (i := 25) rfl)) rfl
theorem mw_281 : .methodLink RC4 166 yC1_isReference ∈ wAll := wa (tb_3 _ (List.mem_of_getElem? (i := 26) rfl)) rfl
theorem mw_282 : .instanceMethod yC1_isReference ∈ wAll := wa (tb_3 _ (List.mem_of_getElem? (i := 27) rfl)) rfl
theorem mw_283 : .selects RC1 yC1_isReference yC1_isReference ∈ wAll := wa (tb_3 _ (List.mem_of_getElem? (i := 28) rfl)) rfl
theorem mw_284 : .code yC1_isReference cC1_isReference 2 (some .boolean) ∈ wAll := wa (tb_3 _ (List.mem_of_getElem? (i := 29) rfl)) rfl
theorem mw_285 : .methodLink RC4 160 yC4_isFinerResult ∈ wAll := wa (tb_3 _ (List.mem_of_getElem? (i := 21) rfl)) rfl
theorem mw_286 : .instanceMethod yC4_isFinerResult ∈ wAll := wa (tb_3 _ (List.mem_of_getElem? (i := 23) rfl)) rfl
theorem mw_287 : .selects RC4 yC4_isFinerResult yC4_isFinerResult ∈ wAll := wa (ps_2 _ (List.mem_of_getElem? (i := 5) rfl)) rfl
theorem mw_288 : .code yC4_isFinerResult cC4_isFinerResult 6 (some .boolean) ∈ wAll := wa (tb_3 _ (List.mem_of_getElem? (i := 24) rfl)) rfl
theorem mw_289 : .methodLink RC4 153 yC4_isFinerFunction ∈ wAll := wa (tb_3 _ (List.mem_of_getElem? (i := 16) rfl)) rfl
theorem mw_290 : .instanceMethod yC4_isFinerFunction ∈ wAll := wa (tb_3 _ (List.mem_of_getElem? (i := 18) rfl)) rfl
theorem mw_291 : .selects RC4 yC4_isFinerFunction yC4_isFinerFunction ∈ wAll := wa (ps_2 _ (List.mem_of_getElem? (i := 4) rfl)) rfl
theorem mw_292 : .code yC4_isFinerFunction cC4_isFinerFunction 6 (some .boolean) ∈ wAll := wa (tb_3 _ (List.mem_of_getElem? (i := 19) rfl)) rfl
theorem mw_293 : .methodLink RC4 85 yC4_isAsSpecialAs ∈ wAll := wa (tb_3 _ (List.mem_of_getElem? (i := 11) rfl)) rfl
theorem mw_294 : .instanceMethod yC4_isAsSpecialAs ∈ wAll := wa (tb_3 _ (List.mem_of_getElem? (i := 13) rfl)) rfl
theorem mw_295 : .selects RC4 yC4_isAsSpecialAs yC4_isAsSpecialAs ∈ wAll := wa (ps_2 _ (List.mem_of_getElem? (i := 3) rfl)) rfl
theorem mw_296 : .code yC4_isAsSpecialAs cC4_isAsSpecialAs 7 (some .boolean) ∈ wAll := wa (tb_3 _ (List.mem_of_getElem? (i := 14) rfl)) rfl
theorem mw_297 : .methodLink RC4 71 yC4_compareAll ∈ wAll := wa (tb_3 _ (List.mem_of_getElem? (i := 7) rfl)) rfl
theorem mw_298 : .instanceMethod yC4_compareAll ∈ wAll := wa (tb_3 _ (List.mem_of_getElem? (i := 9) rfl)) rfl
theorem mw_299 : .selects RC4 yC4_compareAll yC4_compareAll ∈ wAll := wa (ps_2 _ (List.mem_of_getElem? (i := 2) rfl)) rfl
theorem mw_300 : .code yC4_compareAll cC4_compareAll 4 none ∈ wAll := wa (tb_3 _ (List.mem_of_getElem? (i := 10) rfl)) rfl
theorem mw_301 : .methodLink RC4 91 yC2_isAbstract ∈ wAll := wa (tb_3 _ (List.mem_of_getElem? (i := 39) rfl)) rfl
theorem mw_302 : .methodLink RC4 74 yC4_pick ∈ wAll := wa (tb_3 _ (List.mem_of_getElem? (i := 35) rfl)) rfl
theorem mw_303 : .instanceMethod yC4_pick ∈ wAll := wa (tb_3 _ (List.mem_of_getElem? (i := 37) rfl)) rfl
theorem mw_304 : .selects RC4 yC4_pick yC4_pick ∈ wAll := wa (ps_2 _ (List.mem_of_getElem? (i := 6) rfl)) rfl
theorem mw_305 : .code yC4_pick cC4_pick 6 (some .int) ∈ wAll := wa (tb_3 _ (List.mem_of_getElem? (i := 38) rfl)) rfl
theorem mw_306 : .methodLink RC4 131 yC1_accepts ∈ wAll := wa (tb_2 _ (List.mem_of_getElem? (i := 229) rfl)) rfl
theorem mw_307 : .methodLink RC4 142 yC2_parameterAt ∈ wAll := wa (tb_2 _ (List.mem_of_getElem? (i := 238) rfl)) rfl
theorem mw_308 : .methodLink RC4 146 yC3_parameterAt ∈ wAll := wa (tb_2 _ (List.mem_of_getElem? (i := 239) rfl)) rfl
theorem mw_309 : .instanceMethod yC3_parameterAt ∈ wAll := wa (tb_3 _ (List.mem_of_getElem? (i := 0) rfl)) rfl
theorem mw_310 : .selects RC3 yC3_parameterAt yC3_parameterAt ∈ wAll := wa (tb_3 _ (List.mem_of_getElem? (i := 1) rfl)) rfl
theorem mw_311 : .code yC3_parameterAt cC3_parameterAt 3 (some .int) ∈ wAll := wa (tb_3 _ (List.mem_of_getElem? (i := 2) rfl)) rfl
theorem mw_312 : .methodLink RC4 139 yC4_takesTold ∈ wAll := wa (tb_2 _ (List.mem_of_getElem? (i := 234) rfl)) rfl
theorem mw_313 : .instanceMethod yC4_takesTold ∈ wAll := wa (tb_2 _ (List.mem_of_getElem? (i := 236) rfl)) rfl
theorem mw_314 : .selects RC4 yC4_takesTold yC4_takesTold ∈ wAll := wa (ps_2 _ (List.mem_of_getElem? (i := 1) rfl)) rfl
theorem mw_315 : .code yC4_takesTold cC4_takesTold 5 (some .boolean) ∈ wAll := wa (tb_2 _ (List.mem_of_getElem? (i := 237) rfl)) rfl
theorem mw_316 : .methodLink RC4 124 yC4_takes ∈ wAll := wa (tb_2 _ (List.mem_of_getElem? (i := 221) rfl)) rfl
theorem mw_317 : .instanceMethod yC4_takes ∈ wAll := wa (tb_2 _ (List.mem_of_getElem? (i := 223) rfl)) rfl
theorem mw_318 : .selects RC4 yC4_takes yC4_takes ∈ wAll := wa (ps_2 _ (List.mem_of_getElem? (i := 0) rfl)) rfl
theorem mw_319 : .code yC4_takes cC4_takes 4 (some .boolean) ∈ wAll := wa (tb_2 _ (List.mem_of_getElem? (i := 224) rfl)) rfl
theorem mw_320 : .methodLink RC4 81 yC4_applies ∈ wAll := wa (tb_2 _ (List.mem_of_getElem? (i := 217) rfl)) rfl
theorem mw_321 : .instanceMethod yC4_applies ∈ wAll := wa (tb_2 _ (List.mem_of_getElem? (i := 219) rfl)) rfl
theorem mw_322 : .selects RC4 yC4_applies yC4_applies ∈ wAll := wa (ps_1 _ (List.mem_of_getElem? (i := 15) rfl)) rfl
theorem mw_323 : .code yC4_applies cC4_applies 5 (some .boolean) ∈ wAll := wa (tb_2 _ (List.mem_of_getElem? (i := 220) rfl)) rfl
theorem mw_324 : .methodLink RC4 67 yC4_findApplying ∈ wAll := wa (tb_2 _ (List.mem_of_getElem? (i := 213) rfl)) rfl
theorem mw_325 : .instanceMethod yC4_findApplying ∈ wAll := wa (tb_2 _ (List.mem_of_getElem? (i := 215) rfl)) rfl
theorem mw_326 : .selects RC4 yC4_findApplying yC4_findApplying ∈ wAll := wa (ps_1 _ (List.mem_of_getElem? (i := 14) rfl)) rfl
theorem mw_327 : .code yC4_findApplying cC4_findApplying 4 none ∈ wAll := wa (tb_2 _ (List.mem_of_getElem? (i := 216) rfl)) rfl
theorem mw_328 : .methodLink RC0 113 yC4_decide ∈ wAll := wa (tb_2 _ (List.mem_of_getElem? (i := 157) rfl)) rfl
theorem mw_329 : .instanceMethod yC4_decide ∈ wAll := wa (tb_2 _ (List.mem_of_getElem? (i := 158) rfl)) rfl
theorem mw_330 : .selects RC4 yC4_decide yC4_decide ∈ wAll := wa (tb_2 _ (List.mem_of_getElem? (i := 159) rfl)) rfl
theorem mw_331 : .code yC4_decide cC4_decide 5 (some .int) ∈ wAll := wa (tb_2 _ (List.mem_of_getElem? (i := 160) rfl)) rfl
theorem mw_332 : .methodLink RC0 117 yC2_isStatic ∈ wAll := wa (tb_3 _ (List.mem_of_getElem? (i := 40) rfl)) rfl
theorem mw_333 : .methodLink RC0 120 yC4_phaseReached ∈ wAll := wa (tb_3 _ (List.mem_of_getElem? (i := 45) rfl)) rfl
theorem mw_334 : .instanceMethod yC4_phaseReached ∈ wAll := wa (tb_3 _ (List.mem_of_getElem? (i := 46) rfl)) rfl
theorem mw_335 : .selects RC4 yC4_phaseReached yC4_phaseReached ∈ wAll := wa (tb_3 _ (List.mem_of_getElem? (i := 47) rfl)) rfl
theorem mw_336 : .code yC4_phaseReached cC4_phaseReached 1 (some .int) ∈ wAll := wa (tb_3 _ (List.mem_of_getElem? (i := 48) rfl)) rfl
theorem mw_337 : .methodLink RC0 123 yC4_applyingAt ∈ wAll := wa (tb_3 _ (List.mem_of_getElem? (i := 53) rfl)) rfl
theorem mw_338 : .instanceMethod yC4_applyingAt ∈ wAll := wa (tb_3 _ (List.mem_of_getElem? (i := 54) rfl)) rfl
theorem mw_339 : .selects RC4 yC4_applyingAt yC4_applyingAt ∈ wAll := wa (tb_3 _ (List.mem_of_getElem? (i := 55) rfl)) rfl
theorem mw_340 : .code yC4_applyingAt cC4_applyingAt 2 (some .int) ∈ wAll := wa (tb_3 _ (List.mem_of_getElem? (i := 56) rfl)) rfl
theorem mw_341 : .methodLink RC4 43 yC4_didApply ∈ wAll := wa (tb_3 _ (List.mem_of_getElem? (i := 65) rfl)) rfl
theorem mw_342 : .instanceMethod yC4_didApply ∈ wAll := wa (tb_3 _ (List.mem_of_getElem? (i := 67) rfl)) rfl
theorem mw_343 : .selects RC4 yC4_didApply yC4_didApply ∈ wAll := wa (ps_2 _ (List.mem_of_getElem? (i := 7) rfl)) rfl
theorem mw_344 : .code yC4_didApply cC4_didApply 2 (some .boolean) ∈ wAll := wa (tb_3 _ (List.mem_of_getElem? (i := 68) rfl)) rfl
theorem mw_345 : .methodLink RC0 126 yC4_compared ∈ wAll := wa (tb_3 _ (List.mem_of_getElem? (i := 61) rfl)) rfl
theorem mw_346 : .instanceMethod yC4_compared ∈ wAll := wa (tb_3 _ (List.mem_of_getElem? (i := 62) rfl)) rfl
theorem mw_347 : .selects RC4 yC4_compared yC4_compared ∈ wAll := wa (tb_3 _ (List.mem_of_getElem? (i := 63) rfl)) rfl
theorem mw_348 : .code yC4_compared cC4_compared 3 (some .int) ∈ wAll := wa (tb_3 _ (List.mem_of_getElem? (i := 64) rfl)) rfl
theorem mw_349 : .methodLink RC0 129 yC1_size ∈ wAll := wa (tb_3 _ (List.mem_of_getElem? (i := 73) rfl)) rfl
theorem mw_350 : .methodLink RC0 132 yC2_size ∈ wAll := wa (tb_3 _ (List.mem_of_getElem? (i := 74) rfl)) rfl
theorem mw_351 : .instanceMethod yC2_size ∈ wAll := wa (tb_3 _ (List.mem_of_getElem? (i := 75) rfl)) rfl
theorem mw_352 : .selects RC2 yC2_size yC2_size ∈ wAll := wa (tb_3 _ (List.mem_of_getElem? (i := 76) rfl)) rfl
theorem mw_353 : .code yC2_size cC2_size 1 (some .int) ∈ wAll := wa (tb_3 _ (List.mem_of_getElem? (i := 77) rfl)) rfl
theorem mw_354 : .methodLink RC0 133 yC3_size ∈ wAll := wa (tb_3 _ (List.mem_of_getElem? (i := 78) rfl)) rfl
theorem mw_355 : .fieldLink RCM 68 "MemberChoiceModel" "types" "I" ∈ wAll := wa (tb_3 _ (List.mem_of_getElem? (i := 85) rfl)) rfl
theorem mw_356 : .fieldLink RCM 13 "MemberChoiceModel" "parents" "[I" ∈ wAll := wa (tb_3 _ (List.mem_of_getElem? (i := 87) rfl)) rfl
theorem mw_357 : .fieldLink RCM 7 "MemberChoiceModel" "isFace" "[Z" ∈ wAll := wa (tb_3 _ (List.mem_of_getElem? (i := 86) rfl)) rfl
theorem mw_358 : .fieldLink RCM 17 "MemberChoiceModel" "aboveCounts" "[I" ∈ wAll := wa (tb_3 _ (List.mem_of_getElem? (i := 88) rfl)) rfl
theorem mw_359 : .fieldLink RCM 65 "MemberChoiceModel" "functions" "[I" ∈ wAll := wa (tb_3 _ (List.mem_of_getElem? (i := 107) rfl)) rfl
theorem mw_360 : .methodLink RCM 79 yCM_forgetFunctions ∈ wAll := wa (tb_3 _ (List.mem_of_getElem? (i := 167) rfl)) rfl
theorem mw_361 : .instanceMethod yCM_forgetFunctions ∈ wAll := wa (tb_3 _ (List.mem_of_getElem? (i := 169) rfl)) rfl
theorem mw_362 : .selects RCM yCM_forgetFunctions yCM_forgetFunctions ∈ wAll := wa (ps_2 _ (List.mem_of_getElem? (i := 10) rfl)) rfl
theorem mw_363 : .initialized RCM ∈ wAll := wa (tb_1 _ (List.mem_of_getElem? (i := 9) rfl)) rfl
theorem mw_364 : .code yCM_forgetFunctions cCM_forgetFunctions 2 none ∈ wAll := wa (tb_3 _ (List.mem_of_getElem? (i := 170) rfl)) rfl
theorem mw_365 : .fieldLink RCM 23 "MemberChoiceModel" "isOne" "[Z" ∈ wAll := wa (tb_3 _ (List.mem_of_getElem? (i := 90) rfl)) rfl
theorem mw_366 : .fieldLink RCM 20 "MemberChoiceModel" "above" "[I" ∈ wAll := wa (tb_3 _ (List.mem_of_getElem? (i := 89) rfl)) rfl
theorem mw_367 : .methodLink RCM 95 yCM_closeTypes ∈ wAll := wa (tb_3 _ (List.mem_of_getElem? (i := 163) rfl)) rfl
theorem mw_368 : .instanceMethod yCM_closeTypes ∈ wAll := wa (tb_3 _ (List.mem_of_getElem? (i := 165) rfl)) rfl
theorem mw_369 : .selects RCM yCM_closeTypes yCM_closeTypes ∈ wAll := wa (ps_2 _ (List.mem_of_getElem? (i := 9) rfl)) rfl
theorem mw_370 : .code yCM_closeTypes cCM_closeTypes 5 none ∈ wAll := wa (tb_3 _ (List.mem_of_getElem? (i := 166) rfl)) rfl
theorem mw_371 : .methodLink RCM 72 yCM_isTold ∈ wAll := wa (tb_3 _ (List.mem_of_getElem? (i := 159) rfl)) rfl
theorem mw_372 : .instanceMethod yCM_isTold ∈ wAll := wa (tb_3 _ (List.mem_of_getElem? (i := 161) rfl)) rfl
theorem mw_373 : .selects RCM yCM_isTold yCM_isTold ∈ wAll := wa (ps_2 _ (List.mem_of_getElem? (i := 8) rfl)) rfl
theorem mw_374 : .code yCM_isTold cCM_isTold 2 (some .boolean) ∈ wAll := wa (tb_3 _ (List.mem_of_getElem? (i := 162) rfl)) rfl
theorem mw_375 : .methodLink RCM 76 yCM_isPlain ∈ wAll := wa (tb_3 _ (List.mem_of_getElem? (i := 187) rfl)) rfl
theorem mw_376 : .instanceMethod yCM_isPlain ∈ wAll := wa (tb_3 _ (List.mem_of_getElem? (i := 189) rfl)) rfl
theorem mw_377 : .selects RCM yCM_isPlain yCM_isPlain ∈ wAll := wa (ps_2 _ (List.mem_of_getElem? (i := 12) rfl)) rfl
theorem mw_378 : .code yCM_isPlain cCM_isPlain 2 (some .boolean) ∈ wAll := wa (tb_3 _ (List.mem_of_getElem? (i := 190) rfl)) rfl
theorem mw_379 : .methodLink RCM 98 yCM_isType ∈ wAll := wa (tb_3 _ (List.mem_of_getElem? (i := 183) rfl)) rfl
theorem mw_380 : .instanceMethod yCM_isType ∈ wAll := wa (tb_3 _ (List.mem_of_getElem? (i := 185) rfl)) rfl
theorem mw_381 : .selects RCM yCM_isType yCM_isType ∈ wAll := wa (ps_2 _ (List.mem_of_getElem? (i := 11) rfl)) rfl
theorem mw_382 : .code yCM_isType cCM_isType 2 (some .boolean) ∈ wAll := wa (tb_3 _ (List.mem_of_getElem? (i := 186) rfl)) rfl
theorem mw_383 : .methodLink RCM 82 yCM_isPrimitive ∈ wAll := wa (tb_3 _ (List.mem_of_getElem? (i := 195) rfl)) rfl
theorem mw_384 : .static yCM_isPrimitive ∈ wAll := wa (tb_3 _ (List.mem_of_getElem? (i := 196) rfl)) rfl
theorem mw_385 : .code yCM_isPrimitive cCM_isPrimitive 1 (some .boolean) ∈ wAll := wa (tb_3 _ (List.mem_of_getElem? (i := 197) rfl)) rfl
theorem mw_386 : .methodLink RCM 85 yCM_plainIs ∈ wAll := wa (tb_3 _ (List.mem_of_getElem? (i := 198) rfl)) rfl
theorem mw_387 : .instanceMethod yCM_plainIs ∈ wAll := wa (tb_3 _ (List.mem_of_getElem? (i := 200) rfl)) rfl
theorem mw_388 : .selects RCM yCM_plainIs yCM_plainIs ∈ wAll := wa (ps_2 _ (List.mem_of_getElem? (i := 14) rfl)) rfl
theorem mw_389 : .code yCM_plainIs cCM_plainIs 3 (some .boolean) ∈ wAll := wa (tb_3 _ (List.mem_of_getElem? (i := 201) rfl)) rfl
theorem mw_390 : .methodLink RCM 89 yCM_isIt ∈ wAll := wa (tb_3 _ (List.mem_of_getElem? (i := 191) rfl)) rfl
theorem mw_391 : .instanceMethod yCM_isIt ∈ wAll := wa (tb_3 _ (List.mem_of_getElem? (i := 193) rfl)) rfl
theorem mw_392 : .selects RCM yCM_isIt yCM_isIt ∈ wAll := wa (ps_2 _ (List.mem_of_getElem? (i := 13) rfl)) rfl
theorem mw_393 : .code yCM_isIt cCM_isIt 3 (some .boolean) ∈ wAll := wa (tb_3 _ (List.mem_of_getElem? (i := 194) rfl)) rfl
theorem mw_394 : .methodLink RCM 92 yCM_isBox ∈ wAll := wa (tb_3 _ (List.mem_of_getElem? (i := 210) rfl)) rfl
theorem mw_395 : .static yCM_isBox ∈ wAll := wa (tb_3 _ (List.mem_of_getElem? (i := 211) rfl)) rfl
theorem mw_396 : .code yCM_isBox cCM_isBox 1 (some .boolean) ∈ wAll := wa (tb_3 _ (List.mem_of_getElem? (i := 212) rfl)) rfl
theorem mw_397 : .methodLink RCM 101 yCM_fitsIt ∈ wAll := wa (tb_3 _ (List.mem_of_getElem? (i := 206) rfl)) rfl
theorem mw_398 : .instanceMethod yCM_fitsIt ∈ wAll := wa (tb_3 _ (List.mem_of_getElem? (i := 208) rfl)) rfl
theorem mw_399 : .selects RCM yCM_fitsIt yCM_fitsIt ∈ wAll := wa (ps_2 _ (List.mem_of_getElem? (i := 15) rfl)) rfl
theorem mw_400 : .code yCM_fitsIt cCM_fitsIt 3 (some .boolean) ∈ wAll := wa (tb_3 _ (List.mem_of_getElem? (i := 209) rfl)) rfl
theorem mw_401 : .fieldLink RCM 110 "MemberChoiceModel" "members" "I" ∈ wAll := wa (tb_3 _ (List.mem_of_getElem? (i := 91) rfl)) rfl
theorem mw_402 : .fieldLink RCM 26 "MemberChoiceModel" "owners" "[I" ∈ wAll := wa (tb_3 _ (List.mem_of_getElem? (i := 92) rfl)) rfl
theorem mw_403 : .fieldLink RCM 29 "MemberChoiceModel" "names" "[I" ∈ wAll := wa (tb_3 _ (List.mem_of_getElem? (i := 93) rfl)) rfl
theorem mw_404 : .fieldLink RCM 32 "MemberChoiceModel" "marks" "[I" ∈ wAll := wa (tb_3 _ (List.mem_of_getElem? (i := 94) rfl)) rfl
theorem mw_405 : .fieldLink RCM 35 "MemberChoiceModel" "results" "[I" ∈ wAll := wa (tb_3 _ (List.mem_of_getElem? (i := 95) rfl)) rfl
theorem mw_406 : .fieldLink RCM 38 "MemberChoiceModel" "counts" "[I" ∈ wAll := wa (tb_3 _ (List.mem_of_getElem? (i := 96) rfl)) rfl
theorem mw_407 : .fieldLink RCM 41 "MemberChoiceModel" "params" "[I" ∈ wAll := wa (tb_3 _ (List.mem_of_getElem? (i := 97) rfl)) rfl
theorem mw_408 : .methodLink RCM 113 yCM_parameter ∈ wAll := wa (tb_3 _ (List.mem_of_getElem? (i := 224) rfl)) rfl
theorem mw_409 : .static yCM_parameter ∈ wAll := wa (tb_3 _ (List.mem_of_getElem? (i := 225) rfl)) rfl
theorem mw_410 : .code yCM_parameter cCM_parameter 5 (some .int) ∈ wAll := wa (tb_3 _ (List.mem_of_getElem? (i := 226) rfl)) rfl
theorem mw_411 : .methodLink RCM 107 yCM_isValue ∈ wAll := wa (tb_3 _ (List.mem_of_getElem? (i := 220) rfl)) rfl
theorem mw_412 : .instanceMethod yCM_isValue ∈ wAll := wa (tb_3 _ (List.mem_of_getElem? (i := 222) rfl)) rfl
theorem mw_413 : .selects RCM yCM_isValue yCM_isValue ∈ wAll := wa (ps_3 _ (List.mem_of_getElem? (i := 0) rfl)) rfl
theorem mw_414 : .code yCM_isValue cCM_isValue 2 (some .boolean) ∈ wAll := wa (tb_3 _ (List.mem_of_getElem? (i := 223) rfl)) rfl
theorem mw_415 : .methodLink RCM 104 yCM_isName ∈ wAll := wa (tb_3 _ (List.mem_of_getElem? (i := 217) rfl)) rfl
theorem mw_416 : .static yCM_isName ∈ wAll := wa (tb_3 _ (List.mem_of_getElem? (i := 218) rfl)) rfl
theorem mw_417 : .code yCM_isName cCM_isName 1 (some .boolean) ∈ wAll := wa (tb_3 _ (List.mem_of_getElem? (i := 219) rfl)) rfl
theorem mw_418 : .methodLink RCM 117 yCM_has ∈ wAll := wa (tb_3 _ (List.mem_of_getElem? (i := 239) rfl)) rfl
theorem mw_419 : .instanceMethod yCM_has ∈ wAll := wa (tb_4 _ (List.mem_of_getElem? (i := 1) rfl)) rfl
theorem mw_420 : .selects RCM yCM_has yCM_has ∈ wAll := wa (ps_3 _ (List.mem_of_getElem? (i := 3) rfl)) rfl
theorem mw_421 : .code yCM_has cCM_has 3 (some .boolean) ∈ wAll := wa (tb_4 _ (List.mem_of_getElem? (i := 2) rfl)) rfl
theorem mw_422 : .methodLink RCM 120 yCM_sameParams ∈ wAll := wa (tb_4 _ (List.mem_of_getElem? (i := 7) rfl)) rfl
theorem mw_423 : .instanceMethod yCM_sameParams ∈ wAll := wa (tb_4 _ (List.mem_of_getElem? (i := 9) rfl)) rfl
theorem mw_424 : .selects RCM yCM_sameParams yCM_sameParams ∈ wAll := wa (ps_3 _ (List.mem_of_getElem? (i := 5) rfl)) rfl
theorem mw_425 : .code yCM_sameParams cCM_sameParams 5 (some .boolean) ∈ wAll := wa (tb_4 _ (List.mem_of_getElem? (i := 10) rfl)) rfl
theorem mw_426 : .methodLink RCM 127 yCM_isSeen ∈ wAll := wa (tb_4 _ (List.mem_of_getElem? (i := 3) rfl)) rfl
theorem mw_427 : .instanceMethod yCM_isSeen ∈ wAll := wa (tb_4 _ (List.mem_of_getElem? (i := 5) rfl)) rfl
theorem mw_428 : .selects RCM yCM_isSeen yCM_isSeen ∈ wAll := wa (ps_3 _ (List.mem_of_getElem? (i := 4) rfl)) rfl
theorem mw_429 : .code yCM_isSeen cCM_isSeen 6 (some .boolean) ∈ wAll := wa (tb_4 _ (List.mem_of_getElem? (i := 6) rfl)) rfl
theorem mw_430 : .methodLink RCM 123 yCM_findFunction ∈ wAll := wa (tb_3 _ (List.mem_of_getElem? (i := 235) rfl)) rfl
theorem mw_431 : .instanceMethod yCM_findFunction ∈ wAll := wa (tb_3 _ (List.mem_of_getElem? (i := 237) rfl)) rfl
theorem mw_432 : .selects RCM yCM_findFunction yCM_findFunction ∈ wAll := wa (ps_3 _ (List.mem_of_getElem? (i := 2) rfl)) rfl
theorem mw_433 : .code yCM_findFunction cCM_findFunction 4 (some .int) ∈ wAll := wa (tb_3 _ (List.mem_of_getElem? (i := 238) rfl)) rfl
theorem mw_434 : .methodLink RCM 131 yCM_functionOf ∈ wAll := wa (tb_3 _ (List.mem_of_getElem? (i := 231) rfl)) rfl
theorem mw_435 : .instanceMethod yCM_functionOf ∈ wAll := wa (tb_3 _ (List.mem_of_getElem? (i := 233) rfl)) rfl
theorem mw_436 : .selects RCM yCM_functionOf yCM_functionOf ∈ wAll := wa (ps_3 _ (List.mem_of_getElem? (i := 1) rfl)) rfl
theorem mw_437 : .code yCM_functionOf cCM_functionOf 2 (some .int) ∈ wAll := wa (tb_3 _ (List.mem_of_getElem? (i := 234) rfl)) rfl
theorem mw_438 : .methodLink RCM 134 yCM_isAsked ∈ wAll := wa (tb_4 _ (List.mem_of_getElem? (i := 15) rfl)) rfl
theorem mw_439 : .instanceMethod yCM_isAsked ∈ wAll := wa (tb_4 _ (List.mem_of_getElem? (i := 17) rfl)) rfl
theorem mw_440 : .selects RCM yCM_isAsked yCM_isAsked ∈ wAll := wa (ps_3 _ (List.mem_of_getElem? (i := 6) rfl)) rfl
theorem mw_441 : .code yCM_isAsked cCM_isAsked 4 (some .boolean) ∈ wAll := wa (tb_4 _ (List.mem_of_getElem? (i := 18) rfl)) rfl
theorem mw_442 : .fieldLink RCM 137 "MemberChoiceModel" "arguments" "I" ∈ wAll := wa (tb_3 _ (List.mem_of_getElem? (i := 98) rfl)) rfl
theorem mw_443 : .fieldLink RCM 44 "MemberChoiceModel" "argTypes" "[I" ∈ wAll := wa (tb_3 _ (List.mem_of_getElem? (i := 99) rfl)) rfl
theorem mw_444 : .fieldLink RCM 47 "MemberChoiceModel" "lambdas" "[I" ∈ wAll := wa (tb_3 _ (List.mem_of_getElem? (i := 100) rfl)) rfl
theorem mw_445 : .fieldLink RCM 50 "MemberChoiceModel" "lambdaCounts" "[I" ∈ wAll := wa (tb_3 _ (List.mem_of_getElem? (i := 101) rfl)) rfl
theorem mw_446 : .fieldLink RCM 53 "MemberChoiceModel" "lambdaParams" "[I" ∈ wAll := wa (tb_3 _ (List.mem_of_getElem? (i := 102) rfl)) rfl
theorem mw_447 : .fieldLink RCM 56 "MemberChoiceModel" "lambdaResults" "[I" ∈ wAll := wa (tb_3 _ (List.mem_of_getElem? (i := 103) rfl)) rfl
theorem mw_448 : .fieldLink RCM 153 "MemberChoiceModel" "phase" "I" ∈ wAll := wa (tb_3 _ (List.mem_of_getElem? (i := 104) rfl)) rfl
theorem mw_449 : .fieldLink RCM 59 "MemberChoiceModel" "applies" "[Z" ∈ wAll := wa (tb_3 _ (List.mem_of_getElem? (i := 105) rfl)) rfl
theorem mw_450 : .fieldLink RCM 62 "MemberChoiceModel" "specials" "[Z" ∈ wAll := wa (tb_3 _ (List.mem_of_getElem? (i := 106) rfl)) rfl
theorem mw_451 : .methodLink RCM 168 yCM_mostSpecial ∈ wAll := wa (tb_4 _ (List.mem_of_getElem? (i := 71) rfl)) rfl
theorem mw_452 : .instanceMethod yCM_mostSpecial ∈ wAll := wa (tb_4 _ (List.mem_of_getElem? (i := 73) rfl)) rfl
theorem mw_453 : .selects RCM yCM_mostSpecial yCM_mostSpecial ∈ wAll := wa (ps_3 _ (List.mem_of_getElem? (i := 15) rfl)) rfl
theorem mw_454 : .code yCM_mostSpecial cCM_mostSpecial 9 (some .int) ∈ wAll := wa (tb_4 _ (List.mem_of_getElem? (i := 74) rfl)) rfl
theorem mw_455 : .methodLink RCM 143 yCM_typeAt ∈ wAll := wa (tb_4 _ (List.mem_of_getElem? (i := 47) rfl)) rfl
theorem mw_456 : .instanceMethod yCM_typeAt ∈ wAll := wa (tb_4 _ (List.mem_of_getElem? (i := 49) rfl)) rfl
theorem mw_457 : .selects RCM yCM_typeAt yCM_typeAt ∈ wAll := wa (ps_3 _ (List.mem_of_getElem? (i := 9) rfl)) rfl
theorem mw_458 : .code yCM_typeAt cCM_typeAt 5 (some .int) ∈ wAll := wa (tb_4 _ (List.mem_of_getElem? (i := 50) rfl)) rfl
theorem mw_459 : .methodLink RCM 156 yCM_isFiner ∈ wAll := wa (tb_4 _ (List.mem_of_getElem? (i := 67) rfl)) rfl
theorem mw_460 : .instanceMethod yCM_isFiner ∈ wAll := wa (tb_4 _ (List.mem_of_getElem? (i := 69) rfl)) rfl
theorem mw_461 : .selects RCM yCM_isFiner yCM_isFiner ∈ wAll := wa (ps_3 _ (List.mem_of_getElem? (i := 14) rfl)) rfl
theorem mw_462 : .code yCM_isFiner cCM_isFiner 9 (some .boolean) ∈ wAll := wa (tb_4 _ (List.mem_of_getElem? (i := 70) rfl)) rfl
theorem mw_463 : .methodLink RCM 165 yCM_isSpecial ∈ wAll := wa (tb_4 _ (List.mem_of_getElem? (i := 63) rfl)) rfl
theorem mw_464 : .instanceMethod yCM_isSpecial ∈ wAll := wa (tb_4 _ (List.mem_of_getElem? (i := 65) rfl)) rfl
theorem mw_465 : .selects RCM yCM_isSpecial yCM_isSpecial ∈ wAll := wa (ps_3 _ (List.mem_of_getElem? (i := 13) rfl)) rfl
theorem mw_466 : .code yCM_isSpecial cCM_isSpecial 7 (some .boolean) ∈ wAll := wa (tb_4 _ (List.mem_of_getElem? (i := 66) rfl)) rfl
theorem mw_467 : .methodLink RCM 140 yCM_hasShape ∈ wAll := wa (tb_4 _ (List.mem_of_getElem? (i := 43) rfl)) rfl
theorem mw_468 : .instanceMethod yCM_hasShape ∈ wAll := wa (tb_4 _ (List.mem_of_getElem? (i := 45) rfl)) rfl
theorem mw_469 : .selects RCM yCM_hasShape yCM_hasShape ∈ wAll := wa (ps_3 _ (List.mem_of_getElem? (i := 8) rfl)) rfl
theorem mw_470 : .code yCM_hasShape cCM_hasShape 4 (some .boolean) ∈ wAll := wa (tb_4 _ (List.mem_of_getElem? (i := 46) rfl)) rfl
theorem mw_471 : .methodLink RCM 150 yCM_passes ∈ wAll := wa (tb_4 _ (List.mem_of_getElem? (i := 59) rfl)) rfl
theorem mw_472 : .instanceMethod yCM_passes ∈ wAll := wa (tb_4 _ (List.mem_of_getElem? (i := 61) rfl)) rfl
theorem mw_473 : .selects RCM yCM_passes yCM_passes ∈ wAll := wa (ps_3 _ (List.mem_of_getElem? (i := 12) rfl)) rfl
theorem mw_474 : .code yCM_passes cCM_passes 4 (some .boolean) ∈ wAll := wa (tb_4 _ (List.mem_of_getElem? (i := 62) rfl)) rfl
theorem mw_475 : .methodLink RCM 147 yCM_takes ∈ wAll := wa (tb_4 _ (List.mem_of_getElem? (i := 55) rfl)) rfl
theorem mw_476 : .instanceMethod yCM_takes ∈ wAll := wa (tb_4 _ (List.mem_of_getElem? (i := 57) rfl)) rfl
theorem mw_477 : .selects RCM yCM_takes yCM_takes ∈ wAll := wa (ps_3 _ (List.mem_of_getElem? (i := 11) rfl)) rfl
theorem mw_478 : .code yCM_takes cCM_takes 7 (some .boolean) ∈ wAll := wa (tb_4 _ (List.mem_of_getElem? (i := 58) rfl)) rfl
theorem mw_479 : .methodLink RCM 162 yCM_doesApply ∈ wAll := wa (tb_4 _ (List.mem_of_getElem? (i := 51) rfl)) rfl
theorem mw_480 : .instanceMethod yCM_doesApply ∈ wAll := wa (tb_4 _ (List.mem_of_getElem? (i := 53) rfl)) rfl
theorem mw_481 : .selects RCM yCM_doesApply yCM_doesApply ∈ wAll := wa (ps_3 _ (List.mem_of_getElem? (i := 10) rfl)) rfl
theorem mw_482 : .code yCM_doesApply cCM_doesApply 5 (some .boolean) ∈ wAll := wa (tb_4 _ (List.mem_of_getElem? (i := 54) rfl)) rfl
theorem mw_483 : .methodLink RCM 159 yCM_isMeant ∈ wAll := wa (tb_4 _ (List.mem_of_getElem? (i := 39) rfl)) rfl
theorem mw_484 : .instanceMethod yCM_isMeant ∈ wAll := wa (tb_4 _ (List.mem_of_getElem? (i := 41) rfl)) rfl
theorem mw_485 : .selects RCM yCM_isMeant yCM_isMeant ∈ wAll := wa (ps_3 _ (List.mem_of_getElem? (i := 7) rfl)) rfl
theorem mw_486 : .code yCM_isMeant cCM_isMeant 5 (some .boolean) ∈ wAll := wa (tb_4 _ (List.mem_of_getElem? (i := 42) rfl)) rfl
theorem mw_487 : .methodLink RCL 13 yC0_cls ∈ wAll := wa (tb_1 _ (List.mem_of_getElem? (i := 177) rfl)) rfl
theorem mw_488 : .instanceMethod yC0_cls ∈ wAll := wa (tb_1 _ (List.mem_of_getElem? (i := 178) rfl)) rfl
theorem mw_489 : .selects RC0 yC0_cls yC0_cls ∈ wAll := wa (tb_1 _ (List.mem_of_getElem? (i := 179) rfl)) rfl
theorem mw_490 : .code yC0_cls cC0_cls 3 (some .int) ∈ wAll := wa (tb_1 _ (List.mem_of_getElem? (i := 180) rfl)) rfl
theorem mw_491 : .methodLink RCL 17 yCM_cls ∈ wAll := wa (tb_3 _ (List.mem_of_getElem? (i := 155) rfl)) rfl
theorem mw_492 : .instanceMethod yCM_cls ∈ wAll := wa (tb_3 _ (List.mem_of_getElem? (i := 156) rfl)) rfl
theorem mw_493 : .selects RCM yCM_cls yCM_cls ∈ wAll := wa (tb_3 _ (List.mem_of_getElem? (i := 157) rfl)) rfl
theorem mw_494 : .code yCM_cls cCM_cls 2 (some .int) ∈ wAll := wa (tb_3 _ (List.mem_of_getElem? (i := 158) rfl)) rfl
theorem mw_495 : .methodLink RCL 18 yC0_face ∈ wAll := wa (tb_1 _ (List.mem_of_getElem? (i := 194) rfl)) rfl
theorem mw_496 : .instanceMethod yC0_face ∈ wAll := wa (tb_1 _ (List.mem_of_getElem? (i := 195) rfl)) rfl
theorem mw_497 : .selects RC0 yC0_face yC0_face ∈ wAll := wa (tb_1 _ (List.mem_of_getElem? (i := 196) rfl)) rfl
theorem mw_498 : .code yC0_face cC0_face 1 (some .int) ∈ wAll := wa (tb_1 _ (List.mem_of_getElem? (i := 197) rfl)) rfl
theorem mw_499 : .methodLink RCL 22 yCM_face ∈ wAll := wa (tb_3 _ (List.mem_of_getElem? (i := 171) rfl)) rfl
theorem mw_500 : .instanceMethod yCM_face ∈ wAll := wa (tb_3 _ (List.mem_of_getElem? (i := 172) rfl)) rfl
theorem mw_501 : .selects RCM yCM_face yCM_face ∈ wAll := wa (tb_3 _ (List.mem_of_getElem? (i := 173) rfl)) rfl
theorem mw_502 : .code yCM_face cCM_face 1 (some .int) ∈ wAll := wa (tb_3 _ (List.mem_of_getElem? (i := 174) rfl)) rfl
theorem mw_503 : .methodLink RCL 23 yC0_below ∈ wAll := wa (tb_1 _ (List.mem_of_getElem? (i := 198) rfl)) rfl
theorem mw_504 : .instanceMethod yC0_below ∈ wAll := wa (tb_1 _ (List.mem_of_getElem? (i := 199) rfl)) rfl
theorem mw_505 : .selects RC0 yC0_below yC0_below ∈ wAll := wa (tb_1 _ (List.mem_of_getElem? (i := 200) rfl)) rfl
theorem mw_506 : .code yC0_below cC0_below 4 (some .int) ∈ wAll := wa (tb_1 _ (List.mem_of_getElem? (i := 201) rfl)) rfl
theorem mw_507 : .methodLink RCL 27 yCM_below ∈ wAll := wa (tb_3 _ (List.mem_of_getElem? (i := 175) rfl)) rfl
theorem mw_508 : .instanceMethod yCM_below ∈ wAll := wa (tb_3 _ (List.mem_of_getElem? (i := 176) rfl)) rfl
theorem mw_509 : .selects RCM yCM_below yCM_below ∈ wAll := wa (tb_3 _ (List.mem_of_getElem? (i := 177) rfl)) rfl
theorem mw_510 : .code yCM_below cCM_below 6 (some .int) ∈ wAll := wa (tb_3 _ (List.mem_of_getElem? (i := 178) rfl)) rfl
theorem mw_511 : .methodLink RCL 28 yC0_member ∈ wAll := wa (tb_1 _ (List.mem_of_getElem? (i := 221) rfl)) rfl
theorem mw_512 : .instanceMethod yC0_member ∈ wAll := wa (tb_1 _ (List.mem_of_getElem? (i := 222) rfl)) rfl
theorem mw_513 : .selects RC0 yC0_member yC0_member ∈ wAll := wa (tb_1 _ (List.mem_of_getElem? (i := 223) rfl)) rfl
theorem mw_514 : .code yC0_member cC0_member 10 (some .int) ∈ wAll := wa (tb_1 _ (List.mem_of_getElem? (i := 224) rfl)) rfl
theorem mw_515 : .methodLink RCL 32 yCM_member ∈ wAll := wa (tb_3 _ (List.mem_of_getElem? (i := 213) rfl)) rfl
theorem mw_516 : .instanceMethod yCM_member ∈ wAll := wa (tb_3 _ (List.mem_of_getElem? (i := 214) rfl)) rfl
theorem mw_517 : .selects RCM yCM_member yCM_member ∈ wAll := wa (tb_3 _ (List.mem_of_getElem? (i := 215) rfl)) rfl
theorem mw_518 : .code yCM_member cCM_member 15 (some .int) ∈ wAll := wa (tb_3 _ (List.mem_of_getElem? (i := 216) rfl)) rfl
theorem mw_519 : .methodLink RCL 33 yC0_is ∈ wAll := wa (tb_2 _ (List.mem_of_getElem? (i := 58) rfl)) rfl
theorem mw_520 : .instanceMethod yC0_is ∈ wAll := wa (tb_2 _ (List.mem_of_getElem? (i := 59) rfl)) rfl
theorem mw_521 : .selects RC0 yC0_is yC0_is ∈ wAll := wa (tb_2 _ (List.mem_of_getElem? (i := 60) rfl)) rfl
theorem mw_522 : .code yC0_is cC0_is 3 (some .int) ∈ wAll := wa (tb_2 _ (List.mem_of_getElem? (i := 61) rfl)) rfl
theorem mw_523 : .methodLink RCL 36 yCM_is ∈ wAll := wa (tb_3 _ (List.mem_of_getElem? (i := 179) rfl)) rfl
theorem mw_524 : .instanceMethod yCM_is ∈ wAll := wa (tb_3 _ (List.mem_of_getElem? (i := 180) rfl)) rfl
theorem mw_525 : .selects RCM yCM_is yCM_is ∈ wAll := wa (tb_3 _ (List.mem_of_getElem? (i := 181) rfl)) rfl
theorem mw_526 : .code yCM_is cCM_is 3 (some .int) ∈ wAll := wa (tb_3 _ (List.mem_of_getElem? (i := 182) rfl)) rfl
theorem mw_527 : .methodLink RCL 37 yC0_fits ∈ wAll := wa (tb_2 _ (List.mem_of_getElem? (i := 74) rfl)) rfl
theorem mw_528 : .instanceMethod yC0_fits ∈ wAll := wa (tb_2 _ (List.mem_of_getElem? (i := 75) rfl)) rfl
theorem mw_529 : .selects RC0 yC0_fits yC0_fits ∈ wAll := wa (tb_2 _ (List.mem_of_getElem? (i := 76) rfl)) rfl
theorem mw_530 : .code yC0_fits cC0_fits 3 (some .int) ∈ wAll := wa (tb_2 _ (List.mem_of_getElem? (i := 77) rfl)) rfl
theorem mw_531 : .methodLink RCL 40 yCM_fits ∈ wAll := wa (tb_3 _ (List.mem_of_getElem? (i := 202) rfl)) rfl
theorem mw_532 : .instanceMethod yCM_fits ∈ wAll := wa (tb_3 _ (List.mem_of_getElem? (i := 203) rfl)) rfl
theorem mw_533 : .selects RCM yCM_fits yCM_fits ∈ wAll := wa (tb_3 _ (List.mem_of_getElem? (i := 204) rfl)) rfl
theorem mw_534 : .code yCM_fits cCM_fits 3 (some .int) ∈ wAll := wa (tb_3 _ (List.mem_of_getElem? (i := 205) rfl)) rfl
theorem mw_535 : .methodLink RCL 41 yC0_function ∈ wAll := wa (tb_2 _ (List.mem_of_getElem? (i := 78) rfl)) rfl
theorem mw_536 : .instanceMethod yC0_function ∈ wAll := wa (tb_2 _ (List.mem_of_getElem? (i := 79) rfl)) rfl
theorem mw_537 : .selects RC0 yC0_function yC0_function ∈ wAll := wa (tb_2 _ (List.mem_of_getElem? (i := 80) rfl)) rfl
theorem mw_538 : .code yC0_function cC0_function 2 (some .int) ∈ wAll := wa (tb_2 _ (List.mem_of_getElem? (i := 81) rfl)) rfl
theorem mw_539 : .methodLink RCL 44 yCM_function ∈ wAll := wa (tb_3 _ (List.mem_of_getElem? (i := 227) rfl)) rfl
theorem mw_540 : .instanceMethod yCM_function ∈ wAll := wa (tb_3 _ (List.mem_of_getElem? (i := 228) rfl)) rfl
theorem mw_541 : .selects RCM yCM_function yCM_function ∈ wAll := wa (tb_3 _ (List.mem_of_getElem? (i := 229) rfl)) rfl
theorem mw_542 : .code yCM_function cCM_function 2 (some .int) ∈ wAll := wa (tb_3 _ (List.mem_of_getElem? (i := 230) rfl)) rfl
theorem mw_543 : .methodLink RCL 45 yC0_seen ∈ wAll := wa (tb_2 _ (List.mem_of_getElem? (i := 111) rfl)) rfl
theorem mw_544 : .instanceMethod yC0_seen ∈ wAll := wa (tb_2 _ (List.mem_of_getElem? (i := 112) rfl)) rfl
theorem mw_545 : .selects RC0 yC0_seen yC0_seen ∈ wAll := wa (tb_2 _ (List.mem_of_getElem? (i := 113) rfl)) rfl
theorem mw_546 : .code yC0_seen cC0_seen 4 (some .int) ∈ wAll := wa (tb_2 _ (List.mem_of_getElem? (i := 114) rfl)) rfl
theorem mw_547 : .methodLink RCL 49 yCM_seen ∈ wAll := wa (tb_4 _ (List.mem_of_getElem? (i := 11) rfl)) rfl
theorem mw_548 : .instanceMethod yCM_seen ∈ wAll := wa (tb_4 _ (List.mem_of_getElem? (i := 12) rfl)) rfl
theorem mw_549 : .selects RCM yCM_seen yCM_seen ∈ wAll := wa (tb_4 _ (List.mem_of_getElem? (i := 13) rfl)) rfl
theorem mw_550 : .code yCM_seen cCM_seen 6 (some .int) ∈ wAll := wa (tb_4 _ (List.mem_of_getElem? (i := 14) rfl)) rfl
theorem mw_551 : .methodLink RCL 50 yC0_seenAt ∈ wAll := wa (tb_2 _ (List.mem_of_getElem? (i := 123) rfl)) rfl
theorem mw_552 : .instanceMethod yC0_seenAt ∈ wAll := wa (tb_2 _ (List.mem_of_getElem? (i := 124) rfl)) rfl
theorem mw_553 : .selects RC0 yC0_seenAt yC0_seenAt ∈ wAll := wa (tb_2 _ (List.mem_of_getElem? (i := 125) rfl)) rfl
theorem mw_554 : .code yC0_seenAt cC0_seenAt 6 (some .int) ∈ wAll := wa (tb_2 _ (List.mem_of_getElem? (i := 126) rfl)) rfl
theorem mw_555 : .methodLink RCL 54 yCM_seenAt ∈ wAll := wa (tb_4 _ (List.mem_of_getElem? (i := 19) rfl)) rfl
theorem mw_556 : .instanceMethod yCM_seenAt ∈ wAll := wa (tb_4 _ (List.mem_of_getElem? (i := 20) rfl)) rfl
theorem mw_557 : .selects RCM yCM_seenAt yCM_seenAt ∈ wAll := wa (tb_4 _ (List.mem_of_getElem? (i := 21) rfl)) rfl
theorem mw_558 : .code yCM_seenAt cCM_seenAt 7 (some .int) ∈ wAll := wa (tb_4 _ (List.mem_of_getElem? (i := 22) rfl)) rfl
theorem mw_559 : .methodLink RCL 55 yC0_argument ∈ wAll := wa (tb_2 _ (List.mem_of_getElem? (i := 127) rfl)) rfl
theorem mw_560 : .instanceMethod yC0_argument ∈ wAll := wa (tb_2 _ (List.mem_of_getElem? (i := 128) rfl)) rfl
theorem mw_561 : .selects RC0 yC0_argument yC0_argument ∈ wAll := wa (tb_2 _ (List.mem_of_getElem? (i := 129) rfl)) rfl
theorem mw_562 : .code yC0_argument cC0_argument 2 (some .int) ∈ wAll := wa (tb_2 _ (List.mem_of_getElem? (i := 130) rfl)) rfl
theorem mw_563 : .methodLink RCL 58 yCM_argument ∈ wAll := wa (tb_4 _ (List.mem_of_getElem? (i := 23) rfl)) rfl
theorem mw_564 : .instanceMethod yCM_argument ∈ wAll := wa (tb_4 _ (List.mem_of_getElem? (i := 24) rfl)) rfl
theorem mw_565 : .selects RCM yCM_argument yCM_argument ∈ wAll := wa (tb_4 _ (List.mem_of_getElem? (i := 25) rfl)) rfl
theorem mw_566 : .code yCM_argument cCM_argument 2 (some .int) ∈ wAll := wa (tb_4 _ (List.mem_of_getElem? (i := 26) rfl)) rfl
theorem mw_567 : .methodLink RCL 59 yC0_lambda ∈ wAll := wa (tb_2 _ (List.mem_of_getElem? (i := 135) rfl)) rfl
theorem mw_568 : .instanceMethod yC0_lambda ∈ wAll := wa (tb_2 _ (List.mem_of_getElem? (i := 136) rfl)) rfl
theorem mw_569 : .selects RC0 yC0_lambda yC0_lambda ∈ wAll := wa (tb_2 _ (List.mem_of_getElem? (i := 137) rfl)) rfl
theorem mw_570 : .code yC0_lambda cC0_lambda 8 (some .int) ∈ wAll := wa (tb_2 _ (List.mem_of_getElem? (i := 138) rfl)) rfl
theorem mw_571 : .methodLink RCL 63 yCM_lambda ∈ wAll := wa (tb_4 _ (List.mem_of_getElem? (i := 27) rfl)) rfl
theorem mw_572 : .instanceMethod yCM_lambda ∈ wAll := wa (tb_4 _ (List.mem_of_getElem? (i := 28) rfl)) rfl
theorem mw_573 : .selects RCM yCM_lambda yCM_lambda ∈ wAll := wa (tb_4 _ (List.mem_of_getElem? (i := 29) rfl)) rfl
theorem mw_574 : .code yCM_lambda cCM_lambda 6 (some .int) ∈ wAll := wa (tb_4 _ (List.mem_of_getElem? (i := 30) rfl)) rfl
theorem mw_575 : .methodLink RCL 64 yC0_wipe ∈ wAll := wa (tb_2 _ (List.mem_of_getElem? (i := 145) rfl)) rfl
theorem mw_576 : .instanceMethod yC0_wipe ∈ wAll := wa (tb_2 _ (List.mem_of_getElem? (i := 146) rfl)) rfl
theorem mw_577 : .selects RC0 yC0_wipe yC0_wipe ∈ wAll := wa (tb_2 _ (List.mem_of_getElem? (i := 147) rfl)) rfl
theorem mw_578 : .code yC0_wipe cC0_wipe 1 (some .int) ∈ wAll := wa (tb_2 _ (List.mem_of_getElem? (i := 148) rfl)) rfl
theorem mw_579 : .methodLink RCL 67 yCM_wipe ∈ wAll := wa (tb_4 _ (List.mem_of_getElem? (i := 31) rfl)) rfl
theorem mw_580 : .instanceMethod yCM_wipe ∈ wAll := wa (tb_4 _ (List.mem_of_getElem? (i := 32) rfl)) rfl
theorem mw_581 : .selects RCM yCM_wipe yCM_wipe ∈ wAll := wa (tb_4 _ (List.mem_of_getElem? (i := 33) rfl)) rfl
theorem mw_582 : .code yCM_wipe cCM_wipe 2 (some .int) ∈ wAll := wa (tb_4 _ (List.mem_of_getElem? (i := 34) rfl)) rfl
theorem mw_583 : .methodLink RCL 68 yC0_choose ∈ wAll := wa (tb_2 _ (List.mem_of_getElem? (i := 153) rfl)) rfl
theorem mw_584 : .instanceMethod yC0_choose ∈ wAll := wa (tb_2 _ (List.mem_of_getElem? (i := 154) rfl)) rfl
theorem mw_585 : .selects RC0 yC0_choose yC0_choose ∈ wAll := wa (tb_2 _ (List.mem_of_getElem? (i := 155) rfl)) rfl
theorem mw_586 : .code yC0_choose cC0_choose 6 (some .int) ∈ wAll := wa (tb_2 _ (List.mem_of_getElem? (i := 156) rfl)) rfl
theorem mw_587 : .methodLink RCL 71 yCM_choose ∈ wAll := wa (tb_4 _ (List.mem_of_getElem? (i := 35) rfl)) rfl
theorem mw_588 : .instanceMethod yCM_choose ∈ wAll := wa (tb_4 _ (List.mem_of_getElem? (i := 36) rfl)) rfl
theorem mw_589 : .selects RCM yCM_choose yCM_choose ∈ wAll := wa (tb_4 _ (List.mem_of_getElem? (i := 37) rfl)) rfl
theorem mw_590 : .code yCM_choose cCM_choose 10 (some .int) ∈ wAll := wa (tb_4 _ (List.mem_of_getElem? (i := 38) rfl)) rfl
theorem mw_591 : .methodLink RCL 72 yC0_phase ∈ wAll := wa (tb_3 _ (List.mem_of_getElem? (i := 41) rfl)) rfl
theorem mw_592 : .instanceMethod yC0_phase ∈ wAll := wa (tb_3 _ (List.mem_of_getElem? (i := 42) rfl)) rfl
theorem mw_593 : .selects RC0 yC0_phase yC0_phase ∈ wAll := wa (tb_3 _ (List.mem_of_getElem? (i := 43) rfl)) rfl
theorem mw_594 : .code yC0_phase cC0_phase 1 (some .int) ∈ wAll := wa (tb_3 _ (List.mem_of_getElem? (i := 44) rfl)) rfl
theorem mw_595 : .methodLink RCL 75 yCM_phase ∈ wAll := wa (tb_4 _ (List.mem_of_getElem? (i := 75) rfl)) rfl
theorem mw_596 : .instanceMethod yCM_phase ∈ wAll := wa (tb_4 _ (List.mem_of_getElem? (i := 76) rfl)) rfl
theorem mw_597 : .selects RCM yCM_phase yCM_phase ∈ wAll := wa (tb_4 _ (List.mem_of_getElem? (i := 77) rfl)) rfl
theorem mw_598 : .code yCM_phase cCM_phase 1 (some .int) ∈ wAll := wa (tb_4 _ (List.mem_of_getElem? (i := 78) rfl)) rfl
theorem mw_599 : .methodLink RCL 76 yC0_applied ∈ wAll := wa (tb_3 _ (List.mem_of_getElem? (i := 49) rfl)) rfl
theorem mw_600 : .instanceMethod yC0_applied ∈ wAll := wa (tb_3 _ (List.mem_of_getElem? (i := 50) rfl)) rfl
theorem mw_601 : .selects RC0 yC0_applied yC0_applied ∈ wAll := wa (tb_3 _ (List.mem_of_getElem? (i := 51) rfl)) rfl
theorem mw_602 : .code yC0_applied cC0_applied 2 (some .int) ∈ wAll := wa (tb_3 _ (List.mem_of_getElem? (i := 52) rfl)) rfl
theorem mw_603 : .methodLink RCL 79 yCM_applied ∈ wAll := wa (tb_4 _ (List.mem_of_getElem? (i := 79) rfl)) rfl
theorem mw_604 : .instanceMethod yCM_applied ∈ wAll := wa (tb_4 _ (List.mem_of_getElem? (i := 80) rfl)) rfl
theorem mw_605 : .selects RCM yCM_applied yCM_applied ∈ wAll := wa (tb_4 _ (List.mem_of_getElem? (i := 81) rfl)) rfl
theorem mw_606 : .code yCM_applied cCM_applied 4 (some .int) ∈ wAll := wa (tb_4 _ (List.mem_of_getElem? (i := 82) rfl)) rfl
theorem mw_607 : .methodLink RCL 80 yC0_special ∈ wAll := wa (tb_3 _ (List.mem_of_getElem? (i := 57) rfl)) rfl
theorem mw_608 : .instanceMethod yC0_special ∈ wAll := wa (tb_3 _ (List.mem_of_getElem? (i := 58) rfl)) rfl
theorem mw_609 : .selects RC0 yC0_special yC0_special ∈ wAll := wa (tb_3 _ (List.mem_of_getElem? (i := 59) rfl)) rfl
theorem mw_610 : .code yC0_special cC0_special 3 (some .int) ∈ wAll := wa (tb_3 _ (List.mem_of_getElem? (i := 60) rfl)) rfl
theorem mw_611 : .methodLink RCL 83 yCM_special ∈ wAll := wa (tb_4 _ (List.mem_of_getElem? (i := 83) rfl)) rfl
theorem mw_612 : .instanceMethod yCM_special ∈ wAll := wa (tb_4 _ (List.mem_of_getElem? (i := 84) rfl)) rfl
theorem mw_613 : .selects RCM yCM_special yCM_special ∈ wAll := wa (tb_4 _ (List.mem_of_getElem? (i := 85) rfl)) rfl
theorem mw_614 : .code yCM_special cCM_special 4 (some .int) ∈ wAll := wa (tb_4 _ (List.mem_of_getElem? (i := 86) rfl)) rfl
theorem mw_615 : .methodLink RCL 84 yC0_count ∈ wAll := wa (tb_3 _ (List.mem_of_getElem? (i := 69) rfl)) rfl
theorem mw_616 : .instanceMethod yC0_count ∈ wAll := wa (tb_3 _ (List.mem_of_getElem? (i := 70) rfl)) rfl
theorem mw_617 : .selects RC0 yC0_count yC0_count ∈ wAll := wa (tb_3 _ (List.mem_of_getElem? (i := 71) rfl)) rfl
theorem mw_618 : .code yC0_count cC0_count 2 (some .int) ∈ wAll := wa (tb_3 _ (List.mem_of_getElem? (i := 72) rfl)) rfl
theorem mw_619 : .methodLink RCL 87 yCM_count ∈ wAll := wa (tb_4 _ (List.mem_of_getElem? (i := 87) rfl)) rfl
theorem mw_620 : .instanceMethod yCM_count ∈ wAll := wa (tb_4 _ (List.mem_of_getElem? (i := 88) rfl)) rfl
theorem mw_621 : .selects RCM yCM_count yCM_count ∈ wAll := wa (tb_4 _ (List.mem_of_getElem? (i := 89) rfl)) rfl
theorem mw_622 : .code yCM_count cCM_count 2 (some .int) ∈ wAll := wa (tb_4 _ (List.mem_of_getElem? (i := 90) rfl)) rfl
theorem mw_623 : .code objectInit ⟨#[0xb1]⟩ 1 none ∈ wAll := wa (tb_1 _ (List.mem_of_getElem? (i := 18) rfl)) rfl
theorem mw_624 : .methodLink RJA 304 Lib.Math.min.name ∈ wAll := wa (tb_1 _ (List.mem_of_getElem? (i := 37) rfl)) rfl
theorem mw_625 : .static Lib.Math.min.name ∈ wAll := wa (tb_1 _ (List.mem_of_getElem? (i := 38) rfl)) rfl
theorem mw_626 : .initialized "java/lang/Math" ∈ wAll := wa (tb_1 _ (List.mem_of_getElem? (i := 4) rfl)) rfl
theorem mw_627 : .code Lib.Math.min.name Lib.Math.min.code 2 (some .int) ∈ wAll := wa (tb_1 _ (List.mem_of_getElem? (i := 39) rfl)) rfl
theorem mw_628 : .methodLink RJA 150 arraycopyName ∈ wAll := wa (tb_1 _ (List.mem_of_getElem? (i := 40) rfl)) rfl
theorem mw_629 : .native arraycopyName ∈ wAll := wa (tb_1 _ (List.mem_of_getElem? (i := 42) rfl)) rfl
theorem mw_630 : .static arraycopyName ∈ wAll := wa (tb_1 _ (List.mem_of_getElem? (i := 41) rfl)) rfl
theorem mw_631 : .initialized "java/lang/System" ∈ wAll := wa (tb_1 _ (List.mem_of_getElem? (i := 5) rfl)) rfl
theorem mw_632 : .arrayClass .long ∈ wAll := wa (tb_1 _ (List.mem_of_getElem? (i := 56) rfl)) rfl
theorem mw_633 : .methodLink RC3 3 objectInit ∈ wAll := wa (tb_1 _ (List.mem_of_getElem? (i := 104) rfl)) rfl
theorem mw_634 : .instanceMethod objectInit ∈ wAll := wa (tb_1 _ (List.mem_of_getElem? (i := 17) rfl)) rfl
theorem mw_635 : .arrayClass .boolean ∈ wAll := wa (tb_1 _ (List.mem_of_getElem? (i := 58) rfl)) rfl
theorem mw_636 : .arrayClass .int ∈ wAll := wa (tb_1 _ (List.mem_of_getElem? (i := 57) rfl)) rfl
theorem mw_637 : .methodLink RC4 3 objectInit ∈ wAll := wa (tb_1 _ (List.mem_of_getElem? (i := 129) rfl)) rfl
theorem mw_638 : .methodLink RC2 3 objectInit ∈ wAll := wa (tb_1 _ (List.mem_of_getElem? (i := 64) rfl)) rfl
theorem mw_639 : .methodLink RC2 39 yJA_fill ∈ wAll := wa (tb_1 _ (List.mem_of_getElem? (i := 65) rfl)) rfl
theorem mw_640 : .static yJA_fill ∈ wAll := wa (tb_1 _ (List.mem_of_getElem? (i := 66) rfl)) rfl
theorem mw_641 : .initialized RJA ∈ wAll := wa (tb_1 _ (List.mem_of_getElem? (i := 3) rfl)) rfl
theorem mw_642 : .code yJA_fill cJA_fill 4 none ∈ wAll := wa (tb_1 _ (List.mem_of_getElem? (i := 67) rfl)) rfl
theorem mw_643 : .methodLink RC1 5 objectInit ∈ wAll := wa (tb_1 _ (List.mem_of_getElem? (i := 24) rfl)) rfl
theorem mw_644 : .fieldLink RC1 11 "MemberChoice$Types" "FIXED_ABOVE" "[J" ∈ wAll := wa (tb_1 _ (List.mem_of_getElem? (i := 25) rfl)) rfl
theorem mw_645 : .methodLink RC1 15 yJA_copyOf ∈ wAll := wa (tb_1 _ (List.mem_of_getElem? (i := 27) rfl)) rfl
theorem mw_646 : .static yJA_copyOf ∈ wAll := wa (tb_1 _ (List.mem_of_getElem? (i := 28) rfl)) rfl
theorem mw_647 : .code yJA_copyOf cJA_copyOf 3 (some (.array .long)) ∈ wAll := wa (tb_1 _ (List.mem_of_getElem? (i := 29) rfl)) rfl
theorem mw_648 : .methodLink RC0 1 objectInit ∈ wAll := wa (tb_1 _ (List.mem_of_getElem? (i := 16) rfl)) rfl
theorem mw_649 : .classLink RC0 7 RC1 ∈ wAll := wa (tb_1 _ (List.mem_of_getElem? (i := 19) rfl)) rfl
theorem mw_650 : .instantiable RC1 4 ∈ wAll := wa (tb_1 _ (List.mem_of_getElem? (i := 20) rfl)) rfl
theorem mw_651 : .code yC1_init cC1_init 1 none ∈ wAll := wa (tb_1 _ (List.mem_of_getElem? (i := 23) rfl)) rfl
theorem mw_652 : .methodLink RC0 9 yC1_init ∈ wAll := wa (tb_1 _ (List.mem_of_getElem? (i := 21) rfl)) rfl
theorem mw_653 : .instanceMethod yC1_init ∈ wAll := wa (tb_1 _ (List.mem_of_getElem? (i := 22) rfl)) rfl
theorem mw_654 : .classLink RC0 16 RC2 ∈ wAll := wa (tb_1 _ (List.mem_of_getElem? (i := 59) rfl)) rfl
theorem mw_655 : .instantiable RC2 10 ∈ wAll := wa (tb_1 _ (List.mem_of_getElem? (i := 60) rfl)) rfl
theorem mw_656 : .code yC2_init cC2_init 2 none ∈ wAll := wa (tb_1 _ (List.mem_of_getElem? (i := 63) rfl)) rfl
theorem mw_657 : .methodLink RC0 18 yC2_init ∈ wAll := wa (tb_1 _ (List.mem_of_getElem? (i := 61) rfl)) rfl
theorem mw_658 : .instanceMethod yC2_init ∈ wAll := wa (tb_1 _ (List.mem_of_getElem? (i := 62) rfl)) rfl
theorem mw_659 : .classLink RC0 25 RC3 ∈ wAll := wa (tb_1 _ (List.mem_of_getElem? (i := 99) rfl)) rfl
theorem mw_660 : .instantiable RC3 6 ∈ wAll := wa (tb_1 _ (List.mem_of_getElem? (i := 100) rfl)) rfl
theorem mw_661 : .code yC3_init cC3_init 1 none ∈ wAll := wa (tb_1 _ (List.mem_of_getElem? (i := 103) rfl)) rfl
theorem mw_662 : .methodLink RC0 27 yC3_init ∈ wAll := wa (tb_1 _ (List.mem_of_getElem? (i := 101) rfl)) rfl
theorem mw_663 : .instanceMethod yC3_init ∈ wAll := wa (tb_1 _ (List.mem_of_getElem? (i := 102) rfl)) rfl
theorem mw_664 : .classLink RC0 32 RC4 ∈ wAll := wa (tb_1 _ (List.mem_of_getElem? (i := 124) rfl)) rfl
theorem mw_665 : .instantiable RC4 10 ∈ wAll := wa (tb_1 _ (List.mem_of_getElem? (i := 125) rfl)) rfl
theorem mw_666 : .code yC4_init cC4_init 4 none ∈ wAll := wa (tb_1 _ (List.mem_of_getElem? (i := 128) rfl)) rfl
theorem mw_667 : .methodLink RC0 34 yC4_init ∈ wAll := wa (tb_1 _ (List.mem_of_getElem? (i := 126) rfl)) rfl
theorem mw_668 : .instanceMethod yC4_init ∈ wAll := wa (tb_1 _ (List.mem_of_getElem? (i := 127) rfl)) rfl
theorem mw_669 : .methodLink RCM 1 objectInit ∈ wAll := wa (tb_3 _ (List.mem_of_getElem? (i := 84) rfl)) rfl
