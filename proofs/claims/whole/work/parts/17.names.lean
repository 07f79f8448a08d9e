def mf_T0 : u_T := fun k => match k with
  | 0 => ("TokenScanner", "source", "LTokenScanner$Source;", true)
  | 1 => ("TokenScanner", "current", "LTokenScanner$Token;", true)
  | 2 => ("TokenScanner", "reader", "LTokenScanner$Reader;", true)
  | 3 => ("TokenScanner", "names", "LTokenScanner$Shelf;", true)
  | 4 => ("TokenScanner", "literals", "LTokenScanner$Shelf;", true)
  | 5 => ("TokenScanner", "hasToken", "Z", false)
  | _ => ("TokenScanner", "refusedAt", "I", false)
def mf_y0 : Nat → FieldType := fun k => match k with
  | 0 => .object "TokenScanner$Source"
  | 1 => .object "TokenScanner$Token"
  | 2 => .object "TokenScanner$Reader"
  | 3 => .object "TokenScanner$Shelf"
  | 4 => .object "TokenScanner$Shelf"
  | 5 => .boolean
  | _ => .int
theorem mf_n0 : ∀ a, a < 7 → ∀ b, b < 7 → a ≠ b → (mf_T0 a).2.1 ≠ (mf_T0 b).2.1 := by decide +kernel
theorem mf_o0 : ∀ k, k < 7 → parseFieldDescriptor (mf_T0 k).2.2.1 = some (mf_y0 k) := by decide +kernel
def mf_T1 : u_T := fun k => match k with
  | 0 => ("TokenScanner$Source", "bytes", "[I", true)
  | _ => ("TokenScanner$Source", "count", "I", false)
def mf_y1 : Nat → FieldType := fun k => match k with
  | 0 => .array .int
  | _ => .int
theorem mf_n1 : ∀ a, a < 2 → ∀ b, b < 2 → a ≠ b → (mf_T1 a).2.1 ≠ (mf_T1 b).2.1 := by decide +kernel
theorem mf_o1 : ∀ k, k < 2 → parseFieldDescriptor (mf_T1 k).2.2.1 = some (mf_y1 k) := by decide +kernel
def mf_T2 : u_T := fun k => match k with
  | 0 => ("TokenScanner$Token", "kind", "I", false)
  | 1 => ("TokenScanner$Token", "first", "I", false)
  | 2 => ("TokenScanner$Token", "behind", "I", false)
  | 3 => ("TokenScanner$Token", "lineEndsBefore", "Z", false)
  | 4 => ("TokenScanner$Token", "word", "I", false)
  | 5 => ("TokenScanner$Token", "escaped", "Z", false)
  | 6 => ("TokenScanner$Token", "sign", "I", false)
  | 7 => ("TokenScanner$Token", "units", "[I", true)
  | _ => ("TokenScanner$Token", "size", "I", false)
def mf_y2 : Nat → FieldType := fun k => match k with
  | 0 => .int
  | 1 => .int
  | 2 => .int
  | 3 => .boolean
  | 4 => .int
  | 5 => .boolean
  | 6 => .int
  | 7 => .array .int
  | _ => .int
theorem mf_n2 : ∀ a, a < 9 → ∀ b, b < 9 → a ≠ b → (mf_T2 a).2.1 ≠ (mf_T2 b).2.1 := by decide +kernel
theorem mf_o2 : ∀ k, k < 9 → parseFieldDescriptor (mf_T2 k).2.2.1 = some (mf_y2 k) := by decide +kernel
def mf_T3 : u_T := fun k => match k with
  | 0 => ("TokenScanner$Reader", "source", "LTokenScanner$Source;", true)
  | 1 => ("TokenScanner$Reader", "token", "LTokenScanner$Token;", true)
  | 2 => ("TokenScanner$Reader", "words", "LTokenScanner$Spellings;", true)
  | 3 => ("TokenScanner$Reader", "signs", "LTokenScanner$Spellings;", true)
  | 4 => ("TokenScanner$Reader", "at", "I", false)
  | _ => ("TokenScanner$Reader", "refusedAt", "I", false)
def mf_y3 : Nat → FieldType := fun k => match k with
  | 0 => .object "TokenScanner$Source"
  | 1 => .object "TokenScanner$Token"
  | 2 => .object "TokenScanner$Spellings"
  | 3 => .object "TokenScanner$Spellings"
  | 4 => .int
  | _ => .int
theorem mf_n3 : ∀ a, a < 6 → ∀ b, b < 6 → a ≠ b → (mf_T3 a).2.1 ≠ (mf_T3 b).2.1 := by decide +kernel
theorem mf_o3 : ∀ k, k < 6 → parseFieldDescriptor (mf_T3 k).2.2.1 = some (mf_y3 k) := by decide +kernel
def mf_T4 : u_T := fun k => match k with
  | 0 => ("TokenScanner$Spellings", "list", "Ljava/lang/String;", true)
  | _ => ("TokenScanner$Spellings", "starts", "[I", true)
def mf_y4 : Nat → FieldType := fun k => match k with
  | 0 => .object "java/lang/String"
  | _ => .array .int
theorem mf_n4 : ∀ a, a < 2 → ∀ b, b < 2 → a ≠ b → (mf_T4 a).2.1 ≠ (mf_T4 b).2.1 := by decide +kernel
theorem mf_o4 : ∀ k, k < 2 → parseFieldDescriptor (mf_T4 k).2.2.1 = some (mf_y4 k) := by decide +kernel
def mf_T5 : u_T := fun k => match k with
  | 0 => ("TokenScanner$Shelf", "units", "[I", true)
  | 1 => ("TokenScanner$Shelf", "ends", "[I", true)
  | _ => ("TokenScanner$Shelf", "count", "I", false)
def mf_y5 : Nat → FieldType := fun k => match k with
  | 0 => .array .int
  | 1 => .array .int
  | _ => .int
theorem mf_n5 : ∀ a, a < 3 → ∀ b, b < 3 → a ≠ b → (mf_T5 a).2.1 ≠ (mf_T5 b).2.1 := by decide +kernel
theorem mf_o5 : ∀ k, k < 3 → parseFieldDescriptor (mf_T5 k).2.2.1 = some (mf_y5 k) := by decide +kernel
def mf_T6 : u_T := fun k => match k with
  | 0 => ("TokenScannerModel", "thrown", "I", false)
  | 1 => ("TokenScannerModel", "text", "[I", true)
  | 2 => ("TokenScannerModel", "size", "I", false)
  | 3 => ("TokenScannerModel", "there", "Z", false)
  | 4 => ("TokenScannerModel", "place", "I", false)
  | 5 => ("TokenScannerModel", "bad", "I", false)
  | 6 => ("TokenScannerModel", "at", "I", false)
  | 7 => ("TokenScannerModel", "kind", "I", false)
  | 8 => ("TokenScannerModel", "from", "I", false)
  | 9 => ("TokenScannerModel", "line", "I", false)
  | 10 => ("TokenScannerModel", "word", "I", false)
  | 11 => ("TokenScannerModel", "escaped", "I", false)
  | 12 => ("TokenScannerModel", "sign", "I", false)
  | 13 => ("TokenScannerModel", "units", "[I", true)
  | 14 => ("TokenScannerModel", "many", "I", false)
  | 15 => ("TokenScannerModel", "names", "I", false)
  | 16 => ("TokenScannerModel", "nameEnd", "[I", true)
  | 17 => ("TokenScannerModel", "nameUnits", "[I", true)
  | 18 => ("TokenScannerModel", "literals", "I", false)
  | 19 => ("TokenScannerModel", "literalEnd", "[I", true)
  | _ => ("TokenScannerModel", "literalUnits", "[I", true)
def mf_y6 : Nat → FieldType := fun k => match k with
  | 0 => .int
  | 1 => .array .int
  | 2 => .int
  | 3 => .boolean
  | 4 => .int
  | 5 => .int
  | 6 => .int
  | 7 => .int
  | 8 => .int
  | 9 => .int
  | 10 => .int
  | 11 => .int
  | 12 => .int
  | 13 => .array .int
  | 14 => .int
  | 15 => .int
  | 16 => .array .int
  | 17 => .array .int
  | 18 => .int
  | 19 => .array .int
  | _ => .array .int
theorem mf_n6 : ∀ a, a < 21 → ∀ b, b < 21 → a ≠ b → (mf_T6 a).2.1 ≠ (mf_T6 b).2.1 := by decide +kernel
theorem mf_o6 : ∀ k, k < 21 → parseFieldDescriptor (mf_T6 k).2.2.1 = some (mf_y6 k) := by decide +kernel
def mf_cl : List vw_C := [("TokenScanner", mf_T0, 7), ("TokenScanner$Source", mf_T1, 2), ("TokenScanner$Token", mf_T2, 9), ("TokenScanner$Reader", mf_T3, 6), ("TokenScanner$Spellings", mf_T4, 2), ("TokenScanner$Shelf", mf_T5, 3), ("TokenScannerModel", mf_T6, 21)]
theorem mf_i0 : ∀ w ∈ u_ws "TokenScanner" mf_T0 7, w ∈ mg_G := by
  intro w hw
  simp only [u_ws, List.range, List.range.loop, List.map_cons, List.map_nil, List.mem_cons, List.not_mem_nil, or_false] at hw
  rcases hw with rfl | rfl | rfl | rfl | rfl | rfl | rfl
  · exact hw_229
  · exact hw_231
  · exact hw_233
  · exact hw_235
  · exact hw_237
  · exact hw_239
  · exact hw_241
def mf_d0 : List Value := [.null, .null, .null, .null, .null, .int 0, .int 0]
theorem mf_v0 : ∀ (as : List Nat) (sd : Nat → Option Nat) (j : Nat), j < 7 → defaultValue (mf_y0 j) = vp_V (mf_d0.map (mv_v as sd)) j := by
  intro as sd j hj
  rcases (show j = 0 ∨ j = 1 ∨ j = 2 ∨ j = 3 ∨ j = 4 ∨ j = 5 ∨ j = 6 by omega) with rfl | rfl | rfl | rfl | rfl | rfl | rfl <;> rfl
theorem mf_i1 : ∀ w ∈ u_ws "TokenScanner$Source" mf_T1 2, w ∈ mg_G := by
  intro w hw
  simp only [u_ws, List.range, List.range.loop, List.map_cons, List.map_nil, List.mem_cons, List.not_mem_nil, or_false] at hw
  rcases hw with rfl | rfl
  · exact hw_38
  · exact hw_40
def mf_d1 : List Value := [.null, .int 0]
theorem mf_v1 : ∀ (as : List Nat) (sd : Nat → Option Nat) (j : Nat), j < 2 → defaultValue (mf_y1 j) = vp_V (mf_d1.map (mv_v as sd)) j := by
  intro as sd j hj
  rcases (show j = 0 ∨ j = 1 by omega) with rfl | rfl <;> rfl
theorem mf_i2 : ∀ w ∈ u_ws "TokenScanner$Token" mf_T2 9, w ∈ mg_G := by
  intro w hw
  simp only [u_ws, List.range, List.range.loop, List.map_cons, List.map_nil, List.mem_cons, List.not_mem_nil, or_false] at hw
  rcases hw with rfl | rfl | rfl | rfl | rfl | rfl | rfl | rfl | rfl
  · exact hw_78
  · exact hw_80
  · exact hw_82
  · exact hw_84
  · exact hw_86
  · exact hw_88
  · exact hw_90
  · exact hw_92
  · exact hw_94
def mf_d2 : List Value := [.int 0, .int 0, .int 0, .int 0, .int 0, .int 0, .int 0, .null, .int 0]
theorem mf_v2 : ∀ (as : List Nat) (sd : Nat → Option Nat) (j : Nat), j < 9 → defaultValue (mf_y2 j) = vp_V (mf_d2.map (mv_v as sd)) j := by
  intro as sd j hj
  rcases (show j = 0 ∨ j = 1 ∨ j = 2 ∨ j = 3 ∨ j = 4 ∨ j = 5 ∨ j = 6 ∨ j = 7 ∨ j = 8 by omega) with rfl | rfl | rfl | rfl | rfl | rfl | rfl | rfl | rfl <;> rfl
theorem mf_i3 : ∀ w ∈ u_ws "TokenScanner$Reader" mf_T3 6, w ∈ mg_G := by
  intro w hw
  simp only [u_ws, List.range, List.range.loop, List.map_cons, List.map_nil, List.mem_cons, List.not_mem_nil, or_false] at hw
  rcases hw with rfl | rfl | rfl | rfl | rfl | rfl
  · exact hw_190
  · exact hw_192
  · exact hw_194
  · exact hw_196
  · exact hw_198
  · exact hw_200
def mf_d3 : List Value := [.null, .null, .null, .null, .int 0, .int 0]
theorem mf_v3 : ∀ (as : List Nat) (sd : Nat → Option Nat) (j : Nat), j < 6 → defaultValue (mf_y3 j) = vp_V (mf_d3.map (mv_v as sd)) j := by
  intro as sd j hj
  rcases (show j = 0 ∨ j = 1 ∨ j = 2 ∨ j = 3 ∨ j = 4 ∨ j = 5 by omega) with rfl | rfl | rfl | rfl | rfl | rfl <;> rfl
theorem mf_i4 : ∀ w ∈ u_ws "TokenScanner$Spellings" mf_T4 2, w ∈ mg_G := by
  intro w hw
  simp only [u_ws, List.range, List.range.loop, List.map_cons, List.map_nil, List.mem_cons, List.not_mem_nil, or_false] at hw
  rcases hw with rfl | rfl
  · exact hw_176
  · exact hw_178
def mf_d4 : List Value := [.null, .null]
theorem mf_v4 : ∀ (as : List Nat) (sd : Nat → Option Nat) (j : Nat), j < 2 → defaultValue (mf_y4 j) = vp_V (mf_d4.map (mv_v as sd)) j := by
  intro as sd j hj
  rcases (show j = 0 ∨ j = 1 by omega) with rfl | rfl <;> rfl
theorem mf_i5 : ∀ w ∈ u_ws "TokenScanner$Shelf" mf_T5 3, w ∈ mg_G := by
  intro w hw
  simp only [u_ws, List.range, List.range.loop, List.map_cons, List.map_nil, List.mem_cons, List.not_mem_nil, or_false] at hw
  rcases hw with rfl | rfl | rfl
  · exact hw_215
  · exact hw_217
  · exact hw_219
def mf_d5 : List Value := [.null, .null, .int 0]
theorem mf_v5 : ∀ (as : List Nat) (sd : Nat → Option Nat) (j : Nat), j < 3 → defaultValue (mf_y5 j) = vp_V (mf_d5.map (mv_v as sd)) j := by
  intro as sd j hj
  rcases (show j = 0 ∨ j = 1 ∨ j = 2 by omega) with rfl | rfl | rfl <;> rfl
theorem mf_i6 : ∀ w ∈ u_ws "TokenScannerModel" mf_T6 21, w ∈ mg_G := by
  intro w hw
  simp only [u_ws, List.range, List.range.loop, List.map_cons, List.map_nil, List.mem_cons, List.not_mem_nil, or_false] at hw
  rcases hw with rfl | rfl | rfl | rfl | rfl | rfl | rfl | rfl | rfl | rfl | rfl | rfl | rfl | rfl | rfl | rfl | rfl | rfl | rfl | rfl | rfl
  · exact hw_688
  · exact hw_690
  · exact hw_692
  · exact hw_694
  · exact hw_696
  · exact hw_698
  · exact hw_700
  · exact hw_702
  · exact hw_704
  · exact hw_706
  · exact hw_708
  · exact hw_710
  · exact hw_712
  · exact hw_714
  · exact hw_716
  · exact hw_718
  · exact hw_720
  · exact hw_722
  · exact hw_724
  · exact hw_726
  · exact hw_728
def mf_d6 : List Value := [.int 0, .null, .int 0, .int 0, .int 0, .int 0, .int 0, .int 0, .int 0, .int 0, .int 0, .int 0, .int 0, .null, .int 0, .int 0, .null, .null, .int 0, .null, .null]
theorem mf_v6 : ∀ (as : List Nat) (sd : Nat → Option Nat) (j : Nat), j < 21 → defaultValue (mf_y6 j) = vp_V (mf_d6.map (mv_v as sd)) j := by
  intro as sd j hj
  rcases (show j = 0 ∨ j = 1 ∨ j = 2 ∨ j = 3 ∨ j = 4 ∨ j = 5 ∨ j = 6 ∨ j = 7 ∨ j = 8 ∨ j = 9 ∨ j = 10 ∨ j = 11 ∨ j = 12 ∨ j = 13 ∨ j = 14 ∨ j = 15 ∨ j = 16 ∨ j = 17 ∨ j = 18 ∨ j = 19 ∨ j = 20 by omega) with rfl | rfl | rfl | rfl | rfl | rfl | rfl | rfl | rfl | rfl | rfl | rfl | rfl | rfl | rfl | rfl | rfl | rfl | rfl | rfl | rfl <;> rfl
def mM_0 : mv_Y := (⟨"TokenScanner$Source", "<init>", "()V"⟩, prog_4_method_1_code, 1, none, [], 1, 20)
def mM_1 : mv_Y := (⟨"TokenScanner$Token", "<init>", "()V"⟩, prog_6_method_1_code, 1, none, [], 1, 20)
def mM_2 : mv_Y := (⟨"java/lang/String", "coder", "()B"⟩, prog_17_method_152_code, 1, some .byte, [], 0, 0)
def mM_3 : mv_Y := (⟨"java/lang/String", "length", "()I"⟩, prog_17_method_54_code, 1, some .int, [], 1, 20)
def mM_4 : mv_Y := (⟨"java/lang/String", "isLatin1", "()Z"⟩, prog_17_method_154_code, 1, some .boolean, [], 0, 0)
def mM_5 : mv_Y := (⟨"jdk/internal/util/Preconditions", "checkIndex", "(IILjava/util/function/BiFunction;)I"⟩, prog_23_method_11_code, 3, some .int, [], 0, 0)
def mM_6 : mv_Y := (⟨"java/lang/String", "checkIndex", "(II)V"⟩, prog_17_method_155_code, 2, none, [], 1, 22)
def mM_7 : mv_Y := (⟨"java/lang/StringLatin1", "charAt", "([BI)C"⟩, prog_18_method_2_code, 2, some .char, [], 2, 43)
def mM_8 : mv_Y := (⟨"java/lang/String", "charAt", "(I)C"⟩, prog_17_method_56_code, 2, some .char, [], 3, 64)
def mM_9 : mv_Y := (⟨"java/lang/Math", "min", "(II)I"⟩, prog_15_method_69_code, 2, some .int, [], 0, 0)
def mM_10 : mv_Y := (⟨"java/util/Arrays", "copyOf", "([II)[I"⟩, prog_22_method_123_code, 3, some (.array .int), [], 1, 60)
def mM_11 : mv_Y := (⟨"TokenScanner$Spellings", "<init>", "(Ljava/lang/String;)V"⟩, prog_5_method_1_code, 5, none, [], 4, 85)
def mM_12 : mv_Y := (⟨"TokenScanner$Reader", "<init>", "(LTokenScanner$Source;LTokenScanner$Token;)V"⟩, prog_2_method_1_code, 3, none, [], 5, 109)
def mM_13 : mv_Y := (⟨"java/lang/Math", "max", "(II)I"⟩, prog_15_method_65_code, 2, some .int, [], 0, 0)
def mM_14 : mv_Y := (⟨"TokenScanner$Shelf", "<init>", "(II)V"⟩, prog_3_method_1_code, 3, none, [], 1, 21)
def mM_15 : mv_Y := (⟨"TokenScanner", "<init>", "()V"⟩, prog_1_method_1_code, 1, none, [], 6, 131)
def mM_16 : mv_Y := (⟨"TokenScannerModel", "<init>", "()V"⟩, prog_9_method_1_code, 1, none, [], 1, 20)
def mM_17 : mv_Y := (⟨"TokenScanner$Source", "hasRoomFor", "(I)Z"⟩, prog_4_method_2_code, 2, some .boolean, [], 0, 0)
def mM_18 : mv_Y := (⟨"TokenScanner$Source", "add", "(I)V"⟩, prog_4_method_3_code, 2, none, [], 0, 0)
def mM_19 : mv_Y := (⟨"TokenScanner$Source", "size", "()I"⟩, prog_4_method_5_code, 1, some .int, [], 0, 0)
def mM_20 : mv_Y := (⟨"TokenScanner", "feed", "(JI)I"⟩, prog_1_method_2_code, 5, some .int, [], 6, 82)
def mM_21 : mv_Y := (⟨"TokenScannerLaw", "feed", "(LTokenScanner;JI[J)I"⟩, method_3_code, 6, some .int, [(0, 11, 14, 13), (0, 11, 18, 15)], 7, 106)
def mM_22 : mv_Y := (⟨"TokenScannerModel", "throwing", "(ZZ)Z"⟩, prog_9_method_3_code, 3, some .boolean, [], 0, 0)
def mM_23 : mv_Y := (⟨"TokenScannerModel", "feed", "(JI)I"⟩, prog_9_method_4_code, 6, some .int, [], 1, 22)
def mM_24 : mv_Y := (⟨"TokenScannerModel", "thrown", "()I"⟩, prog_9_method_2_code, 1, some .int, [], 0, 0)
def mM_25 : mv_Y := (⟨"TokenScanner$Shelf", "clear", "()V"⟩, prog_3_method_2_code, 1, none, [], 0, 0)
def mM_26 : mv_Y := (⟨"TokenScanner$Reader", "restart", "()V"⟩, prog_2_method_2_code, 1, none, [], 0, 0)
def mM_27 : mv_Y := (⟨"TokenScanner$Token", "clear", "()V"⟩, prog_6_method_2_code, 1, none, [], 0, 0)
def mM_28 : mv_Y := (⟨"TokenScanner$Source", "at", "(I)I"⟩, prog_4_method_6_code, 2, some .int, [], 0, 0)
def mM_29 : mv_Y := (⟨"TokenScanner$Units", "isBlank", "(I)Z"⟩, prog_7_method_2_code, 1, some .boolean, [], 0, 0)
def mM_30 : mv_Y := (⟨"TokenScanner$Units", "isLineEnd", "(I)Z"⟩, prog_7_method_3_code, 1, some .boolean, [], 0, 0)
def mM_31 : mv_Y := (⟨"TokenScanner$Reader", "skipLineComment", "()V"⟩, prog_2_method_7_code, 1, none, [], 1, 21)
def mM_32 : mv_Y := (⟨"TokenScanner$Reader", "refuse", "(I)Z"⟩, prog_2_method_5_code, 2, some .boolean, [], 0, 0)
def mM_33 : mv_Y := (⟨"TokenScanner$Reader", "skipBlockComment", "()Z"⟩, prog_2_method_8_code, 2, some .boolean, [], 1, 21)
def mM_34 : mv_Y := (⟨"TokenScanner$Reader", "skipToToken", "()Z"⟩, prog_2_method_6_code, 4, some .boolean, [], 2, 42)
def mM_35 : mv_Y := (⟨"TokenScanner$Units", "canStartName", "(I)Z"⟩, prog_7_method_5_code, 1, some .boolean, [], 0, 0)
def mM_36 : mv_Y := (⟨"TokenScanner$Units", "hexValue", "(I)I"⟩, prog_7_method_7_code, 1, some .int, [], 0, 0)
def mM_37 : mv_Y := (⟨"TokenScanner$Reader", "readHex", "(I)I"⟩, prog_2_method_11_code, 5, some .int, [], 1, 21)
def mM_38 : mv_Y := (⟨"TokenScanner$Units", "isDigit", "(I)Z"⟩, prog_7_method_4_code, 1, some .boolean, [], 0, 0)
def mM_39 : mv_Y := (⟨"TokenScanner$Units", "canStandInName", "(I)Z"⟩, prog_7_method_6_code, 1, some .boolean, [], 1, 20)
def mM_40 : mv_Y := (⟨"TokenScanner$Token", "add", "(I)V"⟩, prog_6_method_3_code, 2, none, [], 0, 0)
def mM_41 : mv_Y := (⟨"TokenScanner$Reader", "readNameEscape", "()Z"⟩, prog_2_method_10_code, 4, some .boolean, [], 2, 45)
def mM_42 : mv_Y := (⟨"TokenScanner$Spellings", "lengthOf", "(I)I"⟩, prog_5_method_4_code, 2, some .int, [], 0, 0)
def mM_43 : mv_Y := (⟨"TokenScanner$Spellings", "isOf", "(ILTokenScanner$Token;)Z"⟩, prog_5_method_5_code, 5, some .boolean, [], 4, 85)
def mM_44 : mv_Y := (⟨"TokenScanner$Spellings", "exactly", "(LTokenScanner$Token;)I"⟩, prog_5_method_2_code, 3, some .int, [], 5, 109)
def mM_45 : mv_Y := (⟨"TokenScanner$Reader", "readName", "()Z"⟩, prog_2_method_9_code, 3, some .boolean, [], 6, 131)
def mM_46 : mv_Y := (⟨"TokenScanner$Reader", "skipHexNumber", "()Z"⟩, prog_2_method_13_code, 1, some .boolean, [], 1, 21)
def mM_47 : mv_Y := (⟨"TokenScanner$Reader", "skipDigits", "()V"⟩, prog_2_method_16_code, 1, none, [], 1, 21)
def mM_48 : mv_Y := (⟨"TokenScanner$Reader", "skipExponent", "()Z"⟩, prog_2_method_15_code, 3, some .boolean, [], 2, 41)
def mM_49 : mv_Y := (⟨"TokenScanner$Reader", "skipDecimalNumber", "()Z"⟩, prog_2_method_14_code, 1, some .boolean, [], 3, 63)
def mM_50 : mv_Y := (⟨"TokenScanner$Reader", "takeBytesAsUnits", "()V"⟩, prog_2_method_17_code, 2, none, [], 1, 21)
def mM_51 : mv_Y := (⟨"TokenScanner$Reader", "readNumber", "()Z"⟩, prog_2_method_12_code, 5, some .boolean, [], 4, 83)
def mM_52 : mv_Y := (⟨"TokenScanner$Reader", "readZeroEscape", "()Z"⟩, prog_2_method_20_code, 1, some .boolean, [], 1, 21)
def mM_53 : mv_Y := (⟨"TokenScanner$Reader", "skipSecondOfLineEnd", "(I)V"⟩, prog_2_method_21_code, 2, none, [], 1, 21)
def mM_54 : mv_Y := (⟨"TokenScanner$Units", "escapedBy", "(I)I"⟩, prog_7_method_8_code, 1, some .int, [], 0, 0)
def mM_55 : mv_Y := (⟨"TokenScanner$Reader", "readTextEscape", "()Z"⟩, prog_2_method_19_code, 3, some .boolean, [], 2, 45)
def mM_56 : mv_Y := (⟨"TokenScanner$Reader", "readText", "(I)Z"⟩, prog_2_method_18_code, 3, some .boolean, [], 3, 67)
def mM_57 : mv_Y := (⟨"TokenScanner$Spellings", "standsAt", "(ILTokenScanner$Source;I)Z"⟩, prog_5_method_6_code, 6, some .boolean, [], 4, 85)
def mM_58 : mv_Y := (⟨"TokenScanner$Spellings", "longestAt", "(LTokenScanner$Source;I)I"⟩, prog_5_method_3_code, 5, some .int, [], 5, 110)
def mM_59 : mv_Y := (⟨"TokenScanner$Reader", "readSign", "()Z"⟩, prog_2_method_22_code, 2, some .boolean, [], 6, 134)
def mM_60 : mv_Y := (⟨"TokenScanner$Reader", "readToken", "()Z"⟩, prog_2_method_3_code, 3, some .boolean, [], 7, 155)
def mM_61 : mv_Y := (⟨"TokenScanner$Source", "clear", "()V"⟩, prog_4_method_4_code, 1, none, [], 0, 0)
def mM_62 : mv_Y := (⟨"TokenScanner", "useUp", "()V"⟩, prog_1_method_14_code, 1, none, [], 1, 20)
def mM_63 : mv_Y := (⟨"TokenScanner", "kindUnlessRefused", "(Z)I"⟩, prog_1_method_13_code, 2, some .int, [], 6, 82)
def mM_64 : mv_Y := (⟨"TokenScanner", "begin", "()I"⟩, prog_1_method_3_code, 1, some .int, [], 8, 177)
def mM_65 : mv_Y := (⟨"TokenScannerLaw", "begin", "(LTokenScanner;[J)I"⟩, method_4_code, 3, some .int, [(0, 8, 11, 13), (0, 8, 14, 15)], 9, 197)
def mM_66 : mv_Y := (⟨"TokenScannerModel", "see", "(I)I"⟩, prog_9_method_5_code, 2, some .int, [], 0, 0)
def mM_67 : mv_Y := (⟨"TokenScannerModel", "isBlank", "(I)Z"⟩, prog_9_method_10_code, 1, some .boolean, [], 0, 0)
def mM_68 : mv_Y := (⟨"TokenScannerModel", "isLineEnd", "(I)Z"⟩, prog_9_method_9_code, 1, some .boolean, [], 0, 0)
def mM_69 : mv_Y := (⟨"TokenScannerModel", "fail", "(I)V"⟩, prog_9_method_11_code, 2, none, [], 0, 0)
def mM_70 : mv_Y := (⟨"TokenScannerModel", "behindComment", "(I)I"⟩, prog_9_method_13_code, 3, some .int, [], 1, 21)
def mM_71 : mv_Y := (⟨"TokenScannerModel", "skip", "()V"⟩, prog_9_method_14_code, 2, none, [], 2, 43)
def mM_72 : mv_Y := (⟨"TokenScannerModel", "done", "()I"⟩, prog_9_method_30_code, 1, some .int, [], 1, 22)
def mM_73 : mv_Y := (⟨"TokenScannerModel", "isLetter", "(I)Z"⟩, prog_9_method_8_code, 2, some .boolean, [], 0, 0)
def mM_74 : mv_Y := (⟨"TokenScannerModel", "isDigit", "(I)Z"⟩, prog_9_method_6_code, 1, some .boolean, [], 0, 0)
def mM_75 : mv_Y := (⟨"TokenScannerModel", "hexadecimal", "(I)I"⟩, prog_9_method_7_code, 1, some .int, [], 1, 20)
def mM_76 : mv_Y := (⟨"TokenScannerModel", "digits", "(II)I"⟩, prog_9_method_15_code, 5, some .int, [], 2, 40)
def mM_77 : mv_Y := (⟨"TokenScannerModel", "add", "(I)V"⟩, prog_9_method_12_code, 2, none, [], 0, 0)
def mM_78 : mv_Y := (⟨"TokenScannerModel", "wordNumbered", "(I)Ljava/lang/String;"⟩, prog_9_method_17_code, 1, some (.object "java/lang/String"), [], 0, 0)
def mM_79 : mv_Y := (⟨"TokenScannerModel", "isText", "(Ljava/lang/String;)Z"⟩, prog_9_method_18_code, 4, some .boolean, [], 4, 85)
def mM_80 : mv_Y := (⟨"TokenScannerModel", "wordOf", "()I"⟩, prog_9_method_19_code, 3, some .int, [], 5, 108)
def mM_81 : mv_Y := (⟨"TokenScannerModel", "readName", "()V"⟩, prog_9_method_16_code, 4, none, [], 6, 130)
def mM_82 : mv_Y := (⟨"TokenScannerModel", "readDigits", "()V"⟩, prog_9_method_20_code, 1, none, [], 1, 21)
def mM_83 : mv_Y := (⟨"TokenScannerModel", "readDecimal", "()V"⟩, prog_9_method_21_code, 2, none, [], 2, 41)
def mM_84 : mv_Y := (⟨"TokenScannerModel", "readNumber", "()V"⟩, prog_9_method_22_code, 2, none, [], 3, 62)
def mM_85 : mv_Y := (⟨"TokenScannerModel", "readEscape", "()V"⟩, prog_9_method_23_code, 3, none, [], 3, 64)
def mM_86 : mv_Y := (⟨"TokenScannerModel", "readText", "()V"⟩, prog_9_method_24_code, 3, none, [], 4, 86)
def mM_87 : mv_Y := (⟨"TokenScannerModel", "operator", "(I)Ljava/lang/String;"⟩, prog_9_method_26_code, 1, some (.object "java/lang/String"), [], 0, 0)
def mM_88 : mv_Y := (⟨"TokenScannerModel", "signNumbered", "(I)Ljava/lang/String;"⟩, prog_9_method_25_code, 1, some (.object "java/lang/String"), [], 1, 20)
def mM_89 : mv_Y := (⟨"TokenScannerModel", "lengthOf", "(I)I"⟩, prog_9_method_27_code, 6, some .int, [], 4, 85)
def mM_90 : mv_Y := (⟨"TokenScannerModel", "readSign", "()V"⟩, prog_9_method_28_code, 3, none, [], 5, 110)
def mM_91 : mv_Y := (⟨"TokenScannerModel", "readToken", "()I"⟩, prog_9_method_31_code, 2, some .int, [], 7, 153)
def mM_92 : mv_Y := (⟨"TokenScannerModel", "begin", "()I"⟩, prog_9_method_32_code, 1, some .int, [], 8, 174)
def mM_93 : mv_Y := (⟨"TokenScanner", "next", "()I"⟩, prog_1_method_4_code, 1, some .int, [], 8, 177)
def mM_94 : mv_Y := (⟨"TokenScannerLaw", "next", "(LTokenScanner;[J)I"⟩, method_5_code, 3, some .int, [(0, 8, 11, 13), (0, 8, 14, 15)], 9, 197)
def mM_95 : mv_Y := (⟨"TokenScannerModel", "next", "()I"⟩, prog_9_method_33_code, 1, some .int, [], 8, 174)
def mM_96 : mv_Y := (⟨"TokenScanner$Reader", "skipPatternBody", "()Z"⟩, prog_2_method_23_code, 4, some .boolean, [], 1, 21)
def mM_97 : mv_Y := (⟨"TokenScanner$Reader", "readPattern", "()Z"⟩, prog_2_method_4_code, 1, some .boolean, [], 2, 44)
def mM_98 : mv_Y := (⟨"TokenScanner", "pattern", "()I"⟩, prog_1_method_5_code, 1, some .int, [], 7, 103)
def mM_99 : mv_Y := (⟨"TokenScannerLaw", "pattern", "(LTokenScanner;[J)I"⟩, method_6_code, 3, some .int, [(0, 8, 11, 13), (0, 8, 14, 15)], 8, 123)
def mM_100 : mv_Y := (⟨"TokenScannerModel", "readPattern", "()V"⟩, prog_9_method_29_code, 3, none, [], 1, 21)
def mM_101 : mv_Y := (⟨"TokenScannerModel", "pattern", "()I"⟩, prog_9_method_34_code, 1, some .int, [], 2, 43)
def mM_102 : mv_Y := (⟨"TokenScanner", "end", "()V"⟩, prog_1_method_6_code, 1, none, [], 6, 82)
def mM_103 : mv_Y := (⟨"TokenScannerLaw", "end", "(LTokenScanner;)I"⟩, method_7_code, 2, some .int, [(0, 4, 7, 15)], 7, 102)
def mM_104 : mv_Y := (⟨"TokenScannerModel", "end", "()V"⟩, prog_9_method_35_code, 1, none, [], 1, 22)
def mM_105 : mv_Y := (⟨"TokenScanner", "place", "()I"⟩, prog_1_method_7_code, 1, some .int, [], 0, 0)
def mM_106 : mv_Y := (⟨"TokenScannerModel", "place", "()I"⟩, prog_9_method_36_code, 1, some .int, [], 0, 0)
def mM_107 : mv_Y := (⟨"TokenScanner", "oneIf", "(Z)I"⟩, prog_1_method_15_code, 1, some .int, [], 0, 0)
def mM_108 : mv_Y := (⟨"TokenScanner$Token", "isUseStrict", "()Z"⟩, prog_6_method_6_code, 2, some .boolean, [], 4, 85)
def mM_109 : mv_Y := (⟨"TokenScanner", "token", "(I)I"⟩, prog_1_method_8_code, 2, some .int, [], 6, 106)
def mM_110 : mv_Y := (⟨"TokenScannerLaw", "token", "(LTokenScanner;I[J)I"⟩, method_8_code, 4, some .int, [(0, 9, 12, 13), (0, 9, 15, 15)], 7, 127)
def mM_111 : mv_Y := (⟨"TokenScannerModel", "token", "(I)I"⟩, prog_9_method_37_code, 3, some .int, [], 5, 108)
def mM_112 : mv_Y := (⟨"TokenScanner", "unit", "(I)I"⟩, prog_1_method_9_code, 2, some .int, [], 6, 82)
def mM_113 : mv_Y := (⟨"TokenScannerLaw", "unit", "(LTokenScanner;I[J)I"⟩, method_9_code, 4, some .int, [(0, 9, 12, 15), (0, 9, 15, 37)], 7, 103)
def mM_114 : mv_Y := (⟨"TokenScannerModel", "unit", "(I)I"⟩, prog_9_method_38_code, 2, some .int, [], 1, 22)
def mM_115 : mv_Y := (⟨"TokenScanner$Token", "canBeName", "()Z"⟩, prog_6_method_4_code, 1, some .boolean, [], 0, 0)
def mM_116 : mv_Y := (⟨"TokenScanner$Shelf", "holds", "(I)Z"⟩, prog_3_method_3_code, 2, some .boolean, [], 0, 0)
def mM_117 : mv_Y := (⟨"TokenScanner$Shelf", "startOf", "(I)I"⟩, prog_3_method_9_code, 2, some .int, [], 0, 0)
def mM_118 : mv_Y := (⟨"TokenScanner$Shelf", "sizeOf", "(I)I"⟩, prog_3_method_7_code, 2, some .int, [], 1, 21)
def mM_119 : mv_Y := (⟨"TokenScanner$Shelf", "startsWith", "(I[II)Z"⟩, prog_3_method_10_code, 6, some .boolean, [], 1, 21)
def mM_120 : mv_Y := (⟨"TokenScanner$Shelf", "find", "([II)I"⟩, prog_3_method_6_code, 4, some .int, [], 2, 46)
def mM_121 : mv_Y := (⟨"TokenScanner$Shelf", "hasRoomFor", "(I)Z"⟩, prog_3_method_4_code, 2, some .boolean, [], 1, 21)
def mM_122 : mv_Y := (⟨"TokenScanner$Shelf", "add", "([II)I"⟩, prog_3_method_5_code, 4, some .int, [], 2, 60)
def mM_123 : mv_Y := (⟨"TokenScanner", "name", "()I"⟩, prog_1_method_10_code, 2, some .int, [], 6, 83)
def mM_124 : mv_Y := (⟨"TokenScannerLaw", "name", "(LTokenScanner;[J)I"⟩, method_10_code, 3, some .int, [(0, 8, 11, 15)], 7, 104)
def mM_125 : mv_Y := (⟨"TokenScannerModel", "isName", "(I)Z"⟩, prog_9_method_39_code, 5, some .boolean, [], 0, 0)
def mM_126 : mv_Y := (⟨"TokenScannerModel", "name", "()I"⟩, prog_9_method_40_code, 3, some .int, [], 1, 24)
def mM_127 : mv_Y := (⟨"TokenScanner$Token", "canBeLiteral", "()Z"⟩, prog_6_method_5_code, 1, some .boolean, [], 0, 0)
def mM_128 : mv_Y := (⟨"TokenScanner", "literal", "()I"⟩, prog_1_method_11_code, 1, some .int, [], 6, 83)
def mM_129 : mv_Y := (⟨"TokenScannerLaw", "literal", "(LTokenScanner;[J)I"⟩, method_11_code, 3, some .int, [(0, 8, 11, 15)], 7, 103)
def mM_130 : mv_Y := (⟨"TokenScannerModel", "literal", "()I"⟩, prog_9_method_41_code, 4, some .int, [], 1, 22)
def mM_131 : mv_Y := (⟨"TokenScanner$Shelf", "unitOf", "(II)I"⟩, prog_3_method_8_code, 3, some .int, [], 2, 42)
def mM_132 : mv_Y := (⟨"TokenScanner", "text", "(ZII)I"⟩, prog_1_method_12_code, 5, some .int, [], 6, 82)
def mM_133 : mv_Y := (⟨"TokenScannerLaw", "text", "(LTokenScanner;ZII[J)I"⟩, method_12_code, 6, some .int, [(0, 12, 15, 37)], 7, 106)
def mM_134 : mv_Y := (⟨"TokenScannerModel", "text", "(ZII)I"⟩, prog_9_method_42_code, 7, some .int, [], 1, 22)
def mM_135 : mv_Y := (⟨"TokenScannerLaw", "law", "([I)Z"⟩, code, 7, some .boolean, [], 10, 219)
def mg_M : Nat → mv_Y := fun z => (bif Nat.blt z 68 then (bif Nat.blt z 34 then (bif Nat.blt z 17 then (bif Nat.blt z 8 then (bif Nat.blt z 4 then (bif Nat.blt z 2 then (bif Nat.blt z 1 then mM_0 else mM_1) else (bif Nat.blt z 3 then mM_2 else mM_3)) else (bif Nat.blt z 6 then (bif Nat.blt z 5 then mM_4 else mM_5) else (bif Nat.blt z 7 then mM_6 else mM_7))) else (bif Nat.blt z 12 then (bif Nat.blt z 10 then (bif Nat.blt z 9 then mM_8 else mM_9) else (bif Nat.blt z 11 then mM_10 else mM_11)) else (bif Nat.blt z 14 then (bif Nat.blt z 13 then mM_12 else mM_13) else (bif Nat.blt z 15 then mM_14 else (bif Nat.blt z 16 then mM_15 else mM_16))))) else (bif Nat.blt z 25 then (bif Nat.blt z 21 then (bif Nat.blt z 19 then (bif Nat.blt z 18 then mM_17 else mM_18) else (bif Nat.blt z 20 then mM_19 else mM_20)) else (bif Nat.blt z 23 then (bif Nat.blt z 22 then mM_21 else mM_22) else (bif Nat.blt z 24 then mM_23 else mM_24))) else (bif Nat.blt z 29 then (bif Nat.blt z 27 then (bif Nat.blt z 26 then mM_25 else mM_26) else (bif Nat.blt z 28 then mM_27 else mM_28)) else (bif Nat.blt z 31 then (bif Nat.blt z 30 then mM_29 else mM_30) else (bif Nat.blt z 32 then mM_31 else (bif Nat.blt z 33 then mM_32 else mM_33)))))) else (bif Nat.blt z 51 then (bif Nat.blt z 42 then (bif Nat.blt z 38 then (bif Nat.blt z 36 then (bif Nat.blt z 35 then mM_34 else mM_35) else (bif Nat.blt z 37 then mM_36 else mM_37)) else (bif Nat.blt z 40 then (bif Nat.blt z 39 then mM_38 else mM_39) else (bif Nat.blt z 41 then mM_40 else mM_41))) else (bif Nat.blt z 46 then (bif Nat.blt z 44 then (bif Nat.blt z 43 then mM_42 else mM_43) else (bif Nat.blt z 45 then mM_44 else mM_45)) else (bif Nat.blt z 48 then (bif Nat.blt z 47 then mM_46 else mM_47) else (bif Nat.blt z 49 then mM_48 else (bif Nat.blt z 50 then mM_49 else mM_50))))) else (bif Nat.blt z 59 then (bif Nat.blt z 55 then (bif Nat.blt z 53 then (bif Nat.blt z 52 then mM_51 else mM_52) else (bif Nat.blt z 54 then mM_53 else mM_54)) else (bif Nat.blt z 57 then (bif Nat.blt z 56 then mM_55 else mM_56) else (bif Nat.blt z 58 then mM_57 else mM_58))) else (bif Nat.blt z 63 then (bif Nat.blt z 61 then (bif Nat.blt z 60 then mM_59 else mM_60) else (bif Nat.blt z 62 then mM_61 else mM_62)) else (bif Nat.blt z 65 then (bif Nat.blt z 64 then mM_63 else mM_64) else (bif Nat.blt z 66 then mM_65 else (bif Nat.blt z 67 then mM_66 else mM_67))))))) else (bif Nat.blt z 102 then (bif Nat.blt z 85 then (bif Nat.blt z 76 then (bif Nat.blt z 72 then (bif Nat.blt z 70 then (bif Nat.blt z 69 then mM_68 else mM_69) else (bif Nat.blt z 71 then mM_70 else mM_71)) else (bif Nat.blt z 74 then (bif Nat.blt z 73 then mM_72 else mM_73) else (bif Nat.blt z 75 then mM_74 else mM_75))) else (bif Nat.blt z 80 then (bif Nat.blt z 78 then (bif Nat.blt z 77 then mM_76 else mM_77) else (bif Nat.blt z 79 then mM_78 else mM_79)) else (bif Nat.blt z 82 then (bif Nat.blt z 81 then mM_80 else mM_81) else (bif Nat.blt z 83 then mM_82 else (bif Nat.blt z 84 then mM_83 else mM_84))))) else (bif Nat.blt z 93 then (bif Nat.blt z 89 then (bif Nat.blt z 87 then (bif Nat.blt z 86 then mM_85 else mM_86) else (bif Nat.blt z 88 then mM_87 else mM_88)) else (bif Nat.blt z 91 then (bif Nat.blt z 90 then mM_89 else mM_90) else (bif Nat.blt z 92 then mM_91 else mM_92))) else (bif Nat.blt z 97 then (bif Nat.blt z 95 then (bif Nat.blt z 94 then mM_93 else mM_94) else (bif Nat.blt z 96 then mM_95 else mM_96)) else (bif Nat.blt z 99 then (bif Nat.blt z 98 then mM_97 else mM_98) else (bif Nat.blt z 100 then mM_99 else (bif Nat.blt z 101 then mM_100 else mM_101)))))) else (bif Nat.blt z 119 then (bif Nat.blt z 110 then (bif Nat.blt z 106 then (bif Nat.blt z 104 then (bif Nat.blt z 103 then mM_102 else mM_103) else (bif Nat.blt z 105 then mM_104 else mM_105)) else (bif Nat.blt z 108 then (bif Nat.blt z 107 then mM_106 else mM_107) else (bif Nat.blt z 109 then mM_108 else mM_109))) else (bif Nat.blt z 114 then (bif Nat.blt z 112 then (bif Nat.blt z 111 then mM_110 else mM_111) else (bif Nat.blt z 113 then mM_112 else mM_113)) else (bif Nat.blt z 116 then (bif Nat.blt z 115 then mM_114 else mM_115) else (bif Nat.blt z 117 then mM_116 else (bif Nat.blt z 118 then mM_117 else mM_118))))) else (bif Nat.blt z 127 then (bif Nat.blt z 123 then (bif Nat.blt z 121 then (bif Nat.blt z 120 then mM_119 else mM_120) else (bif Nat.blt z 122 then mM_121 else mM_122)) else (bif Nat.blt z 125 then (bif Nat.blt z 124 then mM_123 else mM_124) else (bif Nat.blt z 126 then mM_125 else mM_126))) else (bif Nat.blt z 131 then (bif Nat.blt z 129 then (bif Nat.blt z 128 then mM_127 else mM_128) else (bif Nat.blt z 130 then mM_129 else mM_130)) else (bif Nat.blt z 133 then (bif Nat.blt z 132 then mM_131 else mM_132) else (bif Nat.blt z 134 then mM_133 else (bif Nat.blt z 135 then mM_134 else mM_135))))))))
def mg_X : Nat → Nat → Nat → Option (Option (Nat × Nat)) := fun y pc k => (bif Nat.blt y 110 then (bif Nat.blt y 94 then (bif Nat.blt y 65 then (bif Nat.beq y 21 && Nat.beq pc 6 then (bif Nat.beq k 0 then some (some (16, 5)) else (bif Nat.beq k 1 then some (some (20, 5)) else none)) else some none) else (bif Nat.beq y 65 && Nat.beq pc 3 then (bif Nat.beq k 0 then some (some (12, 2)) else (bif Nat.beq k 1 then some (some (15, 2)) else none)) else some none)) else (bif Nat.blt y 99 then (bif Nat.beq y 94 && Nat.beq pc 3 then (bif Nat.beq k 0 then some (some (12, 2)) else (bif Nat.beq k 1 then some (some (15, 2)) else none)) else some none) else (bif Nat.blt y 103 then (bif Nat.beq y 99 && Nat.beq pc 3 then (bif Nat.beq k 0 then some (some (12, 2)) else (bif Nat.beq k 1 then some (some (15, 2)) else none)) else some none) else (bif Nat.beq y 103 && Nat.beq pc 1 then (bif Nat.beq k 1 then some (some (8, 1)) else none) else some none)))) else (bif Nat.blt y 124 then (bif Nat.blt y 113 then (bif Nat.beq y 110 && Nat.beq pc 4 then (bif Nat.beq k 0 then some (some (13, 3)) else (bif Nat.beq k 1 then some (some (16, 3)) else none)) else some none) else (bif Nat.beq y 113 && Nat.beq pc 4 then (bif Nat.beq k 1 then some (some (13, 3)) else (bif Nat.beq k 2 then some (some (16, 3)) else none)) else some none)) else (bif Nat.blt y 129 then (bif Nat.beq y 124 && Nat.beq pc 3 then (bif Nat.beq k 1 then some (some (12, 2)) else none) else some none) else (bif Nat.blt y 133 then (bif Nat.beq y 129 && Nat.beq pc 3 then (bif Nat.beq k 1 then some (some (12, 2)) else none) else some none) else (bif Nat.beq y 133 && Nat.beq pc 7 then (bif Nat.beq k 2 then some (some (17, 5)) else none) else some none)))))
def mg_exn : Nat → String := fun k => match k with
  | 0 => "java/lang/IllegalArgumentException"
  | 1 => "java/lang/IllegalStateException"
  | _ => "java/lang/IndexOutOfBoundsException"
def ms_own : Nat → String := fun i => ["TokenScanner$Reader", "TokenScanner$Reader", "TokenScanner", "TokenScanner", "TokenScanner", "TokenScanner", "TokenScanner", "TokenScanner", "TokenScanner", "TokenScanner", "TokenScanner$Token", "TokenScanner", "TokenScanner", "TokenScanner", "TokenScanner", "TokenScanner", "TokenScanner", "TokenScannerModel", "TokenScannerModel", "TokenScannerModel", "TokenScannerModel", "TokenScannerModel", "TokenScannerModel", "TokenScannerModel", "TokenScannerModel", "TokenScannerModel", "TokenScannerModel", "TokenScannerModel", "TokenScannerModel", "TokenScannerModel", "TokenScannerModel", "TokenScannerModel", "TokenScannerModel", "TokenScannerModel", "TokenScannerModel", "TokenScannerModel", "TokenScannerModel", "TokenScannerModel", "TokenScannerModel", "TokenScannerModel", "TokenScannerModel", "TokenScannerModel", "TokenScannerModel", "TokenScannerModel", "TokenScannerModel", "TokenScannerModel", "TokenScannerModel", "TokenScannerModel", "TokenScannerModel", "TokenScannerModel", "TokenScannerModel", "TokenScannerModel", "TokenScannerModel", "TokenScannerModel", "TokenScannerModel", "TokenScannerModel", "TokenScannerModel", "TokenScannerModel", "TokenScannerModel", "TokenScannerModel", "TokenScannerModel", "TokenScannerModel", "TokenScannerModel", "TokenScannerModel", "TokenScannerModel", "TokenScannerModel", "TokenScannerModel", "TokenScannerModel", "TokenScannerModel", "TokenScannerModel", "TokenScannerModel", "TokenScannerModel", "TokenScannerModel", "TokenScannerModel", "TokenScannerModel", "TokenScannerModel", "TokenScannerModel", "TokenScannerModel", "TokenScannerModel", "TokenScannerModel", "TokenScannerModel", "TokenScannerModel", "TokenScannerModel", "TokenScannerModel", "TokenScannerModel", "TokenScannerModel", "TokenScannerModel", "TokenScannerModel", "TokenScannerModel", "TokenScannerModel", "TokenScannerModel", "TokenScannerModel", "TokenScannerModel", "TokenScannerModel", "TokenScannerModel", "TokenScannerModel", "TokenScannerModel", "TokenScannerModel", "TokenScannerModel", "TokenScannerModel", "TokenScannerModel"].getD i ""
def ms_idx : Nat → Nat := fun i => [11, 22, 54, 61, 68, 179, 95, 100, 105, 110, 41, 137, 147, 158, 161, 166, 172, 107, 109, 111, 113, 115, 117, 119, 121, 123, 125, 127, 129, 131, 133, 135, 137, 139, 141, 143, 145, 147, 149, 151, 153, 155, 157, 159, 161, 163, 165, 167, 169, 171, 173, 175, 177, 179, 181, 183, 185, 187, 189, 191, 193, 195, 197, 228, 230, 232, 234, 236, 238, 240, 242, 244, 246, 248, 250, 252, 254, 256, 258, 260, 262, 264, 266, 268, 270, 272, 274, 276, 278, 283, 285, 287, 289, 291, 293, 295, 297, 299, 301, 303, 344].getD i 0
def ms_txt : Nat → String := fun i => ["break case catch continue debugger default delete do else finally for function if in instanceof new return switch this throw try typeof var void while with null true false class const enum export extends import super implements interface let package private protected public static yield ", "|| && | ^ & == != === !== < > <= >= << >> >>> + - * / % = |= ^= &= <<= >>= >>>= += -= *= /= %= ( ) [ ] { } . ; , ? : ! ~ ++ -- ", "1 to 8 bytes are fed at once", "the text has begun", "a text has at most 2000 bytes", "the text is refused", "there is no token to go on from", "a pattern begins where / or /= stands", "there is no token", "there is no such what", "use strict", "the token has no such unit", "there is no name, number or text", "there is no number, text or pattern", "there is no room for a literal more", "there is no such literal or name", "it has no such unit", "break", "case", "catch", "continue", "debugger", "default", "delete", "do", "else", "finally", "for", "function", "if", "in", "instanceof", "new", "return", "switch", "this", "throw", "try", "typeof", "var", "void", "while", "with", "null", "true", "false", "class", "const", "enum", "export", "extends", "import", "super", "implements", "interface", "let", "package", "private", "protected", "public", "static", "yield", "", "||", "&&", "==", "!=", "===", "!==", "<", ">", "<=", ">=", "=", "(", ")", "[", "]", "{", "}", ".", ";", ",", "?", ":", "!", "~", "++", "--", "|", "^", "&", "<<", ">>", ">>>", "+", "-", "*", "/", "%", "use strict"].getD i ""
def ms_b0 : List Int32 := [98, 114, 101, 97, 107, 32, 99, 97, 115, 101, 32, 99, 97, 116, 99, 104, 32, 99, 111, 110, 116, 105, 110, 117, 101, 32, 100, 101, 98, 117, 103, 103, 101, 114, 32, 100, 101, 102, 97, 117, 108, 116, 32, 100, 101, 108, 101, 116, 101, 32, 100, 111, 32, 101, 108, 115, 101, 32, 102, 105, 110, 97, 108, 108, 121, 32, 102, 111, 114, 32, 102, 117, 110, 99, 116, 105, 111, 110, 32, 105, 102, 32, 105, 110, 32, 105, 110, 115, 116, 97, 110, 99, 101, 111, 102, 32, 110, 101, 119, 32, 114, 101, 116, 117, 114, 110, 32, 115, 119, 105, 116, 99, 104, 32, 116, 104, 105, 115, 32, 116, 104, 114, 111, 119, 32, 116, 114, 121, 32, 116, 121, 112, 101, 111, 102, 32, 118, 97, 114, 32, 118, 111, 105, 100, 32, 119, 104, 105, 108, 101, 32, 119, 105, 116, 104, 32, 110, 117, 108, 108, 32, 116, 114, 117, 101, 32, 102, 97, 108, 115, 101, 32, 99, 108, 97, 115, 115, 32, 99, 111, 110, 115, 116, 32, 101, 110, 117, 109, 32, 101, 120, 112, 111, 114, 116, 32, 101, 120, 116, 101, 110, 100, 115, 32, 105, 109, 112, 111, 114, 116, 32, 115, 117, 112, 101, 114, 32, 105, 109, 112, 108, 101, 109, 101, 110, 116, 115, 32, 105, 110, 116, 101, 114, 102, 97, 99, 101, 32, 108, 101, 116, 32, 112, 97, 99, 107, 97, 103, 101, 32, 112, 114, 105, 118, 97, 116, 101, 32, 112, 114, 111, 116, 101, 99, 116, 101, 100, 32, 112, 117, 98, 108, 105, 99, 32, 115, 116, 97, 116, 105, 99, 32, 121, 105, 101, 108, 100, 32]
def ms_b1 : List Int32 := [124, 124, 32, 38, 38, 32, 124, 32, 94, 32, 38, 32, 61, 61, 32, 33, 61, 32, 61, 61, 61, 32, 33, 61, 61, 32, 60, 32, 62, 32, 60, 61, 32, 62, 61, 32, 60, 60, 32, 62, 62, 32, 62, 62, 62, 32, 43, 32, 45, 32, 42, 32, 47, 32, 37, 32, 61, 32, 124, 61, 32, 94, 61, 32, 38, 61, 32, 60, 60, 61, 32, 62, 62, 61, 32, 62, 62, 62, 61, 32, 43, 61, 32, 45, 61, 32, 42, 61, 32, 47, 61, 32, 37, 61, 32, 40, 32, 41, 32, 91, 32, 93, 32, 123, 32, 125, 32, 46, 32, 59, 32, 44, 32, 63, 32, 58, 32, 33, 32, 126, 32, 43, 43, 32, 45, 45, 32]
def ms_b2 : List Int32 := [49, 32, 116, 111, 32, 56, 32, 98, 121, 116, 101, 115, 32, 97, 114, 101, 32, 102, 101, 100, 32, 97, 116, 32, 111, 110, 99, 101]
def ms_b3 : List Int32 := [116, 104, 101, 32, 116, 101, 120, 116, 32, 104, 97, 115, 32, 98, 101, 103, 117, 110]
def ms_b4 : List Int32 := [97, 32, 116, 101, 120, 116, 32, 104, 97, 115, 32, 97, 116, 32, 109, 111, 115, 116, 32, 50, 48, 48, 48, 32, 98, 121, 116, 101, 115]
def ms_b5 : List Int32 := [116, 104, 101, 32, 116, 101, 120, 116, 32, 105, 115, 32, 114, 101, 102, 117, 115, 101, 100]
def ms_b6 : List Int32 := [116, 104, 101, 114, 101, 32, 105, 115, 32, 110, 111, 32, 116, 111, 107, 101, 110, 32, 116, 111, 32, 103, 111, 32, 111, 110, 32, 102, 114, 111, 109]
def ms_b7 : List Int32 := [97, 32, 112, 97, 116, 116, 101, 114, 110, 32, 98, 101, 103, 105, 110, 115, 32, 119, 104, 101, 114, 101, 32, 47, 32, 111, 114, 32, 47, 61, 32, 115, 116, 97, 110, 100, 115]
def ms_b8 : List Int32 := [116, 104, 101, 114, 101, 32, 105, 115, 32, 110, 111, 32, 116, 111, 107, 101, 110]
def ms_b9 : List Int32 := [116, 104, 101, 114, 101, 32, 105, 115, 32, 110, 111, 32, 115, 117, 99, 104, 32, 119, 104, 97, 116]
def ms_b10 : List Int32 := [117, 115, 101, 32, 115, 116, 114, 105, 99, 116]
def ms_b11 : List Int32 := [116, 104, 101, 32, 116, 111, 107, 101, 110, 32, 104, 97, 115, 32, 110, 111, 32, 115, 117, 99, 104, 32, 117, 110, 105, 116]
def ms_b12 : List Int32 := [116, 104, 101, 114, 101, 32, 105, 115, 32, 110, 111, 32, 110, 97, 109, 101, 44, 32, 110, 117, 109, 98, 101, 114, 32, 111, 114, 32, 116, 101, 120, 116]
def ms_b13 : List Int32 := [116, 104, 101, 114, 101, 32, 105, 115, 32, 110, 111, 32, 110, 117, 109, 98, 101, 114, 44, 32, 116, 101, 120, 116, 32, 111, 114, 32, 112, 97, 116, 116, 101, 114, 110]
def ms_b14 : List Int32 := [116, 104, 101, 114, 101, 32, 105, 115, 32, 110, 111, 32, 114, 111, 111, 109, 32, 102, 111, 114, 32, 97, 32, 108, 105, 116, 101, 114, 97, 108, 32, 109, 111, 114, 101]
def ms_b15 : List Int32 := [116, 104, 101, 114, 101, 32, 105, 115, 32, 110, 111, 32, 115, 117, 99, 104, 32, 108, 105, 116, 101, 114, 97, 108, 32, 111, 114, 32, 110, 97, 109, 101]
def ms_b16 : List Int32 := [105, 116, 32, 104, 97, 115, 32, 110, 111, 32, 115, 117, 99, 104, 32, 117, 110, 105, 116]
def ms_b17 : List Int32 := [98, 114, 101, 97, 107]
def ms_b18 : List Int32 := [99, 97, 115, 101]
def ms_b19 : List Int32 := [99, 97, 116, 99, 104]
def ms_b20 : List Int32 := [99, 111, 110, 116, 105, 110, 117, 101]
def ms_b21 : List Int32 := [100, 101, 98, 117, 103, 103, 101, 114]
def ms_b22 : List Int32 := [100, 101, 102, 97, 117, 108, 116]
def ms_b23 : List Int32 := [100, 101, 108, 101, 116, 101]
def ms_b24 : List Int32 := [100, 111]
def ms_b25 : List Int32 := [101, 108, 115, 101]
def ms_b26 : List Int32 := [102, 105, 110, 97, 108, 108, 121]
def ms_b27 : List Int32 := [102, 111, 114]
def ms_b28 : List Int32 := [102, 117, 110, 99, 116, 105, 111, 110]
def ms_b29 : List Int32 := [105, 102]
def ms_b30 : List Int32 := [105, 110]
def ms_b31 : List Int32 := [105, 110, 115, 116, 97, 110, 99, 101, 111, 102]
def ms_b32 : List Int32 := [110, 101, 119]
def ms_b33 : List Int32 := [114, 101, 116, 117, 114, 110]
def ms_b34 : List Int32 := [115, 119, 105, 116, 99, 104]
def ms_b35 : List Int32 := [116, 104, 105, 115]
def ms_b36 : List Int32 := [116, 104, 114, 111, 119]
def ms_b37 : List Int32 := [116, 114, 121]
def ms_b38 : List Int32 := [116, 121, 112, 101, 111, 102]
def ms_b39 : List Int32 := [118, 97, 114]
def ms_b40 : List Int32 := [118, 111, 105, 100]
def ms_b41 : List Int32 := [119, 104, 105, 108, 101]
def ms_b42 : List Int32 := [119, 105, 116, 104]
def ms_b43 : List Int32 := [110, 117, 108, 108]
def ms_b44 : List Int32 := [116, 114, 117, 101]
def ms_b45 : List Int32 := [102, 97, 108, 115, 101]
def ms_b46 : List Int32 := [99, 108, 97, 115, 115]
def ms_b47 : List Int32 := [99, 111, 110, 115, 116]
def ms_b48 : List Int32 := [101, 110, 117, 109]
def ms_b49 : List Int32 := [101, 120, 112, 111, 114, 116]
def ms_b50 : List Int32 := [101, 120, 116, 101, 110, 100, 115]
def ms_b51 : List Int32 := [105, 109, 112, 111, 114, 116]
def ms_b52 : List Int32 := [115, 117, 112, 101, 114]
def ms_b53 : List Int32 := [105, 109, 112, 108, 101, 109, 101, 110, 116, 115]
def ms_b54 : List Int32 := [105, 110, 116, 101, 114, 102, 97, 99, 101]
def ms_b55 : List Int32 := [108, 101, 116]
def ms_b56 : List Int32 := [112, 97, 99, 107, 97, 103, 101]
def ms_b57 : List Int32 := [112, 114, 105, 118, 97, 116, 101]
def ms_b58 : List Int32 := [112, 114, 111, 116, 101, 99, 116, 101, 100]
def ms_b59 : List Int32 := [112, 117, 98, 108, 105, 99]
def ms_b60 : List Int32 := [115, 116, 97, 116, 105, 99]
def ms_b61 : List Int32 := [121, 105, 101, 108, 100]
def ms_b62 : List Int32 := []
def ms_b63 : List Int32 := [124, 124]
def ms_b64 : List Int32 := [38, 38]
def ms_b65 : List Int32 := [61, 61]
def ms_b66 : List Int32 := [33, 61]
def ms_b67 : List Int32 := [61, 61, 61]
def ms_b68 : List Int32 := [33, 61, 61]
def ms_b69 : List Int32 := [60]
def ms_b70 : List Int32 := [62]
def ms_b71 : List Int32 := [60, 61]
def ms_b72 : List Int32 := [62, 61]
def ms_b73 : List Int32 := [61]
def ms_b74 : List Int32 := [40]
def ms_b75 : List Int32 := [41]
def ms_b76 : List Int32 := [91]
def ms_b77 : List Int32 := [93]
def ms_b78 : List Int32 := [123]
def ms_b79 : List Int32 := [125]
def ms_b80 : List Int32 := [46]
def ms_b81 : List Int32 := [59]
def ms_b82 : List Int32 := [44]
def ms_b83 : List Int32 := [63]
def ms_b84 : List Int32 := [58]
def ms_b85 : List Int32 := [33]
def ms_b86 : List Int32 := [126]
def ms_b87 : List Int32 := [43, 43]
def ms_b88 : List Int32 := [45, 45]
def ms_b89 : List Int32 := [124]
def ms_b90 : List Int32 := [94]
def ms_b91 : List Int32 := [38]
def ms_b92 : List Int32 := [60, 60]
def ms_b93 : List Int32 := [62, 62]
def ms_b94 : List Int32 := [62, 62, 62]
def ms_b95 : List Int32 := [43]
def ms_b96 : List Int32 := [45]
def ms_b97 : List Int32 := [42]
def ms_b98 : List Int32 := [47]
def ms_b99 : List Int32 := [37]
def ms_b100 : List Int32 := [117, 115, 101, 32, 115, 116, 114, 105, 99, 116]
def ms_byt : Nat → List Int32 := fun i => (bif Nat.blt i 50 then (bif Nat.blt i 25 then (bif Nat.blt i 12 then (bif Nat.blt i 6 then (bif Nat.blt i 3 then (bif Nat.blt i 1 then ms_b0 else (bif Nat.blt i 2 then ms_b1 else ms_b2)) else (bif Nat.blt i 4 then ms_b3 else (bif Nat.blt i 5 then ms_b4 else ms_b5))) else (bif Nat.blt i 9 then (bif Nat.blt i 7 then ms_b6 else (bif Nat.blt i 8 then ms_b7 else ms_b8)) else (bif Nat.blt i 10 then ms_b9 else (bif Nat.blt i 11 then ms_b10 else ms_b11)))) else (bif Nat.blt i 18 then (bif Nat.blt i 15 then (bif Nat.blt i 13 then ms_b12 else (bif Nat.blt i 14 then ms_b13 else ms_b14)) else (bif Nat.blt i 16 then ms_b15 else (bif Nat.blt i 17 then ms_b16 else ms_b17))) else (bif Nat.blt i 21 then (bif Nat.blt i 19 then ms_b18 else (bif Nat.blt i 20 then ms_b19 else ms_b20)) else (bif Nat.blt i 23 then (bif Nat.blt i 22 then ms_b21 else ms_b22) else (bif Nat.blt i 24 then ms_b23 else ms_b24))))) else (bif Nat.blt i 37 then (bif Nat.blt i 31 then (bif Nat.blt i 28 then (bif Nat.blt i 26 then ms_b25 else (bif Nat.blt i 27 then ms_b26 else ms_b27)) else (bif Nat.blt i 29 then ms_b28 else (bif Nat.blt i 30 then ms_b29 else ms_b30))) else (bif Nat.blt i 34 then (bif Nat.blt i 32 then ms_b31 else (bif Nat.blt i 33 then ms_b32 else ms_b33)) else (bif Nat.blt i 35 then ms_b34 else (bif Nat.blt i 36 then ms_b35 else ms_b36)))) else (bif Nat.blt i 43 then (bif Nat.blt i 40 then (bif Nat.blt i 38 then ms_b37 else (bif Nat.blt i 39 then ms_b38 else ms_b39)) else (bif Nat.blt i 41 then ms_b40 else (bif Nat.blt i 42 then ms_b41 else ms_b42))) else (bif Nat.blt i 46 then (bif Nat.blt i 44 then ms_b43 else (bif Nat.blt i 45 then ms_b44 else ms_b45)) else (bif Nat.blt i 48 then (bif Nat.blt i 47 then ms_b46 else ms_b47) else (bif Nat.blt i 49 then ms_b48 else ms_b49)))))) else (bif Nat.blt i 75 then (bif Nat.blt i 62 then (bif Nat.blt i 56 then (bif Nat.blt i 53 then (bif Nat.blt i 51 then ms_b50 else (bif Nat.blt i 52 then ms_b51 else ms_b52)) else (bif Nat.blt i 54 then ms_b53 else (bif Nat.blt i 55 then ms_b54 else ms_b55))) else (bif Nat.blt i 59 then (bif Nat.blt i 57 then ms_b56 else (bif Nat.blt i 58 then ms_b57 else ms_b58)) else (bif Nat.blt i 60 then ms_b59 else (bif Nat.blt i 61 then ms_b60 else ms_b61)))) else (bif Nat.blt i 68 then (bif Nat.blt i 65 then (bif Nat.blt i 63 then ms_b62 else (bif Nat.blt i 64 then ms_b63 else ms_b64)) else (bif Nat.blt i 66 then ms_b65 else (bif Nat.blt i 67 then ms_b66 else ms_b67))) else (bif Nat.blt i 71 then (bif Nat.blt i 69 then ms_b68 else (bif Nat.blt i 70 then ms_b69 else ms_b70)) else (bif Nat.blt i 73 then (bif Nat.blt i 72 then ms_b71 else ms_b72) else (bif Nat.blt i 74 then ms_b73 else ms_b74))))) else (bif Nat.blt i 88 then (bif Nat.blt i 81 then (bif Nat.blt i 78 then (bif Nat.blt i 76 then ms_b75 else (bif Nat.blt i 77 then ms_b76 else ms_b77)) else (bif Nat.blt i 79 then ms_b78 else (bif Nat.blt i 80 then ms_b79 else ms_b80))) else (bif Nat.blt i 84 then (bif Nat.blt i 82 then ms_b81 else (bif Nat.blt i 83 then ms_b82 else ms_b83)) else (bif Nat.blt i 86 then (bif Nat.blt i 85 then ms_b84 else ms_b85) else (bif Nat.blt i 87 then ms_b86 else ms_b87)))) else (bif Nat.blt i 94 then (bif Nat.blt i 91 then (bif Nat.blt i 89 then ms_b88 else (bif Nat.blt i 90 then ms_b89 else ms_b90)) else (bif Nat.blt i 92 then ms_b91 else (bif Nat.blt i 93 then ms_b92 else ms_b93))) else (bif Nat.blt i 97 then (bif Nat.blt i 95 then ms_b94 else (bif Nat.blt i 96 then ms_b95 else ms_b96)) else (bif Nat.blt i 99 then (bif Nat.blt i 98 then ms_b97 else ms_b98) else (bif Nat.blt i 100 then ms_b99 else ms_b100)))))))
def ms_sgn : List Int32 := [1, 2, 3, 4, 5, 6, 7, 8, 9, 10, 11, 12, 13, 16, 17, 18, 19, 20, 21, 22, 23, 30, 33, 34, 35, 46, 47, 48, 49, 50, 51, 52, 53, 60, 61, 62, 63, 64, 65, 66, 67, 68, 69, 70, 71, 72, 73, 74]
/-- what stands outside the world: texts, tables, statics; the script of L ints xs -/
def mg_Ph (L : Nat) (xs : Nat → Int32) (sd : Nat → Option Nat) (A : Nat → Prop) (U : State) (H : Heap) : Prop :=
  (∀ i, i < 101 → ∃ a v, sd i = some a ∧ sd (200 + i) = some v ∧ va_O "java/lang/String" a A U H ∧ va_OF "java/lang/String" "coder" "B" (.int 0) a A U H ∧ va_OF "java/lang/String" "value" "[B" (.ref v) a A U H ∧ va_T .byte v (ms_byt i).length (fun j => .int ((ms_byt i).getD j 0)) A U H ∧ vk_R (ms_own i) (ms_idx i) (ms_txt i) a U) ∧
  va_Z "java/lang/String" "COMPACT_STRINGS" "Z" (.int 1) A U H ∧ va_Z "jdk/internal/util/Preconditions" "SIOOBE_FORMATTER" "Ljava/util/function/BiFunction;" (va_rf (sd 400)) A U H ∧
  (∃ t, sd 401 = some t ∧ va_Z "TokenScanner" "SIGN_NUMBERS" "[I" (.ref t) A U H ∧ va_T .int t 48 (fun j => .int (ms_sgn.getD j 0)) A U H) ∧ (∃ t, sd 402 = some t ∧ va_T .int t L (fun j => .int (xs j)) A U H) ∧
  (mz_L Bundle.tN "UNASSIGNED_STACK" Bundle.steD A U H ∧ mz_L Bundle.tN "SUPPRESSED_SENTINEL" Bundle.listD A U H) ∧ va_Nc "java/lang/IllegalStateException" "java/lang/IllegalArgumentException" U ∧ va_Nc "java/lang/IndexOutOfBoundsException" "java/lang/IllegalStateException" U
def mg (L : Nat) (xs : Nat → Int32) : mv_Gp := (mg_G, mf_cl, [.int, .long], mg_Ph L xs, mg_exn, mg_M, mg_X)
theorem mg_Ph_moved {L : Nat} {xs : Nat → Int32} {sd : Nat → Option Nat} {A : Nat → Prop} {s U : State} {H : Heap} (hW : s.WarmedH U.vm) (h : mg_Ph L xs sd A s H) : mg_Ph L xs sd A U H := by
  obtain ⟨h1, h2, h3, ⟨t4, h4, h4a, h4b⟩, ⟨t5, h5, h5a⟩, ⟨h6, h7⟩, h8⟩ := h
  refine ⟨fun i hi => ?_, va_Z.moved hW.alike h2, va_Z.moved hW.alike h3, ⟨t4, h4, va_Z.moved hW.alike h4a, va_T.moved hW.alike h4b⟩, ⟨t5, h5, va_T.moved hW.alike h5a⟩, ⟨h6.moved hW.alike, h7.moved hW.alike⟩, ?_⟩
  · obtain ⟨a, v, q1, q2, q3, q4, q5, q6, q7⟩ := h1 i hi
    exact ⟨a, v, q1, q2, va_O.moved hW.alike q3, va_OF.moved hW.alike q4, va_OF.moved hW.alike q5, va_T.moved hW.alike q6, vk_R.warm hW q7⟩
  · obtain ⟨n0, n1⟩ := h8
    exact ⟨va_Nc.moved hW.alike n0, va_Nc.moved hW.alike n1⟩
theorem mg_Ph_kept {L : Nat} {xs : Nat → Int32} {sd : Nat → Option Nat} {A : Nat → Prop} {s : State} {H H1 : Heap} (h : mg_Ph L xs sd A s H) (hq : ∀ a : Nat, a < H.size → ¬ A a → H1[a]? = H[a]?) : mg_Ph L xs sd A s H1 := by
  obtain ⟨h1, h2, h3, ⟨t4, h4, h4a, h4b⟩, ⟨t5, h5, h5a⟩, ⟨h6, h7⟩, h8⟩ := h
  refine ⟨fun i hi => ?_, h2.kept hq, h3.kept hq, ⟨t4, h4, h4a.kept hq, h4b.kept hq⟩, ⟨t5, h5, h5a.kept hq⟩, ⟨h6.kept hq, h7.kept hq⟩, h8⟩
  obtain ⟨a, v, q1, q2, q3, q4, q5, q6, q7⟩ := h1 i hi
  exact ⟨a, v, q1, q2, q3.kept hq, q4.kept hq, q5.kept hq, q6.kept hq, q7⟩
theorem mg_Ph_narrow {L : Nat} {xs : Nat → Int32} {sd : Nat → Option Nat} {A B : Nat → Prop} {s : State} {H : Heap} (h : mg_Ph L xs sd A s H) (hq : ∀ q, B q → A q) : mg_Ph L xs sd B s H := by
  obtain ⟨h1, h2, h3, ⟨t4, h4, h4a, h4b⟩, ⟨t5, h5, h5a⟩, ⟨h6, h7⟩, h8⟩ := h
  refine ⟨fun i hi => ?_, h2.narrow hq, h3.narrow hq, ⟨t4, h4, h4a.narrow hq, h4b.narrow hq⟩, ⟨t5, h5, h5a.narrow hq⟩, ⟨h6.narrow hq, h7.narrow hq⟩, h8⟩
  obtain ⟨a, v, q1, q2, q3, q4, q5, q6, q7⟩ := h1 i hi
  exact ⟨a, v, q1, q2, q3.narrow hq, q4.narrow hq, q5.narrow hq, q6.narrow hq, q7⟩
theorem mg_Ok (L : Nat) (xs : Nat → Int32) : mv_Ok (mg L xs) := ⟨fun w hw a a' s U hW h => mg_ride (List.mem_filter.mp hw).2 hW h, fun _ _ _ _ _ hW h => mg_Ph_moved hW h, fun _ _ _ _ _ h hq => mg_Ph_kept h hq, fun _ _ _ _ _ h hq => mg_Ph_narrow h hq⟩
def mg_isS (q : Nat) : Bool := Nat.blt q 101
def mg_fV (q : Nat) : Option Value := bif Nat.blt q 101 then some (.retAddr (200 + q)) else none
def mg_fC (q : Nat) : Option Value := bif Nat.blt q 101 then some (.int 0) else none
def mg_tS (q : Nat) : Option (Nat × (Nat → Int32)) := bif Nat.blt (q - 200) 101 && Nat.ble 200 q then some ((ms_byt (q - 200)).length, fun j => (ms_byt (q - 200)).getD j 0) else none
def mg_tI (q : Nat) : Option (Nat × (Nat → Int32)) := bif Nat.beq q 401 then some (48, fun j => ms_sgn.getD j 0) else none
def mg_tL (L : Nat) (xs : Nat → Int32) (q : Nat) : Option (Nat × (Nat → Int32)) := bif Nat.beq q 402 then some (L, xs) else none
theorem mg_pS {L : Nat} {xs : Nat → Int32} : ∀ sd A U H, (mg L xs).Ph sd A U H → ∀ q, mg_isS q = true → ∃ a, sd q = some a ∧ va_O "java/lang/String" a A U H := by
  intro sd A U H h q hq
  obtain ⟨a, v, q1, q2, q3, -⟩ := h.1 q (Nat.le_of_ble_eq_true hq)
  exact ⟨a, q1, q3⟩
theorem mg_pV {L : Nat} {xs : Nat → Int32} : ∀ sd A U H, (mg L xs).Ph sd A U H → ∀ q v, mg_fV q = some v → ∃ a, sd q = some a ∧ va_OF "java/lang/String" "value" "[B" (mv_v [] sd v) a A U H := by
  intro sd A U H h q v hv
  unfold mg_fV at hv
  cases hb : Nat.blt q 101 with
  | false => rw [hb] at hv; cases hv
  | true =>
    rw [hb, cond_true] at hv
    cases hv
    obtain ⟨a, v, q1, q2, q3, q4, q5, -⟩ := h.1 q (Nat.le_of_ble_eq_true hb)
    refine ⟨a, q1, ?_⟩
    simp only [mv_v, q2]
    exact q5
theorem mg_pC {L : Nat} {xs : Nat → Int32} : ∀ sd A U H, (mg L xs).Ph sd A U H → ∀ q v, mg_fC q = some v → ∃ a, sd q = some a ∧ va_OF "java/lang/String" "coder" "B" (mv_v [] sd v) a A U H := by
  intro sd A U H h q v hv
  unfold mg_fC at hv
  cases hb : Nat.blt q 101 with
  | false => rw [hb] at hv; cases hv
  | true =>
    rw [hb, cond_true] at hv
    cases hv
    obtain ⟨a, v, q1, q2, q3, q4, -⟩ := h.1 q (Nat.le_of_ble_eq_true hb)
    exact ⟨a, q1, q4⟩
theorem mg_vV : ∀ q v, mg_fV q = some v → ∀ as sd, mv_v as sd v = mv_v [] sd v := by
  intro q v hv as sd
  unfold mg_fV at hv
  have := mv_bif hv
  subst this
  rfl
theorem mg_vC : ∀ q v, mg_fC q = some v → ∀ as sd, mv_v as sd v = mv_v [] sd v := by
  intro q v hv as sd
  unfold mg_fC at hv
  have := mv_bif hv
  subst this
  rfl
theorem mg_pT {L : Nat} {xs : Nat → Int32} : ∀ sd A U H, (mg L xs).Ph sd A U H → ∀ q n a, mg_tS q = some (n, a) → ∃ t, sd q = some t ∧ va_T .byte t n (fun j => .int (a j)) A U H := by
  intro sd A U H h q n a hv
  unfold mg_tS at hv
  cases hb : (Nat.blt (q - 200) 101 && Nat.ble 200 q) with
  | false => rw [hb] at hv; cases hv
  | true =>
    rw [hb, cond_true] at hv
    obtain ⟨rfl, rfl⟩ := Prod.mk.inj (Option.some.inj hv)
    simp only [Bool.and_eq_true] at hb
    obtain ⟨a, v, q1, q2, q3, q4, q5, q6, -⟩ := h.1 (q - 200) (Nat.le_of_ble_eq_true hb.1)
    rw [Nat.add_sub_cancel' (Nat.le_of_ble_eq_true hb.2)] at q2
    exact ⟨v, q2, q6⟩
theorem mg_pI {L : Nat} {xs : Nat → Int32} : ∀ sd A U H, (mg L xs).Ph sd A U H → ∀ q n a, mg_tI q = some (n, a) → ∃ t, sd q = some t ∧ va_T .int t n (fun j => .int (a j)) A U H := by
  intro sd A U H h q n a hv
  unfold mg_tI at hv
  cases hb : Nat.beq q 401 with
  | false => rw [hb] at hv; cases hv
  | true =>
    rw [hb, cond_true] at hv
    cases hv
    have := Nat.eq_of_beq_eq_true hb
    subst this
    obtain ⟨-, -, -, ⟨t, q1, -, q2⟩, -⟩ := h
    exact ⟨t, q1, q2⟩
theorem mg_pL {L : Nat} {xs : Nat → Int32} : ∀ sd A U H, (mg L xs).Ph sd A U H → ∀ q n a, mg_tL L xs q = some (n, a) → ∃ t, sd q = some t ∧ va_T .int t n (fun j => .int (a j)) A U H := by
  intro sd A U H h q n a hv
  unfold mg_tL at hv
  cases hb : Nat.beq q 402 with
  | false => rw [hb] at hv; cases hv
  | true =>
    rw [hb, cond_true] at hv
    cases hv
    have := Nat.eq_of_beq_eq_true hb
    subst this
    obtain ⟨-, -, -, -, h5, -⟩ := h
    exact h5
theorem mg_pR {L : Nat} {xs : Nat → Int32} (i : Nat) (hi : i < 101) : ∀ sd A U H, (mg L xs).Ph sd A U H → ∃ a, sd i = some a ∧ vk_R (ms_own i) (ms_idx i) (ms_txt i) a U := by
  intro sd A U H h
  obtain ⟨a, v, q1, -, -, -, -, -, q7⟩ := h.1 i hi
  exact ⟨a, q1, q7⟩
theorem mg_pG {L : Nat} {xs : Nat → Int32} : ∀ sd A U H, (mg L xs).Ph sd A U H → va_Z "TokenScanner" "SIGN_NUMBERS" "[I" (mv_v [] sd (.retAddr 401)) A U H := by
  intro sd A U H h
  obtain ⟨-, -, -, ⟨t, q1, q2, -⟩, -⟩ := h
  simp only [mv_v, q1]
  exact q2
theorem mg_pF {L : Nat} {xs : Nat → Int32} : ∀ sd A U H, (mg L xs).Ph sd A U H → va_Z "jdk/internal/util/Preconditions" "SIOOBE_FORMATTER" "Ljava/util/function/BiFunction;" (mv_v [] sd (.retAddr 400)) A U H := fun _ _ _ _ h => h.2.2.1
theorem mg_pZ {L : Nat} {xs : Nat → Int32} : ∀ sd A U H, (mg L xs).Ph sd A U H → va_Z "java/lang/String" "COMPACT_STRINGS" "Z" (mv_v [] sd (.int 1)) A U H := fun _ _ _ _ h => h.2.1
theorem mg_pX {L : Nat} {xs : Nat → Int32} : ∀ sd A U H, (mg L xs).Ph sd A U H → mz_L Bundle.tN "UNASSIGNED_STACK" Bundle.steD A U H ∧ mz_L Bundle.tN "SUPPRESSED_SENTINEL" Bundle.listD A U H := fun _ _ _ _ h => h.2.2.2.2.2.1
theorem mg_pN0 {L : Nat} {xs : Nat → Int32} : ∀ sd A U H, (mg L xs).Ph sd A U H → va_Nc "java/lang/IllegalStateException" "java/lang/IllegalArgumentException" U := fun _ _ _ _ h => h.2.2.2.2.2.2.1
theorem mg_pN1 {L : Nat} {xs : Nat → Int32} : ∀ sd A U H, (mg L xs).Ph sd A U H → va_Nc "java/lang/IndexOutOfBoundsException" "java/lang/IllegalStateException" U := fun _ _ _ _ h => h.2.2.2.2.2.2.2
/-- tables of steps as trees -/
def mt_n (k : Nat) (a b : Nat → Option mv_S) : Nat → Option mv_S := fun pc => bif Nat.blt pc k then a pc else b pc
def mt_l (k : Nat) (s : mv_S) : Nat → Option mv_S := fun pc => bif Nat.beq pc k then some s else none
def mt_ok (g : mv_Gp) (y : Nat) (t : Nat → Option mv_S) : Prop := ∀ pc st, t pc = some st → mv_Snd g y pc st ∧ mv_Mn st
theorem mt_ok.n {g : mv_Gp} {y k : Nat} {a b : Nat → Option mv_S} (ha : mt_ok g y a) (hb : mt_ok g y b) : mt_ok g y (mt_n k a b) := by
  intro pc st e
  unfold mt_n at e
  cases hk : Nat.blt pc k with
  | true => rw [hk, cond_true] at e; exact ha pc st e
  | false => rw [hk, cond_false] at e; exact hb pc st e
theorem mt_ok.l {g : mv_Gp} {y k : Nat} {s : mv_S} (h : mv_Snd g y k s) (h2 : mv_Mn s) : mt_ok g y (mt_l k s) := by
  intro pc st e
  unfold mt_l at e
  cases hk : Nat.beq pc k with
  | true =>
    rw [hk, cond_true] at e
    cases e
    have := Nat.eq_of_beq_eq_true hk
    subst this
    exact ⟨h, h2⟩
  | false => rw [hk, cond_false] at e; cases e
