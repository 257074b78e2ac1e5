/-! ===== length and charAt of the String constants ===== -/
def am_yCod : MethodName := ⟨"java/lang/String", "coder", "()B"⟩
def am_yLat : MethodName := ⟨"java/lang/String", "isLatin1", "()Z"⟩
def am_yL1 : MethodName := ⟨"java/lang/StringLatin1", "charAt", "([BI)C"⟩
def am_yCk : MethodName := ⟨"java/lang/String", "checkIndex", "(II)V"⟩
def am_yPre : MethodName := ⟨"jdk/internal/util/Preconditions", "checkIndex", "(IILjava/util/function/BiFunction;)I"⟩
def am_tw : List Cond := [.fieldLink "java/lang/String" 38 "java/lang/String" "COMPACT_STRINGS" "Z", .fieldLink "java/lang/String" 15 "java/lang/String" "coder" "B", .fieldLink "java/lang/String" 9 "java/lang/String" "value" "[B",
  .methodLink "java/lang/String" 335 am_yCod, .instanceMethod am_yCod, .selects "java/lang/String" am_yCod am_yCod, .initialized "java/lang/String",
  .methodLink "java/lang/String" 492 am_yLat, .instanceMethod am_yLat, .selects "java/lang/String" am_yLat am_yLat,
  .methodLink "java/lang/String" 495 am_yL1, .static am_yL1, .initialized "java/lang/StringLatin1", .methodLink "java/lang/StringLatin1" 9 am_yCk, .static am_yCk,
  .fieldLink "java/lang/String" 1053 "jdk/internal/util/Preconditions" "SIOOBE_FORMATTER" "Ljava/util/function/BiFunction;", .methodLink "java/lang/String" 1059 am_yPre, .static am_yPre, .initialized "jdk/internal/util/Preconditions",
  .instanceMethod am_strLen, .selects "java/lang/String" am_strLen am_strLen, .instanceMethod am_strAt, .selects "java/lang/String" am_strAt am_strAt]
set_option maxRecDepth 100000 in
theorem am_tw_ok : (am_tw.all fun w => decide (w ∈ lw_tbl) && goodWord w) = true := by decide +kernel
theorem am_twi (k : Nat) {w : Cond} (hk : am_tw[k]? = some w) : w ∈ am_W := am_in_of am_tw_ok w (List.mem_of_getElem? hk)
theorem am_cd (k : Nat) {w : Cond} (hk : lw_tbl[k]? = some w) (hg : goodWord w = true) : w ∈ am_W := List.mem_filter.mpr ⟨List.mem_of_getElem? hk, hg⟩
set_option maxRecDepth 100000 in
theorem am_cCod : Cond.code am_yCod prog_18_method_152_code 1 (some .byte) ∈ am_W := am_cd 559 rfl rfl
set_option maxRecDepth 100000 in
theorem am_cLat : Cond.code am_yLat prog_18_method_154_code 1 (some .boolean) ∈ am_W := am_cd 569 rfl rfl
set_option maxRecDepth 100000 in
theorem am_cL1 : Cond.code am_yL1 prog_19_method_2_code 2 (some .char) ∈ am_W := am_cd 572 rfl rfl
set_option maxRecDepth 100000 in
theorem am_cCk : Cond.code am_yCk prog_18_method_155_code 2 none ∈ am_W := am_cd 575 rfl rfl
set_option maxRecDepth 100000 in
theorem am_cPre : Cond.code am_yPre prog_26_method_11_code 3 (some .int) ∈ am_W := am_cd 580 rfl rfl
set_option maxRecDepth 100000 in
theorem am_cLen : Cond.code am_strLen prog_18_method_54_code 1 (some .int) ∈ am_W := am_cd 555 rfl rfl
set_option maxRecDepth 100000 in
theorem am_cAt : Cond.code am_strAt prog_18_method_56_code 2 (some .char) ∈ am_W := am_cd 565 rfl rfl
