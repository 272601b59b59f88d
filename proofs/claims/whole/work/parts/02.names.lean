/-! names: classes, their fields, methods; one list of words for every method: xT -/
def R_CF : String := "ConfigTexts$Configuration"
def F_CF : u_T := fun k => match k with
  | 0 => ("ConfigTexts$Configuration", "partitions", "[LConfigTexts$Partition;", true)
  | 1 => ("ConfigTexts$Configuration", "partitionCount", "I", false)
  | 2 => ("ConfigTexts$Configuration", "channels", "LConfigTexts$Rows;", true)
  | 3 => ("ConfigTexts$Configuration", "windows", "LConfigTexts$Rows;", true)
  | 4 => ("ConfigTexts$Configuration", "fromInput", "I", false)
  | 5 => ("ConfigTexts$Configuration", "toOutput", "I", false)
  | _ => ("ConfigTexts$Configuration", "ticks", "I", false)
def t_CF : Nat → FieldType := fun k => match k with
  | 0 => .array (.object "ConfigTexts$Partition")
  | 1 => .int
  | 2 => .object "ConfigTexts$Rows"
  | 3 => .object "ConfigTexts$Rows"
  | 4 => .int
  | 5 => .int
  | _ => .int
theorem n_CF : ∀ a, a < 7 → ∀ b, b < 7 → a ≠ b → (F_CF a).2.1 ≠ (F_CF b).2.1 := by decide +kernel
theorem t_CF_ok : ∀ k, k < 7 → parseFieldDescriptor (F_CF k).2.2.1 = some (t_CF k) := by decide +kernel
def R_PA : String := "ConfigTexts$Partition"
def F_PA : u_T := fun k => match k with
  | 0 => ("ConfigTexts$Partition", "name", "J", false)
  | 1 => ("ConfigTexts$Partition", "memory", "I", false)
  | 2 => ("ConfigTexts$Partition", "handler", "I", false)
  | 3 => ("ConfigTexts$Partition", "actions", "[I", true)
  | _ => ("ConfigTexts$Partition", "things", "[LConfigTexts$Rows;", true)
def t_PA : Nat → FieldType := fun k => match k with
  | 0 => .long
  | 1 => .int
  | 2 => .int
  | 3 => .array .int
  | _ => .array (.object "ConfigTexts$Rows")
theorem n_PA : ∀ a, a < 5 → ∀ b, b < 5 → a ≠ b → (F_PA a).2.1 ≠ (F_PA b).2.1 := by decide +kernel
theorem t_PA_ok : ∀ k, k < 5 → parseFieldDescriptor (F_PA k).2.2.1 = some (t_PA k) := by decide +kernel
def R_RD : String := "ConfigTexts$Reader"
def F_RD : u_T := fun k => match k with
  | 0 => ("ConfigTexts$Reader", "words", "LConfigTexts$Words;", true)
  | 1 => ("ConfigTexts$Reader", "configuration", "LConfigTexts$Configuration;", true)
  | 2 => ("ConfigTexts$Reader", "errorsTold", "Z", false)
  | _ => ("ConfigTexts$Reader", "firstHandle", "I", false)
def t_RD : Nat → FieldType := fun k => match k with
  | 0 => .object "ConfigTexts$Words"
  | 1 => .object "ConfigTexts$Configuration"
  | 2 => .boolean
  | _ => .int
theorem n_RD : ∀ a, a < 4 → ∀ b, b < 4 → a ≠ b → (F_RD a).2.1 ≠ (F_RD b).2.1 := by decide +kernel
theorem t_RD_ok : ∀ k, k < 4 → parseFieldDescriptor (F_RD k).2.2.1 = some (t_RD k) := by decide +kernel
def R_RO : String := "ConfigTexts$Rows"
def F_RO : u_T := fun k => match k with
  | 0 => ("ConfigTexts$Rows", "most", "I", true)
  | 1 => ("ConfigTexts$Rows", "width", "I", true)
  | 2 => ("ConfigTexts$Rows", "names", "[J", true)
  | 3 => ("ConfigTexts$Rows", "numbers", "[I", true)
  | _ => ("ConfigTexts$Rows", "count", "I", false)
def t_RO : Nat → FieldType := fun k => match k with
  | 0 => .int
  | 1 => .int
  | 2 => .array .long
  | 3 => .array .int
  | _ => .int
theorem n_RO : ∀ a, a < 5 → ∀ b, b < 5 → a ≠ b → (F_RO a).2.1 ≠ (F_RO b).2.1 := by decide +kernel
theorem t_RO_ok : ∀ k, k < 5 → parseFieldDescriptor (F_RO k).2.2.1 = some (t_RO k) := by decide +kernel
def R_WO : String := "ConfigTexts$Words"
def F_WO : u_T := fun k => match k with
  | 0 => ("ConfigTexts$Words", "text", "[B", true)
  | 1 => ("ConfigTexts$Words", "end", "I", false)
  | 2 => ("ConfigTexts$Words", "from", "I", false)
  | 3 => ("ConfigTexts$Words", "to", "I", false)
  | 4 => ("ConfigTexts$Words", "kind", "I", false)
  | 5 => ("ConfigTexts$Words", "number", "I", false)
  | 6 => ("ConfigTexts$Words", "name", "J", false)
  | 7 => ("ConfigTexts$Words", "fault", "I", false)
  | _ => ("ConfigTexts$Words", "faultPlace", "I", false)
def t_WO : Nat → FieldType := fun k => match k with
  | 0 => .array .byte
  | 1 => .int
  | 2 => .int
  | 3 => .int
  | 4 => .int
  | 5 => .int
  | 6 => .long
  | 7 => .int
  | _ => .int
theorem n_WO : ∀ a, a < 9 → ∀ b, b < 9 → a ≠ b → (F_WO a).2.1 ≠ (F_WO b).2.1 := by decide +kernel
theorem t_WO_ok : ∀ k, k < 9 → parseFieldDescriptor (F_WO k).2.2.1 = some (t_WO k) := by decide +kernel
def R_CT : String := "ConfigTexts"
def F_CT : u_T := fun k => match k with
  | 0 => ("ConfigTexts", "text", "[B", true)
  | 1 => ("ConfigTexts", "length", "I", false)
  | 2 => ("ConfigTexts", "words", "LConfigTexts$Words;", true)
  | 3 => ("ConfigTexts", "configuration", "LConfigTexts$Configuration;", true)
  | 4 => ("ConfigTexts", "reader", "LConfigTexts$Reader;", true)
  | _ => ("ConfigTexts", "loaded", "Z", false)
def t_CT : Nat → FieldType := fun k => match k with
  | 0 => .array .byte
  | 1 => .int
  | 2 => .object "ConfigTexts$Words"
  | 3 => .object "ConfigTexts$Configuration"
  | 4 => .object "ConfigTexts$Reader"
  | _ => .boolean
theorem n_CT : ∀ a, a < 6 → ∀ b, b < 6 → a ≠ b → (F_CT a).2.1 ≠ (F_CT b).2.1 := by decide +kernel
theorem t_CT_ok : ∀ k, k < 6 → parseFieldDescriptor (F_CT k).2.2.1 = some (t_CT k) := by decide +kernel
def R_MO : String := "ConfigTextsModel"
def F_MO : u_T := fun k => match k with
  | 0 => ("ConfigTextsModel", "thrown", "I", false)
  | 1 => ("ConfigTextsModel", "words", "[J", true)
  | 2 => ("ConfigTextsModel", "kinds", "[J", true)
  | 3 => ("ConfigTextsModel", "actions", "[J", true)
  | 4 => ("ConfigTextsModel", "text", "[B", true)
  | 5 => ("ConfigTextsModel", "size", "I", false)
  | 6 => ("ConfigTextsModel", "from", "I", false)
  | 7 => ("ConfigTextsModel", "to", "I", false)
  | 8 => ("ConfigTextsModel", "token", "I", false)
  | 9 => ("ConfigTextsModel", "word", "I", false)
  | 10 => ("ConfigTextsModel", "value", "J", false)
  | 11 => ("ConfigTextsModel", "fault", "I", false)
  | 12 => ("ConfigTextsModel", "place", "I", false)
  | 13 => ("ConfigTextsModel", "toldFault", "I", false)
  | 14 => ("ConfigTextsModel", "toldPlace", "I", false)
  | 15 => ("ConfigTextsModel", "partitions", "I", false)
  | 16 => ("ConfigTextsModel", "names", "[J", true)
  | 17 => ("ConfigTextsModel", "memory", "[I", true)
  | 18 => ("ConfigTextsModel", "handler", "[I", true)
  | 19 => ("ConfigTextsModel", "handleAt", "[I", true)
  | 20 => ("ConfigTextsModel", "acted", "[I", true)
  | 21 => ("ConfigTextsModel", "counts", "[I", true)
  | 22 => ("ConfigTextsModel", "hasErrors", "[Z", true)
  | 23 => ("ConfigTextsModel", "told", "[Z", true)
  | 24 => ("ConfigTextsModel", "things", "[I", true)
  | 25 => ("ConfigTextsModel", "sort", "[I", true)
  | 26 => ("ConfigTextsModel", "index", "[I", true)
  | 27 => ("ConfigTextsModel", "values", "[I", true)
  | 28 => ("ConfigTextsModel", "thingName", "[J", true)
  | 29 => ("ConfigTextsModel", "channels", "I", false)
  | 30 => ("ConfigTextsModel", "windows", "I", false)
  | 31 => ("ConfigTextsModel", "ticks", "I", false)
  | 32 => ("ConfigTextsModel", "inputs", "I", false)
  | 33 => ("ConfigTextsModel", "outputs", "I", false)
  | 34 => ("ConfigTextsModel", "queuing", "[I", true)
  | 35 => ("ConfigTextsModel", "limit", "[I", true)
  | 36 => ("ConfigTextsModel", "source", "[I", true)
  | 37 => ("ConfigTextsModel", "goals", "[I", true)
  | 38 => ("ConfigTextsModel", "goal", "[I", true)
  | 39 => ("ConfigTextsModel", "windowOf", "[I", true)
  | _ => ("ConfigTextsModel", "windowTicks", "[I", true)
def t_MO : Nat → FieldType := fun k => match k with
  | 0 => .int
  | 1 => .array .long
  | 2 => .array .long
  | 3 => .array .long
  | 4 => .array .byte
  | 5 => .int
  | 6 => .int
  | 7 => .int
  | 8 => .int
  | 9 => .int
  | 10 => .long
  | 11 => .int
  | 12 => .int
  | 13 => .int
  | 14 => .int
  | 15 => .int
  | 16 => .array .long
  | 17 => .array .int
  | 18 => .array .int
  | 19 => .array .int
  | 20 => .array .int
  | 21 => .array .int
  | 22 => .array .boolean
  | 23 => .array .boolean
  | 24 => .array .int
  | 25 => .array .int
  | 26 => .array .int
  | 27 => .array .int
  | 28 => .array .long
  | 29 => .int
  | 30 => .int
  | 31 => .int
  | 32 => .int
  | 33 => .int
  | 34 => .array .int
  | 35 => .array .int
  | 36 => .array .int
  | 37 => .array .int
  | 38 => .array .int
  | 39 => .array .int
  | _ => .array .int
theorem n_MO : ∀ a, a < 41 → ∀ b, b < 41 → a ≠ b → (F_MO a).2.1 ≠ (F_MO b).2.1 := by decide +kernel
theorem t_MO_ok : ∀ k, k < 41 → parseFieldDescriptor (F_MO k).2.2.1 = some (t_MO k) := by decide +kernel
def R_LA : String := "ConfigTextsLaw"
abbrev xcl : List vw_C := [(R_CF, F_CF, 7), (R_PA, F_PA, 5), (R_RD, F_RD, 4), (R_RO, F_RO, 5), (R_WO, F_WO, 9), (R_CT, F_CT, 6), (R_MO, F_MO, 41)]
/-- the words that stay true, all of them -/
def xT : List Cond := lw_tbl.filter goodWord
theorem xT_good : GoodIn xT xT := fun w hw => ⟨hw, good_of_word (List.mem_filter.mp hw).2⟩
theorem xT_of {w : Cond} (i : Nat) (h : tables_1[i]? = some w) (g : goodWord w = true) : w ∈ xT := List.mem_filter.mpr ⟨List.mem_append_right _ (List.mem_of_getElem? h), g⟩
theorem xT_ofp {w : Cond} (i : Nat) (h : (k2_sels lw_privs)[i]? = some w) (g : goodWord w = true) : w ∈ xT := List.mem_filter.mpr ⟨List.mem_append_left _ (List.mem_of_getElem? h), g⟩
set_option maxRecDepth 100000 in
theorem i_CF : ∀ w ∈ u_ws R_CF F_CF 7, w ∈ xT := by decide +kernel
set_option maxRecDepth 100000 in
theorem i_PA : ∀ w ∈ u_ws R_PA F_PA 5, w ∈ xT := by decide +kernel
set_option maxRecDepth 100000 in
theorem i_RD : ∀ w ∈ u_ws R_RD F_RD 4, w ∈ xT := by decide +kernel
set_option maxRecDepth 100000 in
theorem i_RO : ∀ w ∈ u_ws R_RO F_RO 5, w ∈ xT := by decide +kernel
set_option maxRecDepth 100000 in
theorem i_WO : ∀ w ∈ u_ws R_WO F_WO 9, w ∈ xT := by decide +kernel
set_option maxRecDepth 100000 in
theorem i_CT : ∀ w ∈ u_ws R_CT F_CT 6, w ∈ xT := by decide +kernel
set_option maxRecDepth 100000 in
theorem i_MO : ∀ w ∈ u_ws R_MO F_MO 41, w ∈ xT := by decide +kernel
abbrev b_CT_init : ByteArray := prog_1_method_1_code
def y_CT_init : MethodName := ⟨"ConfigTexts", "<init>", "()V"⟩
abbrev b_CT_put : ByteArray := prog_1_method_2_code
def y_CT_put : MethodName := ⟨"ConfigTexts", "put", "(JI)Z"⟩
abbrev b_CT_load : ByteArray := prog_1_method_3_code
def y_CT_load : MethodName := ⟨"ConfigTexts", "load", "()I"⟩
abbrev b_CT_fault : ByteArray := prog_1_method_4_code
def y_CT_fault : MethodName := ⟨"ConfigTexts", "fault", "(I)I"⟩
abbrev b_CT_size : ByteArray := prog_1_method_5_code
def y_CT_size : MethodName := ⟨"ConfigTexts", "size", "(I)I"⟩
abbrev b_CT_partition : ByteArray := prog_1_method_6_code
def y_CT_partition : MethodName := ⟨"ConfigTexts", "partition", "(II)I"⟩
abbrev b_CT_process : ByteArray := prog_1_method_7_code
def y_CT_process : MethodName := ⟨"ConfigTexts", "process", "(III)I"⟩
abbrev b_CT_thing : ByteArray := prog_1_method_8_code
def y_CT_thing : MethodName := ⟨"ConfigTexts", "thing", "(IIII)I"⟩
abbrev b_CT_channel : ByteArray := prog_1_method_9_code
def y_CT_channel : MethodName := ⟨"ConfigTexts", "channel", "(II)I"⟩
abbrev b_CT_window : ByteArray := prog_1_method_10_code
def y_CT_window : MethodName := ⟨"ConfigTexts", "window", "(II)I"⟩
abbrev b_CT_partitionAt : ByteArray := prog_1_method_11_code
def y_CT_partitionAt : MethodName := ⟨"ConfigTexts", "partitionAt", "(I)LConfigTexts$Partition;"⟩
abbrev b_CT_numberOf : ByteArray := prog_1_method_12_code
def y_CT_numberOf : MethodName := ⟨"ConfigTexts", "numberOf", "(IIII)I"⟩
abbrev b_MO_init : ByteArray := prog_8_method_1_code
def y_MO_init : MethodName := ⟨"ConfigTextsModel", "<init>", "()V"⟩
abbrev b_MO_thrown : ByteArray := prog_8_method_2_code
def y_MO_thrown : MethodName := ⟨"ConfigTextsModel", "thrown", "()I"⟩
abbrev b_MO_put : ByteArray := prog_8_method_3_code
def y_MO_put : MethodName := ⟨"ConfigTextsModel", "put", "(JI)Z"⟩
abbrev b_MO_fail : ByteArray := prog_8_method_4_code
def y_MO_fail : MethodName := ⟨"ConfigTextsModel", "fail", "(II)V"⟩
abbrev b_MO_good : ByteArray := prog_8_method_5_code
def y_MO_good : MethodName := ⟨"ConfigTextsModel", "good", "()Z"⟩
abbrev b_MO_see : ByteArray := prog_8_method_6_code
def y_MO_see : MethodName := ⟨"ConfigTextsModel", "see", "(I)I"⟩
abbrev b_MO_isLetter : ByteArray := prog_8_method_7_code
def y_MO_isLetter : MethodName := ⟨"ConfigTextsModel", "isLetter", "(I)Z"⟩
abbrev b_MO_isDigit : ByteArray := prog_8_method_8_code
def y_MO_isDigit : MethodName := ⟨"ConfigTextsModel", "isDigit", "(I)Z"⟩
abbrev b_MO_wordOf : ByteArray := prog_8_method_9_code
def y_MO_wordOf : MethodName := ⟨"ConfigTextsModel", "wordOf", "(J)I"⟩
abbrev b_MO_readName : ByteArray := prog_8_method_10_code
def y_MO_readName : MethodName := ⟨"ConfigTextsModel", "readName", "()V"⟩
abbrev b_MO_readNumber : ByteArray := prog_8_method_11_code
def y_MO_readNumber : MethodName := ⟨"ConfigTextsModel", "readNumber", "()V"⟩
abbrev b_MO_next : ByteArray := prog_8_method_12_code
def y_MO_next : MethodName := ⟨"ConfigTextsModel", "next", "()V"⟩
abbrev b_MO_bad : ByteArray := prog_8_method_13_code
def y_MO_bad : MethodName := ⟨"ConfigTextsModel", "bad", "(I)V"⟩
abbrev b_MO_isSign : ByteArray := prog_8_method_14_code
def y_MO_isSign : MethodName := ⟨"ConfigTextsModel", "isSign", "(I)Z"⟩
abbrev b_MO_isWord : ByteArray := prog_8_method_15_code
def y_MO_isWord : MethodName := ⟨"ConfigTextsModel", "isWord", "(I)Z"⟩
abbrev b_MO_sign : ByteArray := prog_8_method_16_code
def y_MO_sign : MethodName := ⟨"ConfigTextsModel", "sign", "(I)V"⟩
abbrev b_MO_need : ByteArray := prog_8_method_17_code
def y_MO_need : MethodName := ⟨"ConfigTextsModel", "need", "(I)V"⟩
abbrev b_MO_accept : ByteArray := prog_8_method_18_code
def y_MO_accept : MethodName := ⟨"ConfigTextsModel", "accept", "(I)Z"⟩
abbrev b_MO_number : ByteArray := prog_8_method_19_code
def y_MO_number : MethodName := ⟨"ConfigTextsModel", "number", "(III)I"⟩
abbrev b_MO_part : ByteArray := prog_8_method_20_code
def y_MO_part : MethodName := ⟨"ConfigTextsModel", "part", "(IIII)I"⟩
abbrev b_MO_partitionOf : ByteArray := prog_8_method_21_code
def y_MO_partitionOf : MethodName := ⟨"ConfigTextsModel", "partitionOf", "(J)I"⟩
abbrev b_MO_find : ByteArray := prog_8_method_22_code
def y_MO_find : MethodName := ⟨"ConfigTextsModel", "find", "(IJ)I"⟩
abbrev b_MO_most : ByteArray := prog_8_method_23_code
def y_MO_most : MethodName := ⟨"ConfigTextsModel", "most", "(I)I"⟩
abbrev b_MO_newThing : ByteArray := prog_8_method_24_code
def y_MO_newThing : MethodName := ⟨"ConfigTextsModel", "newThing", "(II)I"⟩
abbrev b_MO_readProcess : ByteArray := prog_8_method_25_code
def y_MO_readProcess : MethodName := ⟨"ConfigTextsModel", "readProcess", "(I)V"⟩
abbrev b_MO_semaphore : ByteArray := prog_8_method_26_code
def y_MO_semaphore : MethodName := ⟨"ConfigTextsModel", "semaphore", "(I)V"⟩
abbrev b_MO_buffer : ByteArray := prog_8_method_27_code
def y_MO_buffer : MethodName := ⟨"ConfigTextsModel", "buffer", "(I)V"⟩
abbrev b_MO_plain : ByteArray := prog_8_method_28_code
def y_MO_plain : MethodName := ⟨"ConfigTextsModel", "plain", "(II)V"⟩
abbrev b_MO_port : ByteArray := prog_8_method_29_code
def y_MO_port : MethodName := ⟨"ConfigTextsModel", "port", "(I)V"⟩
abbrev b_MO_kindHere : ByteArray := prog_8_method_30_code
def y_MO_kindHere : MethodName := ⟨"ConfigTextsModel", "kindHere", "()I"⟩
abbrev b_MO_actionHere : ByteArray := prog_8_method_31_code
def y_MO_actionHere : MethodName := ⟨"ConfigTextsModel", "actionHere", "()I"⟩
abbrev b_MO_readError : ByteArray := prog_8_method_32_code
def y_MO_readError : MethodName := ⟨"ConfigTextsModel", "readError", "(I)V"⟩
abbrev b_MO_readErrors : ByteArray := prog_8_method_33_code
def y_MO_readErrors : MethodName := ⟨"ConfigTextsModel", "readErrors", "(I)V"⟩
abbrev b_MO_thingOf : ByteArray := prog_8_method_34_code
def y_MO_thingOf : MethodName := ⟨"ConfigTextsModel", "thingOf", "(I)V"⟩
abbrev b_MO_clear : ByteArray := prog_8_method_35_code
def y_MO_clear : MethodName := ⟨"ConfigTextsModel", "clear", "(I)V"⟩
abbrev b_MO_readPartition : ByteArray := prog_8_method_36_code
def y_MO_readPartition : MethodName := ⟨"ConfigTextsModel", "readPartition", "()V"⟩
abbrev b_MO_readEnd : ByteArray := prog_8_method_37_code
def y_MO_readEnd : MethodName := ⟨"ConfigTextsModel", "readEnd", "(II)I"⟩
abbrev b_MO_readChannel : ByteArray := prog_8_method_38_code
def y_MO_readChannel : MethodName := ⟨"ConfigTextsModel", "readChannel", "()V"⟩
abbrev b_MO_readWindow : ByteArray := prog_8_method_39_code
def y_MO_readWindow : MethodName := ⟨"ConfigTextsModel", "readWindow", "()V"⟩
abbrev b_MO_frame : ByteArray := prog_8_method_40_code
def y_MO_frame : MethodName := ⟨"ConfigTextsModel", "frame", "()V"⟩
abbrev b_MO_forget : ByteArray := prog_8_method_41_code
def y_MO_forget : MethodName := ⟨"ConfigTextsModel", "forget", "()V"⟩
abbrev b_MO_load : ByteArray := prog_8_method_42_code
def y_MO_load : MethodName := ⟨"ConfigTextsModel", "load", "()I"⟩
abbrev b_MO_fault : ByteArray := prog_8_method_43_code
def y_MO_fault : MethodName := ⟨"ConfigTextsModel", "fault", "(I)I"⟩
abbrev b_MO_size : ByteArray := prog_8_method_44_code
def y_MO_size : MethodName := ⟨"ConfigTextsModel", "size", "(I)I"⟩
abbrev b_MO_partition : ByteArray := prog_8_method_45_code
def y_MO_partition : MethodName := ⟨"ConfigTextsModel", "partition", "(II)I"⟩
abbrev b_MO_valueOf : ByteArray := prog_8_method_46_code
def y_MO_valueOf : MethodName := ⟨"ConfigTextsModel", "valueOf", "(IIIII)I"⟩
abbrev b_MO_process : ByteArray := prog_8_method_47_code
def y_MO_process : MethodName := ⟨"ConfigTextsModel", "process", "(III)I"⟩
abbrev b_MO_thing : ByteArray := prog_8_method_48_code
def y_MO_thing : MethodName := ⟨"ConfigTextsModel", "thing", "(IIII)I"⟩
abbrev b_MO_channel : ByteArray := prog_8_method_49_code
def y_MO_channel : MethodName := ⟨"ConfigTextsModel", "channel", "(II)I"⟩
abbrev b_MO_window : ByteArray := prog_8_method_50_code
def y_MO_window : MethodName := ⟨"ConfigTextsModel", "window", "(II)I"⟩
abbrev b_CF_init : ByteArray := prog_2_method_1_code
def y_CF_init : MethodName := ⟨"ConfigTexts$Configuration", "<init>", "()V"⟩
abbrev b_CF_clear : ByteArray := prog_2_method_2_code
def y_CF_clear : MethodName := ⟨"ConfigTexts$Configuration", "clear", "()V"⟩
abbrev b_CF_isFull : ByteArray := prog_2_method_3_code
def y_CF_isFull : MethodName := ⟨"ConfigTexts$Configuration", "isFull", "()Z"⟩
abbrev b_CF_addPartition : ByteArray := prog_2_method_4_code
def y_CF_addPartition : MethodName := ⟨"ConfigTexts$Configuration", "addPartition", "(J)V"⟩
abbrev b_CF_partitionAt : ByteArray := prog_2_method_5_code
def y_CF_partitionAt : MethodName := ⟨"ConfigTexts$Configuration", "partitionAt", "(I)LConfigTexts$Partition;"⟩
abbrev b_CF_findPartition : ByteArray := prog_2_method_6_code
def y_CF_findPartition : MethodName := ⟨"ConfigTexts$Configuration", "findPartition", "(J)I"⟩
abbrev b_CF_count : ByteArray := prog_2_method_7_code
def y_CF_count : MethodName := ⟨"ConfigTexts$Configuration", "count", "(I)I"⟩
abbrev b_PA_init : ByteArray := prog_3_method_1_code
def y_PA_init : MethodName := ⟨"ConfigTexts$Partition", "<init>", "()V"⟩
abbrev b_PA_begin : ByteArray := prog_3_method_2_code
def y_PA_begin : MethodName := ⟨"ConfigTexts$Partition", "begin", "(J)V"⟩
abbrev b_PA_hasThing : ByteArray := prog_3_method_3_code
def y_PA_hasThing : MethodName := ⟨"ConfigTexts$Partition", "hasThing", "(J)Z"⟩
abbrev b_PA_setAction : ByteArray := prog_3_method_4_code
def y_PA_setAction : MethodName := ⟨"ConfigTexts$Partition", "setAction", "(II)V"⟩
abbrev b_PA_get : ByteArray := prog_3_method_5_code
def y_PA_get : MethodName := ⟨"ConfigTexts$Partition", "get", "(I)I"⟩
abbrev b_RD_init : ByteArray := prog_4_method_1_code
def y_RD_init : MethodName := ⟨"ConfigTexts$Reader", "<init>", "(LConfigTexts$Words;LConfigTexts$Configuration;)V"⟩
abbrev b_RD_readPartition : ByteArray := prog_4_method_2_code
def y_RD_readPartition : MethodName := ⟨"ConfigTexts$Reader", "readPartition", "()V"⟩
abbrev b_RD_openPartition : ByteArray := prog_4_method_3_code
def y_RD_openPartition : MethodName := ⟨"ConfigTexts$Reader", "openPartition", "()V"⟩
abbrev b_RD_closePartition : ByteArray := prog_4_method_4_code
def y_RD_closePartition : MethodName := ⟨"ConfigTexts$Reader", "closePartition", "(LConfigTexts$Partition;)V"⟩
abbrev b_RD_nameThing : ByteArray := prog_4_method_5_code
def y_RD_nameThing : MethodName := ⟨"ConfigTexts$Reader", "nameThing", "(LConfigTexts$Partition;I)LConfigTexts$Rows;"⟩
abbrev b_RD_readSetting : ByteArray := prog_4_method_6_code
def y_RD_readSetting : MethodName := ⟨"ConfigTexts$Reader", "readSetting", "(Ljava/lang/String;III)I"⟩
abbrev b_RD_readProcess : ByteArray := prog_4_method_7_code
def y_RD_readProcess : MethodName := ⟨"ConfigTexts$Reader", "readProcess", "(LConfigTexts$Partition;)V"⟩
abbrev b_RD_readSemaphore : ByteArray := prog_4_method_8_code
def y_RD_readSemaphore : MethodName := ⟨"ConfigTexts$Reader", "readSemaphore", "(LConfigTexts$Partition;)V"⟩
abbrev b_RD_readBuffer : ByteArray := prog_4_method_9_code
def y_RD_readBuffer : MethodName := ⟨"ConfigTexts$Reader", "readBuffer", "(LConfigTexts$Partition;)V"⟩
abbrev b_RD_readPort : ByteArray := prog_4_method_10_code
def y_RD_readPort : MethodName := ⟨"ConfigTexts$Reader", "readPort", "(LConfigTexts$Partition;)V"⟩
abbrev b_RD_readErrors : ByteArray := prog_4_method_11_code
def y_RD_readErrors : MethodName := ⟨"ConfigTexts$Reader", "readErrors", "(LConfigTexts$Partition;)V"⟩
abbrev b_RD_readAction : ByteArray := prog_4_method_12_code
def y_RD_readAction : MethodName := ⟨"ConfigTexts$Reader", "readAction", "()I"⟩
abbrev b_RD_readChannel : ByteArray := prog_4_method_13_code
def y_RD_readChannel : MethodName := ⟨"ConfigTexts$Reader", "readChannel", "()V"⟩
abbrev b_RD_readGoals : ByteArray := prog_4_method_14_code
def y_RD_readGoals : MethodName := ⟨"ConfigTexts$Reader", "readGoals", "(I)V"⟩
abbrev b_RD_readEnd : ByteArray := prog_4_method_15_code
def y_RD_readEnd : MethodName := ⟨"ConfigTexts$Reader", "readEnd", "(Ljava/lang/String;II)I"⟩
abbrev b_RD_readPartitionName : ByteArray := prog_4_method_16_code
def y_RD_readPartitionName : MethodName := ⟨"ConfigTexts$Reader", "readPartitionName", "()I"⟩
abbrev b_RD_readFrame : ByteArray := prog_4_method_17_code
def y_RD_readFrame : MethodName := ⟨"ConfigTexts$Reader", "readFrame", "()V"⟩
abbrev b_RD_readWindow : ByteArray := prog_4_method_18_code
def y_RD_readWindow : MethodName := ⟨"ConfigTexts$Reader", "readWindow", "()V"⟩
abbrev b_RO_init : ByteArray := prog_5_method_1_code
def y_RO_init : MethodName := ⟨"ConfigTexts$Rows", "<init>", "(II)V"⟩
abbrev b_RO_clear : ByteArray := prog_5_method_2_code
def y_RO_clear : MethodName := ⟨"ConfigTexts$Rows", "clear", "()V"⟩
abbrev b_RO_isFull : ByteArray := prog_5_method_3_code
def y_RO_isFull : MethodName := ⟨"ConfigTexts$Rows", "isFull", "()Z"⟩
abbrev b_RO_add : ByteArray := prog_5_method_4_code
def y_RO_add : MethodName := ⟨"ConfigTexts$Rows", "add", "(JI)V"⟩
abbrev b_RO_holds : ByteArray := prog_5_method_5_code
def y_RO_holds : MethodName := ⟨"ConfigTexts$Rows", "holds", "(II)Z"⟩
abbrev b_RO_get : ByteArray := prog_5_method_6_code
def y_RO_get : MethodName := ⟨"ConfigTexts$Rows", "get", "(II)I"⟩
abbrev b_RO_set : ByteArray := prog_5_method_7_code
def y_RO_set : MethodName := ⟨"ConfigTexts$Rows", "set", "(III)V"⟩
abbrev b_RO_setLast : ByteArray := prog_5_method_8_code
def y_RO_setLast : MethodName := ⟨"ConfigTexts$Rows", "setLast", "(II)V"⟩
abbrev b_RO_find : ByteArray := prog_5_method_9_code
def y_RO_find : MethodName := ⟨"ConfigTexts$Rows", "find", "(J)I"⟩
abbrev b_WO_init : ByteArray := prog_6_method_1_code
def y_WO_init : MethodName := ⟨"ConfigTexts$Words", "<init>", "([B)V"⟩
abbrev b_WO_begin : ByteArray := prog_6_method_2_code
def y_WO_begin : MethodName := ⟨"ConfigTexts$Words", "begin", "(I)V"⟩
abbrev b_WO_fail : ByteArray := prog_6_method_3_code
def y_WO_fail : MethodName := ⟨"ConfigTexts$Words", "fail", "(I)V"⟩
abbrev b_WO_failAt : ByteArray := prog_6_method_4_code
def y_WO_failAt : MethodName := ⟨"ConfigTexts$Words", "failAt", "(II)V"⟩
abbrev b_WO_next : ByteArray := prog_6_method_5_code
def y_WO_next : MethodName := ⟨"ConfigTexts$Words", "next", "()V"⟩
abbrev b_WO_kindOf : ByteArray := prog_6_method_6_code
def y_WO_kindOf : MethodName := ⟨"ConfigTexts$Words", "kindOf", "(B)I"⟩
abbrev b_WO_spell : ByteArray := prog_6_method_7_code
def y_WO_spell : MethodName := ⟨"ConfigTexts$Words", "spell", "()V"⟩
abbrev b_WO_reckon : ByteArray := prog_6_method_8_code
def y_WO_reckon : MethodName := ⟨"ConfigTexts$Words", "reckon", "()V"⟩
abbrev b_WO_whichOf : ByteArray := prog_6_method_9_code
def y_WO_whichOf : MethodName := ⟨"ConfigTexts$Words", "whichOf", "(Ljava/lang/String;)I"⟩
abbrev b_WO_is : ByteArray := prog_6_method_10_code
def y_WO_is : MethodName := ⟨"ConfigTexts$Words", "is", "(Ljava/lang/String;)Z"⟩
abbrev b_WO_expect : ByteArray := prog_6_method_11_code
def y_WO_expect : MethodName := ⟨"ConfigTexts$Words", "expect", "(Ljava/lang/String;)V"⟩
abbrev b_WO_expectEnd : ByteArray := prog_6_method_12_code
def y_WO_expectEnd : MethodName := ⟨"ConfigTexts$Words", "expectEnd", "()V"⟩
abbrev b_WO_expectOneOf : ByteArray := prog_6_method_13_code
def y_WO_expectOneOf : MethodName := ⟨"ConfigTexts$Words", "expectOneOf", "(Ljava/lang/String;)I"⟩
abbrev b_WO_expectName : ByteArray := prog_6_method_14_code
def y_WO_expectName : MethodName := ⟨"ConfigTexts$Words", "expectName", "()J"⟩
abbrev b_WO_expectNumber : ByteArray := prog_6_method_15_code
def y_WO_expectNumber : MethodName := ⟨"ConfigTexts$Words", "expectNumber", "(III)I"⟩
theorem xT_V {own C : String} {idx : Nat} {y : MethodName} {b : ByteArray} {n : Nat} {r : Option FieldType} (h1 : Cond.methodLink own idx y ∈ xT) (h2 : Cond.instanceMethod y ∈ xT) (h3 : Cond.selects C y y ∈ xT) (h4 : Cond.initialized C ∈ xT) (h5 : Cond.code y b n r ∈ xT) : GoodIn xT (wsV own idx C y (.code y b n r :: xT)) := by
  intro w hw
  rcases List.mem_append.mp hw with h | h
  · simp only [List.mem_cons, List.not_mem_nil, or_false] at h
    rcases h with rfl | rfl | rfl | rfl
    · exact xT_good _ h1
    · exact xT_good _ h2
    · exact xT_good _ h3
    · exact xT_good _ h4
  · rcases List.mem_cons.mp h with rfl | h
    · exact xT_good _ h5
    · exact xT_good _ h
theorem xT_S {own : String} {idx : Nat} {y : MethodName} {b : ByteArray} {n : Nat} {r : Option FieldType} (h1 : Cond.methodLink own idx y ∈ xT) (h2 : Cond.static y ∈ xT) (h4 : Cond.initialized own ∈ xT) (h5 : Cond.code y b n r ∈ xT) : GoodIn xT (wsS own idx y (.code y b n r :: xT)) := by
  intro w hw
  rcases List.mem_append.mp hw with h | h
  · simp only [List.mem_cons, List.not_mem_nil, or_false] at h
    rcases h with rfl | rfl | rfl
    · exact xT_good _ h1
    · exact xT_good _ h2
    · exact xT_good _ h4
  · rcases List.mem_cons.mp h with rfl | h
    · exact xT_good _ h5
    · exact xT_good _ h
theorem xT_I {y : MethodName} {b : ByteArray} {n : Nat} {r : Option FieldType} (h5 : Cond.code y b n r ∈ xT) : GoodIn xT (.code y b n r :: xT) := by
  intro w hw
  rcases List.mem_cons.mp hw with rfl | h
  · exact xT_good _ h5
  · exact xT_good _ h
