theorem wd_0 : (Jvm.Cond.initialized "ConfigTextsLaw") ∈ xT := xT_of 0 (by decide +kernel) (by decide +kernel)
theorem wd_201 : (Jvm.Cond.methodLink "ConfigTextsLaw" (21 : Nat) ({ cls := "ConfigTexts", name := "put", desc := "(JI)Z" } : Jvm.MethodName)) ∈ xT := xT_of 201 (by decide +kernel) (by decide +kernel)
theorem wd_202 : (Jvm.Cond.instanceMethod ({ cls := "ConfigTexts", name := "put", desc := "(JI)Z" } : Jvm.MethodName)) ∈ xT := xT_of 202 (by decide +kernel) (by decide +kernel)
theorem wd_203 : (Jvm.Cond.selects "ConfigTexts" ({ cls := "ConfigTexts", name := "put", desc := "(JI)Z" } : Jvm.MethodName) ({ cls := "ConfigTexts", name := "put", desc := "(JI)Z" } : Jvm.MethodName)) ∈ xT := xT_of 203 (by decide +kernel) (by decide +kernel)
theorem wd_204 : (Jvm.Cond.code ({ cls := "ConfigTexts", name := "put", desc := "(JI)Z" } : Jvm.MethodName) prog_1_method_2_code (5 : Nat) (Option.some Jvm.ClassFile.FieldType.boolean)) ∈ xT := xT_of 204 (by decide +kernel) (by decide +kernel)
theorem wd_205 : (Jvm.Cond.methodLink "ConfigTextsLaw" (35 : Nat) ({ cls := "ConfigTexts", name := "fault", desc := "(I)I" } : Jvm.MethodName)) ∈ xT := xT_of 205 (by decide +kernel) (by decide +kernel)
theorem wd_206 : (Jvm.Cond.instanceMethod ({ cls := "ConfigTexts", name := "fault", desc := "(I)I" } : Jvm.MethodName)) ∈ xT := xT_of 206 (by decide +kernel) (by decide +kernel)
theorem wd_207 : (Jvm.Cond.selects "ConfigTexts" ({ cls := "ConfigTexts", name := "fault", desc := "(I)I" } : Jvm.MethodName) ({ cls := "ConfigTexts", name := "fault", desc := "(I)I" } : Jvm.MethodName)) ∈ xT := xT_of 207 (by decide +kernel) (by decide +kernel)
theorem wd_208 : (Jvm.Cond.code ({ cls := "ConfigTexts", name := "fault", desc := "(I)I" } : Jvm.MethodName) prog_1_method_4_code (2 : Nat) (Option.some Jvm.ClassFile.FieldType.int)) ∈ xT := xT_of 208 (by decide +kernel) (by decide +kernel)
theorem wd_209 : (Jvm.Cond.methodLink "ConfigTextsLaw" (40 : Nat) ({ cls := "ConfigTexts", name := "size", desc := "(I)I" } : Jvm.MethodName)) ∈ xT := xT_of 209 (by decide +kernel) (by decide +kernel)
theorem wd_210 : (Jvm.Cond.instanceMethod ({ cls := "ConfigTexts", name := "size", desc := "(I)I" } : Jvm.MethodName)) ∈ xT := xT_of 210 (by decide +kernel) (by decide +kernel)
theorem wd_211 : (Jvm.Cond.selects "ConfigTexts" ({ cls := "ConfigTexts", name := "size", desc := "(I)I" } : Jvm.MethodName) ({ cls := "ConfigTexts", name := "size", desc := "(I)I" } : Jvm.MethodName)) ∈ xT := xT_of 211 (by decide +kernel) (by decide +kernel)
theorem wd_212 : (Jvm.Cond.code ({ cls := "ConfigTexts", name := "size", desc := "(I)I" } : Jvm.MethodName) prog_1_method_5_code (2 : Nat) (Option.some Jvm.ClassFile.FieldType.int)) ∈ xT := xT_of 212 (by decide +kernel) (by decide +kernel)
theorem wd_217 : (Jvm.Cond.methodLink "ConfigTextsLaw" (44 : Nat) ({ cls := "ConfigTexts", name := "partition", desc := "(II)I" } : Jvm.MethodName)) ∈ xT := xT_of 217 (by decide +kernel) (by decide +kernel)
theorem wd_218 : (Jvm.Cond.instanceMethod ({ cls := "ConfigTexts", name := "partition", desc := "(II)I" } : Jvm.MethodName)) ∈ xT := xT_of 218 (by decide +kernel) (by decide +kernel)
theorem wd_219 : (Jvm.Cond.selects "ConfigTexts" ({ cls := "ConfigTexts", name := "partition", desc := "(II)I" } : Jvm.MethodName) ({ cls := "ConfigTexts", name := "partition", desc := "(II)I" } : Jvm.MethodName)) ∈ xT := xT_of 219 (by decide +kernel) (by decide +kernel)
theorem wd_220 : (Jvm.Cond.code ({ cls := "ConfigTexts", name := "partition", desc := "(II)I" } : Jvm.MethodName) prog_1_method_6_code (4 : Nat) (Option.some Jvm.ClassFile.FieldType.int)) ∈ xT := xT_of 220 (by decide +kernel) (by decide +kernel)
theorem wd_233 : (Jvm.Cond.methodLink "ConfigTextsLaw" (49 : Nat) ({ cls := "ConfigTexts", name := "process", desc := "(III)I" } : Jvm.MethodName)) ∈ xT := xT_of 233 (by decide +kernel) (by decide +kernel)
theorem wd_234 : (Jvm.Cond.instanceMethod ({ cls := "ConfigTexts", name := "process", desc := "(III)I" } : Jvm.MethodName)) ∈ xT := xT_of 234 (by decide +kernel) (by decide +kernel)
theorem wd_235 : (Jvm.Cond.selects "ConfigTexts" ({ cls := "ConfigTexts", name := "process", desc := "(III)I" } : Jvm.MethodName) ({ cls := "ConfigTexts", name := "process", desc := "(III)I" } : Jvm.MethodName)) ∈ xT := xT_of 235 (by decide +kernel) (by decide +kernel)
theorem wd_236 : (Jvm.Cond.code ({ cls := "ConfigTexts", name := "process", desc := "(III)I" } : Jvm.MethodName) prog_1_method_7_code (4 : Nat) (Option.some Jvm.ClassFile.FieldType.int)) ∈ xT := xT_of 236 (by decide +kernel) (by decide +kernel)
theorem wd_249 : (Jvm.Cond.methodLink "ConfigTextsLaw" (54 : Nat) ({ cls := "ConfigTexts", name := "thing", desc := "(IIII)I" } : Jvm.MethodName)) ∈ xT := xT_of 249 (by decide +kernel) (by decide +kernel)
theorem wd_250 : (Jvm.Cond.instanceMethod ({ cls := "ConfigTexts", name := "thing", desc := "(IIII)I" } : Jvm.MethodName)) ∈ xT := xT_of 250 (by decide +kernel) (by decide +kernel)
theorem wd_251 : (Jvm.Cond.selects "ConfigTexts" ({ cls := "ConfigTexts", name := "thing", desc := "(IIII)I" } : Jvm.MethodName) ({ cls := "ConfigTexts", name := "thing", desc := "(IIII)I" } : Jvm.MethodName)) ∈ xT := xT_of 251 (by decide +kernel) (by decide +kernel)
theorem wd_252 : (Jvm.Cond.code ({ cls := "ConfigTexts", name := "thing", desc := "(IIII)I" } : Jvm.MethodName) prog_1_method_8_code (5 : Nat) (Option.some Jvm.ClassFile.FieldType.int)) ∈ xT := xT_of 252 (by decide +kernel) (by decide +kernel)
theorem wd_253 : (Jvm.Cond.methodLink "ConfigTextsLaw" (59 : Nat) ({ cls := "ConfigTexts", name := "channel", desc := "(II)I" } : Jvm.MethodName)) ∈ xT := xT_of 253 (by decide +kernel) (by decide +kernel)
theorem wd_254 : (Jvm.Cond.instanceMethod ({ cls := "ConfigTexts", name := "channel", desc := "(II)I" } : Jvm.MethodName)) ∈ xT := xT_of 254 (by decide +kernel) (by decide +kernel)
theorem wd_255 : (Jvm.Cond.selects "ConfigTexts" ({ cls := "ConfigTexts", name := "channel", desc := "(II)I" } : Jvm.MethodName) ({ cls := "ConfigTexts", name := "channel", desc := "(II)I" } : Jvm.MethodName)) ∈ xT := xT_of 255 (by decide +kernel) (by decide +kernel)
theorem wd_256 : (Jvm.Cond.code ({ cls := "ConfigTexts", name := "channel", desc := "(II)I" } : Jvm.MethodName) prog_1_method_9_code (3 : Nat) (Option.some Jvm.ClassFile.FieldType.int)) ∈ xT := xT_of 256 (by decide +kernel) (by decide +kernel)
theorem wd_257 : (Jvm.Cond.methodLink "ConfigTextsLaw" (63 : Nat) ({ cls := "ConfigTexts", name := "window", desc := "(II)I" } : Jvm.MethodName)) ∈ xT := xT_of 257 (by decide +kernel) (by decide +kernel)
theorem wd_258 : (Jvm.Cond.instanceMethod ({ cls := "ConfigTexts", name := "window", desc := "(II)I" } : Jvm.MethodName)) ∈ xT := xT_of 258 (by decide +kernel) (by decide +kernel)
theorem wd_259 : (Jvm.Cond.selects "ConfigTexts" ({ cls := "ConfigTexts", name := "window", desc := "(II)I" } : Jvm.MethodName) ({ cls := "ConfigTexts", name := "window", desc := "(II)I" } : Jvm.MethodName)) ∈ xT := xT_of 259 (by decide +kernel) (by decide +kernel)
theorem wd_260 : (Jvm.Cond.code ({ cls := "ConfigTexts", name := "window", desc := "(II)I" } : Jvm.MethodName) prog_1_method_10_code (3 : Nat) (Option.some Jvm.ClassFile.FieldType.int)) ∈ xT := xT_of 260 (by decide +kernel) (by decide +kernel)
theorem wd_261 : (Jvm.Cond.methodLink "ConfigTextsLaw" (26 : Nat) ({ cls := "ConfigTextsLaw", name := "load", desc := "(LConfigTexts;[J)I" } : Jvm.MethodName)) ∈ xT := xT_of 261 (by decide +kernel) (by decide +kernel)
theorem wd_262 : (Jvm.Cond.static ({ cls := "ConfigTextsLaw", name := "load", desc := "(LConfigTexts;[J)I" } : Jvm.MethodName)) ∈ xT := xT_of 262 (by decide +kernel) (by decide +kernel)
theorem wd_825 : (Jvm.Cond.methodLink "ConfigTextsLaw" (32 : Nat) ({ cls := "ConfigTextsModel", name := "thrown", desc := "()I" } : Jvm.MethodName)) ∈ xT := xT_of 825 (by decide +kernel) (by decide +kernel)
theorem wd_826 : (Jvm.Cond.instanceMethod ({ cls := "ConfigTextsModel", name := "thrown", desc := "()I" } : Jvm.MethodName)) ∈ xT := xT_of 826 (by decide +kernel) (by decide +kernel)
theorem wd_827 : (Jvm.Cond.selects "ConfigTextsModel" ({ cls := "ConfigTextsModel", name := "thrown", desc := "()I" } : Jvm.MethodName) ({ cls := "ConfigTextsModel", name := "thrown", desc := "()I" } : Jvm.MethodName)) ∈ xT := xT_of 827 (by decide +kernel) (by decide +kernel)
theorem wd_828 : (Jvm.Cond.code ({ cls := "ConfigTextsModel", name := "thrown", desc := "()I" } : Jvm.MethodName) prog_8_method_2_code (1 : Nat) (Option.some Jvm.ClassFile.FieldType.int)) ∈ xT := xT_of 828 (by decide +kernel) (by decide +kernel)
theorem wd_829 : (Jvm.Cond.methodLink "ConfigTextsLaw" (25 : Nat) ({ cls := "ConfigTextsModel", name := "put", desc := "(JI)Z" } : Jvm.MethodName)) ∈ xT := xT_of 829 (by decide +kernel) (by decide +kernel)
theorem wd_830 : (Jvm.Cond.instanceMethod ({ cls := "ConfigTextsModel", name := "put", desc := "(JI)Z" } : Jvm.MethodName)) ∈ xT := xT_of 830 (by decide +kernel) (by decide +kernel)
theorem wd_831 : (Jvm.Cond.selects "ConfigTextsModel" ({ cls := "ConfigTextsModel", name := "put", desc := "(JI)Z" } : Jvm.MethodName) ({ cls := "ConfigTextsModel", name := "put", desc := "(JI)Z" } : Jvm.MethodName)) ∈ xT := xT_of 831 (by decide +kernel) (by decide +kernel)
theorem wd_832 : (Jvm.Cond.code ({ cls := "ConfigTextsModel", name := "put", desc := "(JI)Z" } : Jvm.MethodName) prog_8_method_3_code (5 : Nat) (Option.some Jvm.ClassFile.FieldType.boolean)) ∈ xT := xT_of 832 (by decide +kernel) (by decide +kernel)
theorem wd_833 : (Jvm.Cond.methodLink "ConfigTextsLaw" (31 : Nat) ({ cls := "ConfigTextsModel", name := "load", desc := "()I" } : Jvm.MethodName)) ∈ xT := xT_of 833 (by decide +kernel) (by decide +kernel)
theorem wd_834 : (Jvm.Cond.instanceMethod ({ cls := "ConfigTextsModel", name := "load", desc := "()I" } : Jvm.MethodName)) ∈ xT := xT_of 834 (by decide +kernel) (by decide +kernel)
theorem wd_835 : (Jvm.Cond.selects "ConfigTextsModel" ({ cls := "ConfigTextsModel", name := "load", desc := "()I" } : Jvm.MethodName) ({ cls := "ConfigTextsModel", name := "load", desc := "()I" } : Jvm.MethodName)) ∈ xT := xT_of 835 (by decide +kernel) (by decide +kernel)
theorem wd_836 : (Jvm.Cond.code ({ cls := "ConfigTextsModel", name := "load", desc := "()I" } : Jvm.MethodName) prog_8_method_42_code (1 : Nat) (Option.some Jvm.ClassFile.FieldType.int)) ∈ xT := xT_of 836 (by decide +kernel) (by decide +kernel)
theorem wd_990 : (Jvm.Cond.methodLink "ConfigTextsLaw" (39 : Nat) ({ cls := "ConfigTextsModel", name := "fault", desc := "(I)I" } : Jvm.MethodName)) ∈ xT := xT_of 990 (by decide +kernel) (by decide +kernel)
theorem wd_991 : (Jvm.Cond.instanceMethod ({ cls := "ConfigTextsModel", name := "fault", desc := "(I)I" } : Jvm.MethodName)) ∈ xT := xT_of 991 (by decide +kernel) (by decide +kernel)
theorem wd_992 : (Jvm.Cond.selects "ConfigTextsModel" ({ cls := "ConfigTextsModel", name := "fault", desc := "(I)I" } : Jvm.MethodName) ({ cls := "ConfigTextsModel", name := "fault", desc := "(I)I" } : Jvm.MethodName)) ∈ xT := xT_of 992 (by decide +kernel) (by decide +kernel)
theorem wd_993 : (Jvm.Cond.code ({ cls := "ConfigTextsModel", name := "fault", desc := "(I)I" } : Jvm.MethodName) prog_8_method_43_code (2 : Nat) (Option.some Jvm.ClassFile.FieldType.int)) ∈ xT := xT_of 993 (by decide +kernel) (by decide +kernel)
theorem wd_994 : (Jvm.Cond.methodLink "ConfigTextsLaw" (43 : Nat) ({ cls := "ConfigTextsModel", name := "size", desc := "(I)I" } : Jvm.MethodName)) ∈ xT := xT_of 994 (by decide +kernel) (by decide +kernel)
theorem wd_995 : (Jvm.Cond.instanceMethod ({ cls := "ConfigTextsModel", name := "size", desc := "(I)I" } : Jvm.MethodName)) ∈ xT := xT_of 995 (by decide +kernel) (by decide +kernel)
theorem wd_996 : (Jvm.Cond.selects "ConfigTextsModel" ({ cls := "ConfigTextsModel", name := "size", desc := "(I)I" } : Jvm.MethodName) ({ cls := "ConfigTextsModel", name := "size", desc := "(I)I" } : Jvm.MethodName)) ∈ xT := xT_of 996 (by decide +kernel) (by decide +kernel)
theorem wd_997 : (Jvm.Cond.code ({ cls := "ConfigTextsModel", name := "size", desc := "(I)I" } : Jvm.MethodName) prog_8_method_44_code (2 : Nat) (Option.some Jvm.ClassFile.FieldType.int)) ∈ xT := xT_of 997 (by decide +kernel) (by decide +kernel)
theorem wd_998 : (Jvm.Cond.methodLink "ConfigTextsLaw" (48 : Nat) ({ cls := "ConfigTextsModel", name := "partition", desc := "(II)I" } : Jvm.MethodName)) ∈ xT := xT_of 998 (by decide +kernel) (by decide +kernel)
theorem wd_999 : (Jvm.Cond.instanceMethod ({ cls := "ConfigTextsModel", name := "partition", desc := "(II)I" } : Jvm.MethodName)) ∈ xT := xT_of 999 (by decide +kernel) (by decide +kernel)
theorem wd_1000 : (Jvm.Cond.selects "ConfigTextsModel" ({ cls := "ConfigTextsModel", name := "partition", desc := "(II)I" } : Jvm.MethodName) ({ cls := "ConfigTextsModel", name := "partition", desc := "(II)I" } : Jvm.MethodName)) ∈ xT := xT_of 1000 (by decide +kernel) (by decide +kernel)
theorem wd_1001 : (Jvm.Cond.code ({ cls := "ConfigTextsModel", name := "partition", desc := "(II)I" } : Jvm.MethodName) prog_8_method_45_code (3 : Nat) (Option.some Jvm.ClassFile.FieldType.int)) ∈ xT := xT_of 1001 (by decide +kernel) (by decide +kernel)
theorem wd_1002 : (Jvm.Cond.methodLink "ConfigTextsLaw" (53 : Nat) ({ cls := "ConfigTextsModel", name := "process", desc := "(III)I" } : Jvm.MethodName)) ∈ xT := xT_of 1002 (by decide +kernel) (by decide +kernel)
theorem wd_1003 : (Jvm.Cond.instanceMethod ({ cls := "ConfigTextsModel", name := "process", desc := "(III)I" } : Jvm.MethodName)) ∈ xT := xT_of 1003 (by decide +kernel) (by decide +kernel)
theorem wd_1004 : (Jvm.Cond.selects "ConfigTextsModel" ({ cls := "ConfigTextsModel", name := "process", desc := "(III)I" } : Jvm.MethodName) ({ cls := "ConfigTextsModel", name := "process", desc := "(III)I" } : Jvm.MethodName)) ∈ xT := xT_of 1004 (by decide +kernel) (by decide +kernel)
theorem wd_1005 : (Jvm.Cond.code ({ cls := "ConfigTextsModel", name := "process", desc := "(III)I" } : Jvm.MethodName) prog_8_method_47_code (4 : Nat) (Option.some Jvm.ClassFile.FieldType.int)) ∈ xT := xT_of 1005 (by decide +kernel) (by decide +kernel)
theorem wd_1010 : (Jvm.Cond.methodLink "ConfigTextsLaw" (58 : Nat) ({ cls := "ConfigTextsModel", name := "thing", desc := "(IIII)I" } : Jvm.MethodName)) ∈ xT := xT_of 1010 (by decide +kernel) (by decide +kernel)
theorem wd_1011 : (Jvm.Cond.instanceMethod ({ cls := "ConfigTextsModel", name := "thing", desc := "(IIII)I" } : Jvm.MethodName)) ∈ xT := xT_of 1011 (by decide +kernel) (by decide +kernel)
theorem wd_1012 : (Jvm.Cond.selects "ConfigTextsModel" ({ cls := "ConfigTextsModel", name := "thing", desc := "(IIII)I" } : Jvm.MethodName) ({ cls := "ConfigTextsModel", name := "thing", desc := "(IIII)I" } : Jvm.MethodName)) ∈ xT := xT_of 1012 (by decide +kernel) (by decide +kernel)
theorem wd_1013 : (Jvm.Cond.code ({ cls := "ConfigTextsModel", name := "thing", desc := "(IIII)I" } : Jvm.MethodName) prog_8_method_48_code (5 : Nat) (Option.some Jvm.ClassFile.FieldType.int)) ∈ xT := xT_of 1013 (by decide +kernel) (by decide +kernel)
theorem wd_1014 : (Jvm.Cond.methodLink "ConfigTextsLaw" (62 : Nat) ({ cls := "ConfigTextsModel", name := "channel", desc := "(II)I" } : Jvm.MethodName)) ∈ xT := xT_of 1014 (by decide +kernel) (by decide +kernel)
theorem wd_1015 : (Jvm.Cond.instanceMethod ({ cls := "ConfigTextsModel", name := "channel", desc := "(II)I" } : Jvm.MethodName)) ∈ xT := xT_of 1015 (by decide +kernel) (by decide +kernel)
theorem wd_1016 : (Jvm.Cond.selects "ConfigTextsModel" ({ cls := "ConfigTextsModel", name := "channel", desc := "(II)I" } : Jvm.MethodName) ({ cls := "ConfigTextsModel", name := "channel", desc := "(II)I" } : Jvm.MethodName)) ∈ xT := xT_of 1016 (by decide +kernel) (by decide +kernel)
theorem wd_1017 : (Jvm.Cond.code ({ cls := "ConfigTextsModel", name := "channel", desc := "(II)I" } : Jvm.MethodName) prog_8_method_49_code (3 : Nat) (Option.some Jvm.ClassFile.FieldType.int)) ∈ xT := xT_of 1017 (by decide +kernel) (by decide +kernel)
theorem wd_1018 : (Jvm.Cond.methodLink "ConfigTextsLaw" (66 : Nat) ({ cls := "ConfigTextsModel", name := "window", desc := "(II)I" } : Jvm.MethodName)) ∈ xT := xT_of 1018 (by decide +kernel) (by decide +kernel)
theorem wd_1019 : (Jvm.Cond.instanceMethod ({ cls := "ConfigTextsModel", name := "window", desc := "(II)I" } : Jvm.MethodName)) ∈ xT := xT_of 1019 (by decide +kernel) (by decide +kernel)
theorem wd_1020 : (Jvm.Cond.selects "ConfigTextsModel" ({ cls := "ConfigTextsModel", name := "window", desc := "(II)I" } : Jvm.MethodName) ({ cls := "ConfigTextsModel", name := "window", desc := "(II)I" } : Jvm.MethodName)) ∈ xT := xT_of 1020 (by decide +kernel) (by decide +kernel)
theorem wd_1021 : (Jvm.Cond.code ({ cls := "ConfigTextsModel", name := "window", desc := "(II)I" } : Jvm.MethodName) prog_8_method_50_code (3 : Nat) (Option.some Jvm.ClassFile.FieldType.int)) ∈ xT := xT_of 1021 (by decide +kernel) (by decide +kernel)
theorem wd_1022 : (Jvm.Cond.constantLong "ConfigTextsLaw" (19 : Nat) (4294967295 : Int64)) ∈ xT := xT_of 1022 (by decide +kernel) (by decide +kernel)
set_option maxHeartbeats 8000000 in
set_option maxRecDepth 100000 in
/-- the law's loop: at its head, behind i calls, the class's world and the reference's stand for each other -/
theorem law_loop {p : Program} {l : Launch} {e : Env} {s : State} {m : MethodId} {below : List Frame} {meth : Method} {c : Code} {D : va_G} {cA cm : Nat → ClassId} {adK adV : Nat → Nat} {b L : Nat} {xs : Nat → Int32} (hL : L ≤ 2560) (hq : l.stackTraces = false) (C0 : lw_At p s m meth c b L xs) (hF : xF D (cB s.heap.size) cA adK adV s) (hK : va_K D xcl (mtys cm) s) :
    ∀ (n i : Nat) (S M : XS) (g : Nat → Int64) (H : Heap) (locs : List Loc) (ls : Array Slot), 5 * i ≤ L + 5 → L + 10 ≤ 5 * (i + n) → RL S M → LI D s.heap.size cA cm S M g H → va_S (fun q => s.heap.size ≤ q) s.heap H locs → lv_has ls 7 [(0, .ref b), (1, .ref (s.heap.size + 0)), (2, .ref (s.heap.size + 180 + 0)), (3, .ref (s.heap.size + 205)), (4, .int (nI (5 * i)))] → W p l e room_1 s m #[Value.ref b] below meth c H locs (300 + i) (20000 + 6 * i) (lw_Z below #[Value.ref b] s) (F0 m 23 ls []) := by
  obtain ⟨hx, hb, hr, hml, hown, hts0, hX, hbl, hlocks, hgv⟩ := C0
  have hts : ∀ w ∈ xT, w.before #[Value.ref b] s = true := fun w hw => hts0 w (List.mem_filter.mp hw).1
  have hbA : ¬ (fun q : Nat => s.heap.size ≤ q) b := Nat.not_le.mpr hbl
  intro n
  induction n with
  | zero => intro i S M g H locs ls h1 h2; omega
  | succ n ih =>
    intro i S M g H locs ls h5 hn hR I hS hl
    have go : ∀ (S' M' : XS) (g' : Nat → Int64) (H' : Heap) (locs' : List Loc) (k' n' : Nat) (ls' : Array Slot), k' ≤ 300 + i + 1 → n' ≤ 20000 + 6 * i + 6 → RL S' M' → LI D s.heap.size cA cm S' M' g' H' → va_S (fun q => s.heap.size ≤ q) s.heap H' locs' → lv_has ls' 7 [(0, .ref b), (1, .ref (s.heap.size + 0)), (2, .ref (s.heap.size + 180 + 0)), (3, .ref (s.heap.size + 205)), (4, .int (nI (5 * i)))] → 5 * i + 5 ≤ L → W p l e room_1 s m #[Value.ref b] below meth c H' locs' k' n' (lw_Z below #[Value.ref b] s) (F0 m 472 ls' []) := by
      intro S' M' g' H' locs' k' n' ls' hk' hn' hR' I' hS' hl' hLi
      refine lv_iinc (v := nI (5 * (i + 1))) (lv' := [(4, .int (nI (5 * (i + 1)))), (0, .ref b), (1, .ref (s.heap.size + 0)), (2, .ref (s.heap.size + 180 + 0)), (3, .ref (s.heap.size + 205))]) hx hb d_law_472 hl' (k := 4) rfl (by show nI (5 * i) + nI 5 = _; rw [nI_add]; rfl) (by decide) rfl (fun ls hl => ?_)
      refine lv_goto (tgt := 23) hx hb d_law_475 (by decide) ?_
      refine W.widen (k := 300 + (i + 1)) (n := 20000 + 6 * (i + 1)) (by omega) (by omega) ?_
      exact ih (i + 1) S' M' g' H' locs' ls (by omega) (by omega) hR' I' hS' (lv_sub hl [1, 2, 3, 4, 0] rfl)
    refine lv_iload hx hb d_law_23 (lv_at hl 4 rfl) ?_
    refine lv_aload_n hx hb d_law_25 rfl (lv_at hl 0 rfl) ?_
    refine va_slen hx hb hX hbl hbA hS d_law_26 ?_
    refine lv_iconst (v := (5 : Int32)) hx hb d_law_27 (by decide) ?_
    refine lv_isub hx hb d_law_28 ?_
    refine lv_icmp_gt (tgt := 478) hx hb d_law_29 (by decide) (fun c9 => ?_) (fun c9 => ?_)
    · refine lv_iconst (v := (1 : Int32)) hx hb d_law_478 (by decide) ?_
      refine va_forget (fun q hq => hS.2.2 q hq) ?_
      refine W.widen (k := 601024) (n := 7293034) (by omega) (by omega) ?_
      exact lw_ret hx hb hr hlocks d_law_479
    · have hLi : 5 * i + 5 ≤ L := by
        rcases Nat.lt_or_ge L (5 * i + 5) with w | w
        · exfalso
          apply c9
          show nI L - nI 5 < nI (5 * i)
          rcases Nat.lt_or_ge L 5 with w2 | w2
          · have w3 := pk_sneg (a := L) (b := 5) (by decide) w2
            have w4 := nI_toInt (n := 5 * i) (by omega)
            rw [Int32.lt_iff_toInt_lt] at w3 ⊢
            have w5 : (0 : Int32).toInt = 0 := by decide
            omega
          · rw [pk_sub w2]
            exact nI_lt (by omega) (by omega)
        · exact w
      have h0 : vp_in (nI (5 * i)) L := vp_in_nI (by omega) (by omega)
      have h1 : vp_in ((nI (5 * i)) + (1 : Int32)) L := by rw [nI_1]; exact vp_in_nI (by omega) (by omega)
      have h2 : vp_in ((nI (5 * i)) + (2 : Int32)) L := by rw [show (2 : Int32) = nI 2 from rfl, nI_add]; exact vp_in_nI (by omega) (by omega)
      have h3 : vp_in ((nI (5 * i)) + (3 : Int32)) L := by rw [show (3 : Int32) = nI 3 from rfl, nI_add]; exact vp_in_nI (by omega) (by omega)
      have h4 : vp_in ((nI (5 * i)) + (4 : Int32)) L := by rw [show (4 : Int32) = nI 4 from rfl, nI_add]; exact vp_in_nI (by omega) (by omega)
      have go := fun S' M' g' H' locs' k' n' ls' q1 q2 q3 q4 q5 q6 => go S' M' g' H' locs' k' n' ls' q1 q2 q3 q4 q5 q6 hLi
      have hi9 : i < 600 := by omega
      refine lv_aload_n hx hb d_law_32 rfl (lv_at hl 0 rfl) ?_
      refine lv_iload hx hb d_law_33 (lv_at hl 4 rfl) ?_
      refine va_sld hx hb hX hbl hbA hS h0 d_law_35 ?_
      refine lv_bipush (v := (15 : Int32)) hx hb d_law_36 (by decide) ?_
      refine lv_iand hx hb d_law_38 ?_
      obtain ⟨j, hj, ej⟩ := pk_andE (xs (nI (5 * i)).toNatClampNeg) (m := (15 : Int32)) 4 (by decide)
      rw [ej]
      by_cases h8 : 8 < j
      · refine lv_tableOut (tgt := 472) hx hb d_law_39 (Or.inr (by rw [nI_toInt (by omega)]; omega)) (by decide) ?_
        exact go S M g H locs _ _ ls (by omega) (by omega) hR I hS hl
      · rcases (show j = 0 ∨ j = 1 ∨ j = 2 ∨ j = 3 ∨ j = 4 ∨ j = 5 ∨ j = 6 ∨ j = 7 ∨ j = 8 by omega) with rfl | rfl | rfl | rfl | rfl | rfl | rfl | rfl | rfl
        · refine lv_tableIn (off := 49) (tgt := 88) hx hb d_law_39 (by decide) (by decide) (by decide) (by decide) ?_
          refine lv_aload_n hx hb d_law_88 rfl (lv_at hl 1 rfl) ?_
          refine lv_aload_n hx hb d_law_89 rfl (lv_at hl 0 rfl) ?_
          refine lv_iload hx hb d_law_90 (lv_at hl 4 rfl) ?_
          refine lv_iconst (v := (1 : Int32)) hx hb d_law_92 (by decide) ?_
          refine lv_iadd hx hb d_law_93 ?_
          refine va_sld hx hb hX hbl hbA hS h1 d_law_94 ?_
          refine lv_i2l (v := (xs ((nI (5 * i)) + (1 : Int32)).toNatClampNeg).toInt64) hx hb d_law_95 rfl ?_
          refine lv_bipush (v := (32 : Int32)) hx hb d_law_96 (by decide) ?_
          refine lv_lshl (v := ((xs ((nI (5 * i)) + (1 : Int32)).toNatClampNeg).toInt64) <<< ((32 : Int32).toInt64 &&& 63)) hx hb d_law_98 rfl ?_
          refine lv_aload_n hx hb d_law_99 rfl (lv_at hl 0 rfl) ?_
          refine lv_iload hx hb d_law_100 (lv_at hl 4 rfl) ?_
          refine lv_iconst (v := (2 : Int32)) hx hb d_law_102 (by decide) ?_
          refine lv_iadd hx hb d_law_103 ?_
          refine va_sld hx hb hX hbl hbA hS h2 d_law_104 ?_
          refine lv_i2l (v := (xs ((nI (5 * i)) + (2 : Int32)).toNatClampNeg).toInt64) hx hb d_law_105 rfl ?_
          refine lv_ldc2 (v := (4294967295 : Int64)) hx hb hown (hts _ wd_1022) d_law_106 ?_
          refine lv_land hx hb d_law_109 ?_
          refine lv_lor hx hb d_law_110 ?_
          refine lv_aload_n hx hb d_law_111 rfl (lv_at hl 0 rfl) ?_
          refine lv_iload hx hb d_law_112 (lv_at hl 4 rfl) ?_
          refine lv_iconst (v := (3 : Int32)) hx hb d_law_114 (by decide) ?_
          refine lv_iadd hx hb d_law_115 ?_
          refine va_sld hx hb hX hbl hbA hS h3 d_law_116 ?_
          obtain ⟨r, S', M', e1, e2, hR'⟩ := r_put hR ((((xs ((nI (5 * i)) + (1 : Int32)).toNatClampNeg).toInt64) <<< ((32 : Int32).toInt64 &&& 63)) ||| (((xs ((nI (5 * i)) + (2 : Int32)).toNatClampNeg).toInt64) &&& (4294967295 : Int64))) (xs ((nI (5 * i)) + (3 : Int32)).toNatClampNeg)
          refine lc_x (va_runV (As := [.long ((((xs ((nI (5 * i)) + (1 : Int32)).toNatClampNeg).toInt64) <<< ((32 : Int32).toInt64 &&& 63)) ||| (((xs ((nI (5 * i)) + (2 : Int32)).toNatClampNeg).toInt64) &&& (4294967295 : Int64))), .int (xs ((nI (5 * i)) + (3 : Int32)).toNatClampNeg)]) (rest := []) ⟨hx, hb, hml, hown, hts⟩ (c_CT_put l D (cB s.heap.size) cA adK adV s S ((((xs ((nI (5 * i)) + (1 : Int32)).toNatClampNeg).toInt64) <<< ((32 : Int32).toInt64 &&& 63)) ||| (((xs ((nI (5 * i)) + (2 : Int32)).toNatClampNeg).toInt64) &&& (4294967295 : Int64))) (xs ((nI (5 * i)) + (3 : Int32)).toNatClampNeg) (r, S') e1) (cwV 2 hts (xT_V wd_201 wd_202 wd_203 wd_1 wd_204) rfl rfl rfl (by decide +kernel) ⟨Nat.le_of_ble_eq_true rfl, Nat.le_of_ble_eq_true rfl⟩) (lp_x hF I.1 hS) rfl rfl hl.1 rfl (lv_room (Nat.le_of_ble_eq_true rfl)) d_law_117 ⟨by show _ ≤ 601024; omega, by show _ ≤ 7293034; omega⟩) I hS (fun H locs I hS => ?_)
          refine lv_aload_n hx hb d_law_120 rfl (lv_at hl 2 rfl) ?_
          refine lv_aload_n hx hb d_law_121 rfl (lv_at hl 0 rfl) ?_
          refine lv_iload hx hb d_law_122 (lv_at hl 4 rfl) ?_
          refine lv_iconst (v := (1 : Int32)) hx hb d_law_124 (by decide) ?_
          refine lv_iadd hx hb d_law_125 ?_
          refine va_sld hx hb hX hbl hbA hS h1 d_law_126 ?_
          refine lv_i2l (v := (xs ((nI (5 * i)) + (1 : Int32)).toNatClampNeg).toInt64) hx hb d_law_127 rfl ?_
          refine lv_bipush (v := (32 : Int32)) hx hb d_law_128 (by decide) ?_
          refine lv_lshl (v := ((xs ((nI (5 * i)) + (1 : Int32)).toNatClampNeg).toInt64) <<< ((32 : Int32).toInt64 &&& 63)) hx hb d_law_130 rfl ?_
          refine lv_aload_n hx hb d_law_131 rfl (lv_at hl 0 rfl) ?_
          refine lv_iload hx hb d_law_132 (lv_at hl 4 rfl) ?_
          refine lv_iconst (v := (2 : Int32)) hx hb d_law_134 (by decide) ?_
          refine lv_iadd hx hb d_law_135 ?_
          refine va_sld hx hb hX hbl hbA hS h2 d_law_136 ?_
          refine lv_i2l (v := (xs ((nI (5 * i)) + (2 : Int32)).toNatClampNeg).toInt64) hx hb d_law_137 rfl ?_
          refine lv_ldc2 (v := (4294967295 : Int64)) hx hb hown (hts _ wd_1022) d_law_138 ?_
          refine lv_land hx hb d_law_141 ?_
          refine lv_lor hx hb d_law_142 ?_
          refine lv_aload_n hx hb d_law_143 rfl (lv_at hl 0 rfl) ?_
          refine lv_iload hx hb d_law_144 (lv_at hl 4 rfl) ?_
          refine lv_iconst (v := (3 : Int32)) hx hb d_law_146 (by decide) ?_
          refine lv_iadd hx hb d_law_147 ?_
          refine va_sld hx hb hX hbl hbA hS h3 d_law_148 ?_
          refine lc_m (va_runV (As := [.long ((((xs ((nI (5 * i)) + (1 : Int32)).toNatClampNeg).toInt64) <<< ((32 : Int32).toInt64 &&& 63)) ||| (((xs ((nI (5 * i)) + (2 : Int32)).toNatClampNeg).toInt64) &&& (4294967295 : Int64))), .int (xs ((nI (5 * i)) + (3 : Int32)).toNatClampNeg)]) (rest := [.int r]) ⟨hx, hb, hml, hown, hts⟩ (c_MO_put l D (cB (s.heap.size + 180)) cm M ((((xs ((nI (5 * i)) + (1 : Int32)).toNatClampNeg).toInt64) <<< ((32 : Int32).toInt64 &&& 63)) ||| (((xs ((nI (5 * i)) + (2 : Int32)).toNatClampNeg).toInt64) &&& (4294967295 : Int64))) (xs ((nI (5 * i)) + (3 : Int32)).toNatClampNeg) (r, M') e2) (cwV 2 hts (xT_V wd_829 wd_830 wd_831 wd_7 wd_832) rfl rfl rfl (by decide +kernel) ⟨Nat.le_of_ble_eq_true rfl, Nat.le_of_ble_eq_true rfl⟩) (lp_m hK I.2.1) rfl rfl hl.1 rfl (lv_room (Nat.le_of_ble_eq_true rfl)) d_law_149 ⟨by show _ ≤ 601024; omega, by show _ ≤ 7293034; omega⟩) I hS (fun H locs I hS => ?_)
          refine lv_icmp_eq (tgt := 472) hx hb d_law_152 (by decide) (fun _ => ?_) (fun c9 => absurd rfl c9)
          exact go S' M' g H locs _ _ ls (by omega) (by omega) hR' I hS hl
        · refine lv_tableIn (off := 118) (tgt := 157) hx hb d_law_39 (by decide) (by decide) (by decide) (by decide) ?_
          obtain ⟨q, bb, M', e1, e2, hcase⟩ := r_load hR
          refine lv_aload_n hx hb d_law_157 rfl (lv_at hl 1 rfl) ?_
          refine lv_aload_n hx hb d_law_158 rfl (lv_at hl 3 rfl) ?_
          refine lc_l (xrunSW (As := [.ref (s.heap.size + 0), .ref (s.heap.size + 205)]) (rest := []) hx hb hml hown (c_LA_load l hq D (cB s.heap.size) cA adK adV s S (s.heap.size + 205) g q e1 (fun w => by have := (xI_in w).2; omega)) (fun w hw a' U hW => word_at hW (by rcases List.mem_cons.mp hw with h9 | h9; exact h9 ▸ Or.inl rfl; exact (xT_good w h9).2) (by rcases List.mem_cons.mp hw with h9 | h9; exact h9 ▸ hts _ wd_263; exact hts w h9)) List.mem_cons_self (hts _ wd_0) (hts _ wd_261) (hts _ wd_262) (by decide +kernel) (show (parseMethodDescriptor y_LA_load.desc).map (fun d => d.parameters.length) = some 2 by decide +kernel) ⟨Nat.le_of_ble_eq_true rfl, Nat.le_of_ble_eq_true rfl⟩ rfl rfl (lp_l hF I hS) rfl rfl hl.1 rfl (lv_room (Nat.le_of_ble_eq_true rfl)) d_law_159 ⟨by show _ ≤ 601024; omega, by show _ ≤ 7293034; omega⟩) I hS (fun r S1 H locs eq I hS => ?_) (fun S1 H locs eq I hS => ?_)
          · -- it answers
            obtain ⟨S', e3, e4, hR'⟩ : ∃ S', q = .inl (bb, S') ∧ xgi M' 0 0 = 0 ∧ RL S' M' := by
              rcases hcase with w | ⟨S', w, -⟩
              · exact w
              · rw [eq] at w; cases w
            rw [eq] at e3
            cases e3
            refine lv_istore (lv' := [(5, .int 0), (0, .ref b), (1, .ref (s.heap.size + 0)), (2, .ref (s.heap.size + 180 + 0)), (3, .ref (s.heap.size + 205)), (4, .int (nI (5 * i)))]) hx hb d_law_162 hl (by decide) rfl (fun ls hl => ?_)
            refine lv_aload_n hx hb d_law_164 rfl (lv_at hl 3 rfl) ?_
            refine lc_m (va_runV (As := []) (rest := []) ⟨hx, hb, hml, hown, hts⟩ (c_MO_load l D (cB (s.heap.size + 180)) cm M (bb, M') e2) (cwV 0 hts (xT_V wd_833 wd_834 wd_835 wd_7 wd_836) rfl rfl rfl (by decide +kernel) ⟨Nat.le_of_ble_eq_true rfl, Nat.le_of_ble_eq_true rfl⟩) (lp_m hK I.2.1) rfl rfl hl.1 rfl (lv_room (Nat.le_of_ble_eq_true rfl)) d_law_165 ⟨by show _ ≤ 601024; omega, by show _ ≤ 7293034; omega⟩) I hS (fun H locs I hS => ?_)
            refine lv_istore (lv' := [(6, .int bb), (5, .int 0), (0, .ref b), (1, .ref (s.heap.size + 0)), (2, .ref (s.heap.size + 180 + 0)), (3, .ref (s.heap.size + 205)), (4, .int (nI (5 * i)))]) hx hb d_law_168 hl (by decide) rfl (fun ls hl => ?_)
            refine lv_aload_n hx hb d_law_170 rfl (lv_at hl 4 rfl) ?_
            have e5 : f_MO_thrown M' = some 0 := by unfold f_MO_thrown; rw [e4]
            refine lc_m (va_runV (As := []) (rest := []) ⟨hx, hb, hml, hown, hts⟩ (c_MO_thrown l D (cB (s.heap.size + 180)) cm M' 0 e5) (cwV 0 hts (xT_V wd_825 wd_826 wd_827 wd_7 wd_828) rfl rfl rfl (by decide +kernel) ⟨Nat.le_of_ble_eq_true rfl, Nat.le_of_ble_eq_true rfl⟩) (lp_m hK I.2.1) rfl rfl hl.1 rfl (lv_room (Nat.le_of_ble_eq_true rfl)) d_law_171 ⟨by show _ ≤ 601024; omega, by show _ ≤ 7293034; omega⟩) I hS (fun H locs I hS => ?_)
            refine lv_iload hx hb d_law_174 (lv_at hl 1 rfl) ?_
            refine lv_icmp_eq (tgt := 181) hx hb d_law_176 (by decide) (fun _ => ?_) (fun c9 => absurd rfl c9)
            refine lv_iload hx hb d_law_181 (lv_at hl 1 rfl) ?_
            refine lv_if_ne (tgt := 198) hx hb d_law_183 (by decide) (fun c9 => absurd rfl c9) (fun _ => ?_)
            refine lv_aload_n hx hb d_law_186 rfl (lv_at hl 5 rfl) ?_
            refine lv_iconst (v := (0 : Int32)) hx hb d_law_187 (by decide) ?_
            refine va_lald (D := D) (cl := xcl) (tys := xtys cA) (ws := [(s.heap.size + 205, .inl (cA 1, 1, .inr (.inl (vp_updL g 0 bb.toInt64))))]) hx hb hF.1 (fun k x hx9 => by have hz : k < 1 := (List.getElem?_eq_some_iff.mp hx9).1; rw [show k = 0 by omega] at hx9; cases hx9; exact I.2.2) 0 1 rfl rfl (by unfold vp_in; decide) d_law_188 ?_
            refine lv_iload hx hb d_law_189 (lv_at hl 0 rfl) ?_
            refine lv_i2l (v := bb.toInt64) hx hb d_law_191 rfl ?_
            refine W.lcmp hx hb d_law_192 ?_
            refine lv_if_eq (tgt := 198) hx hb d_law_193 (by decide) (fun _ => ?_) (fun c9 => absurd (by rw [cmp0]; rfl) c9)
            refine lv_goto (tgt := 472) hx hb d_law_198 (by decide) ?_
            exact go S1 M' _ H locs _ _ ls (by omega) (by omega) hR' I hS (lv_sub hl [2, 3, 4, 5, 6] rfl)
          · -- it throws
            obtain ⟨S', e3, e4, hR'⟩ : ∃ S', q = .inr S' ∧ xgi M' 0 0 = 1 ∧ RL S' M' := by
              rcases hcase with ⟨S', w, -⟩ | w
              · rw [eq] at w; cases w
              · exact w
            rw [eq] at e3
            cases e3
            refine lv_istore (lv' := [(5, .int 1), (0, .ref b), (1, .ref (s.heap.size + 0)), (2, .ref (s.heap.size + 180 + 0)), (3, .ref (s.heap.size + 205)), (4, .int (nI (5 * i)))]) hx hb d_law_162 hl (by decide) rfl (fun ls hl => ?_)
            refine lv_aload_n hx hb d_law_164 rfl (lv_at hl 3 rfl) ?_
            refine lc_m (va_runV (As := []) (rest := []) ⟨hx, hb, hml, hown, hts⟩ (c_MO_load l D (cB (s.heap.size + 180)) cm M (bb, M') e2) (cwV 0 hts (xT_V wd_833 wd_834 wd_835 wd_7 wd_836) rfl rfl rfl (by decide +kernel) ⟨Nat.le_of_ble_eq_true rfl, Nat.le_of_ble_eq_true rfl⟩) (lp_m hK I.2.1) rfl rfl hl.1 rfl (lv_room (Nat.le_of_ble_eq_true rfl)) d_law_165 ⟨by show _ ≤ 601024; omega, by show _ ≤ 7293034; omega⟩) I hS (fun H locs I hS => ?_)
            refine lv_istore (lv' := [(6, .int bb), (5, .int 1), (0, .ref b), (1, .ref (s.heap.size + 0)), (2, .ref (s.heap.size + 180 + 0)), (3, .ref (s.heap.size + 205)), (4, .int (nI (5 * i)))]) hx hb d_law_168 hl (by decide) rfl (fun ls hl => ?_)
            refine lv_aload_n hx hb d_law_170 rfl (lv_at hl 4 rfl) ?_
            have e5 : f_MO_thrown M' = some 1 := by unfold f_MO_thrown; rw [e4]
            refine lc_m (va_runV (As := []) (rest := []) ⟨hx, hb, hml, hown, hts⟩ (c_MO_thrown l D (cB (s.heap.size + 180)) cm M' 1 e5) (cwV 0 hts (xT_V wd_825 wd_826 wd_827 wd_7 wd_828) rfl rfl rfl (by decide +kernel) ⟨Nat.le_of_ble_eq_true rfl, Nat.le_of_ble_eq_true rfl⟩) (lp_m hK I.2.1) rfl rfl hl.1 rfl (lv_room (Nat.le_of_ble_eq_true rfl)) d_law_171 ⟨by show _ ≤ 601024; omega, by show _ ≤ 7293034; omega⟩) I hS (fun H locs I hS => ?_)
            refine lv_iload hx hb d_law_174 (lv_at hl 1 rfl) ?_
            refine lv_icmp_eq (tgt := 181) hx hb d_law_176 (by decide) (fun _ => ?_) (fun c9 => absurd rfl c9)
            refine lv_iload hx hb d_law_181 (lv_at hl 1 rfl) ?_
            refine lv_if_ne (tgt := 198) hx hb d_law_183 (by decide) (fun _ => ?_) (fun c9 => absurd c9 (by decide))
            refine lv_goto (tgt := 472) hx hb d_law_198 (by decide) ?_
            exact go S1 M' g H locs _ _ ls (by omega) (by omega) hR' I hS (lv_sub hl [2, 3, 4, 5, 6] rfl)
        · refine lv_tableIn (off := 162) (tgt := 201) hx hb d_law_39 (by decide) (by decide) (by decide) (by decide) ?_
          refine lv_aload_n hx hb d_law_201 rfl (lv_at hl 1 rfl) ?_
          refine lv_aload_n hx hb d_law_202 rfl (lv_at hl 0 rfl) ?_
          refine lv_iload hx hb d_law_203 (lv_at hl 4 rfl) ?_
          refine lv_iconst (v := (1 : Int32)) hx hb d_law_205 (by decide) ?_
          refine lv_iadd hx hb d_law_206 ?_
          refine va_sld hx hb hX hbl hbA hS h1 d_law_207 ?_
          obtain ⟨r, M', e1, e2, hR'⟩ := r_fault hR (xs ((nI (5 * i)) + (1 : Int32)).toNatClampNeg)
          refine lc_x (va_runV (As := [.int (xs ((nI (5 * i)) + (1 : Int32)).toNatClampNeg)]) (rest := []) ⟨hx, hb, hml, hown, hts⟩ (c_CT_fault l D (cB s.heap.size) cA adK adV s S (xs ((nI (5 * i)) + (1 : Int32)).toNatClampNeg) r e1) (cwV 1 hts (xT_V wd_205 wd_206 wd_207 wd_1 wd_208) rfl rfl rfl (by decide +kernel) ⟨Nat.le_of_ble_eq_true rfl, Nat.le_of_ble_eq_true rfl⟩) (lp_x hF I.1 hS) rfl rfl hl.1 rfl (lv_room (Nat.le_of_ble_eq_true rfl)) d_law_208 ⟨by show _ ≤ 601024; omega, by show _ ≤ 7293034; omega⟩) I hS (fun H locs I hS => ?_)
          refine lv_aload_n hx hb d_law_211 rfl (lv_at hl 2 rfl) ?_
          refine lv_aload_n hx hb d_law_212 rfl (lv_at hl 0 rfl) ?_
          refine lv_iload hx hb d_law_213 (lv_at hl 4 rfl) ?_
          refine lv_iconst (v := (1 : Int32)) hx hb d_law_215 (by decide) ?_
          refine lv_iadd hx hb d_law_216 ?_
          refine va_sld hx hb hX hbl hbA hS h1 d_law_217 ?_
          refine lc_m (va_runV (As := [.int (xs ((nI (5 * i)) + (1 : Int32)).toNatClampNeg)]) (rest := [.int r]) ⟨hx, hb, hml, hown, hts⟩ (c_MO_fault l D (cB (s.heap.size + 180)) cm M (xs ((nI (5 * i)) + (1 : Int32)).toNatClampNeg) (r, M') e2) (cwV 1 hts (xT_V wd_990 wd_991 wd_992 wd_7 wd_993) rfl rfl rfl (by decide +kernel) ⟨Nat.le_of_ble_eq_true rfl, Nat.le_of_ble_eq_true rfl⟩) (lp_m hK I.2.1) rfl rfl hl.1 rfl (lv_room (Nat.le_of_ble_eq_true rfl)) d_law_218 ⟨by show _ ≤ 601024; omega, by show _ ≤ 7293034; omega⟩) I hS (fun H locs I hS => ?_)
          refine lv_icmp_eq (tgt := 472) hx hb d_law_221 (by decide) (fun _ => ?_) (fun c9 => absurd rfl c9)
          exact go S M' g H locs _ _ ls (by omega) (by omega) hR' I hS hl
        · refine lv_tableIn (off := 187) (tgt := 226) hx hb d_law_39 (by decide) (by decide) (by decide) (by decide) ?_
          refine lv_aload_n hx hb d_law_226 rfl (lv_at hl 1 rfl) ?_
          refine lv_aload_n hx hb d_law_227 rfl (lv_at hl 0 rfl) ?_
          refine lv_iload hx hb d_law_228 (lv_at hl 4 rfl) ?_
          refine lv_iconst (v := (1 : Int32)) hx hb d_law_230 (by decide) ?_
          refine lv_iadd hx hb d_law_231 ?_
          refine va_sld hx hb hX hbl hbA hS h1 d_law_232 ?_
          obtain ⟨r, M', e1, e2, hR'⟩ := r_size hR (xs ((nI (5 * i)) + (1 : Int32)).toNatClampNeg)
          refine lc_x (va_runV (As := [.int (xs ((nI (5 * i)) + (1 : Int32)).toNatClampNeg)]) (rest := []) ⟨hx, hb, hml, hown, hts⟩ (c_CT_size l D (cB s.heap.size) cA adK adV s S (xs ((nI (5 * i)) + (1 : Int32)).toNatClampNeg) r e1) (cwV 1 hts (xT_V wd_209 wd_210 wd_211 wd_1 wd_212) rfl rfl rfl (by decide +kernel) ⟨Nat.le_of_ble_eq_true rfl, Nat.le_of_ble_eq_true rfl⟩) (lp_x hF I.1 hS) rfl rfl hl.1 rfl (lv_room (Nat.le_of_ble_eq_true rfl)) d_law_233 ⟨by show _ ≤ 601024; omega, by show _ ≤ 7293034; omega⟩) I hS (fun H locs I hS => ?_)
          refine lv_aload_n hx hb d_law_236 rfl (lv_at hl 2 rfl) ?_
          refine lv_aload_n hx hb d_law_237 rfl (lv_at hl 0 rfl) ?_
          refine lv_iload hx hb d_law_238 (lv_at hl 4 rfl) ?_
          refine lv_iconst (v := (1 : Int32)) hx hb d_law_240 (by decide) ?_
          refine lv_iadd hx hb d_law_241 ?_
          refine va_sld hx hb hX hbl hbA hS h1 d_law_242 ?_
          refine lc_m (va_runV (As := [.int (xs ((nI (5 * i)) + (1 : Int32)).toNatClampNeg)]) (rest := [.int r]) ⟨hx, hb, hml, hown, hts⟩ (c_MO_size l D (cB (s.heap.size + 180)) cm M (xs ((nI (5 * i)) + (1 : Int32)).toNatClampNeg) (r, M') e2) (cwV 1 hts (xT_V wd_994 wd_995 wd_996 wd_7 wd_997) rfl rfl rfl (by decide +kernel) ⟨Nat.le_of_ble_eq_true rfl, Nat.le_of_ble_eq_true rfl⟩) (lp_m hK I.2.1) rfl rfl hl.1 rfl (lv_room (Nat.le_of_ble_eq_true rfl)) d_law_243 ⟨by show _ ≤ 601024; omega, by show _ ≤ 7293034; omega⟩) I hS (fun H locs I hS => ?_)
          refine lv_icmp_eq (tgt := 472) hx hb d_law_246 (by decide) (fun _ => ?_) (fun c9 => absurd rfl c9)
          exact go S M' g H locs _ _ ls (by omega) (by omega) hR' I hS hl
        · refine lv_tableIn (off := 212) (tgt := 251) hx hb d_law_39 (by decide) (by decide) (by decide) (by decide) ?_
          refine lv_aload_n hx hb d_law_251 rfl (lv_at hl 1 rfl) ?_
          refine lv_aload_n hx hb d_law_252 rfl (lv_at hl 0 rfl) ?_
          refine lv_iload hx hb d_law_253 (lv_at hl 4 rfl) ?_
          refine lv_iconst (v := (1 : Int32)) hx hb d_law_255 (by decide) ?_
          refine lv_iadd hx hb d_law_256 ?_
          refine va_sld hx hb hX hbl hbA hS h1 d_law_257 ?_
          refine lv_aload_n hx hb d_law_258 rfl (lv_at hl 0 rfl) ?_
          refine lv_iload hx hb d_law_259 (lv_at hl 4 rfl) ?_
          refine lv_iconst (v := (2 : Int32)) hx hb d_law_261 (by decide) ?_
          refine lv_iadd hx hb d_law_262 ?_
          refine va_sld hx hb hX hbl hbA hS h2 d_law_263 ?_
          obtain ⟨r, M', e1, e2, hR'⟩ := r_partition hR (xs ((nI (5 * i)) + (1 : Int32)).toNatClampNeg) (xs ((nI (5 * i)) + (2 : Int32)).toNatClampNeg)
          refine lc_x (va_runV (As := [.int (xs ((nI (5 * i)) + (1 : Int32)).toNatClampNeg), .int (xs ((nI (5 * i)) + (2 : Int32)).toNatClampNeg)]) (rest := []) ⟨hx, hb, hml, hown, hts⟩ (c_CT_partition l D (cB s.heap.size) cA adK adV s S (xs ((nI (5 * i)) + (1 : Int32)).toNatClampNeg) (xs ((nI (5 * i)) + (2 : Int32)).toNatClampNeg) r e1) (cwV 2 hts (xT_V wd_217 wd_218 wd_219 wd_1 wd_220) rfl rfl rfl (by decide +kernel) ⟨Nat.le_of_ble_eq_true rfl, Nat.le_of_ble_eq_true rfl⟩) (lp_x hF I.1 hS) rfl rfl hl.1 rfl (lv_room (Nat.le_of_ble_eq_true rfl)) d_law_264 ⟨by show _ ≤ 601024; omega, by show _ ≤ 7293034; omega⟩) I hS (fun H locs I hS => ?_)
          refine lv_aload_n hx hb d_law_267 rfl (lv_at hl 2 rfl) ?_
          refine lv_aload_n hx hb d_law_268 rfl (lv_at hl 0 rfl) ?_
          refine lv_iload hx hb d_law_269 (lv_at hl 4 rfl) ?_
          refine lv_iconst (v := (1 : Int32)) hx hb d_law_271 (by decide) ?_
          refine lv_iadd hx hb d_law_272 ?_
          refine va_sld hx hb hX hbl hbA hS h1 d_law_273 ?_
          refine lv_aload_n hx hb d_law_274 rfl (lv_at hl 0 rfl) ?_
          refine lv_iload hx hb d_law_275 (lv_at hl 4 rfl) ?_
          refine lv_iconst (v := (2 : Int32)) hx hb d_law_277 (by decide) ?_
          refine lv_iadd hx hb d_law_278 ?_
          refine va_sld hx hb hX hbl hbA hS h2 d_law_279 ?_
          refine lc_m (va_runV (As := [.int (xs ((nI (5 * i)) + (1 : Int32)).toNatClampNeg), .int (xs ((nI (5 * i)) + (2 : Int32)).toNatClampNeg)]) (rest := [.int r]) ⟨hx, hb, hml, hown, hts⟩ (c_MO_partition l D (cB (s.heap.size + 180)) cm M (xs ((nI (5 * i)) + (1 : Int32)).toNatClampNeg) (xs ((nI (5 * i)) + (2 : Int32)).toNatClampNeg) (r, M') e2) (cwV 2 hts (xT_V wd_998 wd_999 wd_1000 wd_7 wd_1001) rfl rfl rfl (by decide +kernel) ⟨Nat.le_of_ble_eq_true rfl, Nat.le_of_ble_eq_true rfl⟩) (lp_m hK I.2.1) rfl rfl hl.1 rfl (lv_room (Nat.le_of_ble_eq_true rfl)) d_law_280 ⟨by show _ ≤ 601024; omega, by show _ ≤ 7293034; omega⟩) I hS (fun H locs I hS => ?_)
          refine lv_icmp_eq (tgt := 472) hx hb d_law_283 (by decide) (fun _ => ?_) (fun c9 => absurd rfl c9)
          exact go S M' g H locs _ _ ls (by omega) (by omega) hR' I hS hl
        · refine lv_tableIn (off := 249) (tgt := 288) hx hb d_law_39 (by decide) (by decide) (by decide) (by decide) ?_
          refine lv_aload_n hx hb d_law_288 rfl (lv_at hl 1 rfl) ?_
          refine lv_aload_n hx hb d_law_289 rfl (lv_at hl 0 rfl) ?_
          refine lv_iload hx hb d_law_290 (lv_at hl 4 rfl) ?_
          refine lv_iconst (v := (1 : Int32)) hx hb d_law_292 (by decide) ?_
          refine lv_iadd hx hb d_law_293 ?_
          refine va_sld hx hb hX hbl hbA hS h1 d_law_294 ?_
          refine lv_aload_n hx hb d_law_295 rfl (lv_at hl 0 rfl) ?_
          refine lv_iload hx hb d_law_296 (lv_at hl 4 rfl) ?_
          refine lv_iconst (v := (2 : Int32)) hx hb d_law_298 (by decide) ?_
          refine lv_iadd hx hb d_law_299 ?_
          refine va_sld hx hb hX hbl hbA hS h2 d_law_300 ?_
          refine lv_aload_n hx hb d_law_301 rfl (lv_at hl 0 rfl) ?_
          refine lv_iload hx hb d_law_302 (lv_at hl 4 rfl) ?_
          refine lv_iconst (v := (3 : Int32)) hx hb d_law_304 (by decide) ?_
          refine lv_iadd hx hb d_law_305 ?_
          refine va_sld hx hb hX hbl hbA hS h3 d_law_306 ?_
          obtain ⟨r, M', e1, e2, hR'⟩ := r_process hR (xs ((nI (5 * i)) + (1 : Int32)).toNatClampNeg) (xs ((nI (5 * i)) + (2 : Int32)).toNatClampNeg) (xs ((nI (5 * i)) + (3 : Int32)).toNatClampNeg)
          refine lc_x (va_runV (As := [.int (xs ((nI (5 * i)) + (1 : Int32)).toNatClampNeg), .int (xs ((nI (5 * i)) + (2 : Int32)).toNatClampNeg), .int (xs ((nI (5 * i)) + (3 : Int32)).toNatClampNeg)]) (rest := []) ⟨hx, hb, hml, hown, hts⟩ (c_CT_process l D (cB s.heap.size) cA adK adV s S (xs ((nI (5 * i)) + (1 : Int32)).toNatClampNeg) (xs ((nI (5 * i)) + (2 : Int32)).toNatClampNeg) (xs ((nI (5 * i)) + (3 : Int32)).toNatClampNeg) r e1) (cwV 3 hts (xT_V wd_233 wd_234 wd_235 wd_1 wd_236) rfl rfl rfl (by decide +kernel) ⟨Nat.le_of_ble_eq_true rfl, Nat.le_of_ble_eq_true rfl⟩) (lp_x hF I.1 hS) rfl rfl hl.1 rfl (lv_room (Nat.le_of_ble_eq_true rfl)) d_law_307 ⟨by show _ ≤ 601024; omega, by show _ ≤ 7293034; omega⟩) I hS (fun H locs I hS => ?_)
          refine lv_aload_n hx hb d_law_310 rfl (lv_at hl 2 rfl) ?_
          refine lv_aload_n hx hb d_law_311 rfl (lv_at hl 0 rfl) ?_
          refine lv_iload hx hb d_law_312 (lv_at hl 4 rfl) ?_
          refine lv_iconst (v := (1 : Int32)) hx hb d_law_314 (by decide) ?_
          refine lv_iadd hx hb d_law_315 ?_
          refine va_sld hx hb hX hbl hbA hS h1 d_law_316 ?_
          refine lv_aload_n hx hb d_law_317 rfl (lv_at hl 0 rfl) ?_
          refine lv_iload hx hb d_law_318 (lv_at hl 4 rfl) ?_
          refine lv_iconst (v := (2 : Int32)) hx hb d_law_320 (by decide) ?_
          refine lv_iadd hx hb d_law_321 ?_
          refine va_sld hx hb hX hbl hbA hS h2 d_law_322 ?_
          refine lv_aload_n hx hb d_law_323 rfl (lv_at hl 0 rfl) ?_
          refine lv_iload hx hb d_law_324 (lv_at hl 4 rfl) ?_
          refine lv_iconst (v := (3 : Int32)) hx hb d_law_326 (by decide) ?_
          refine lv_iadd hx hb d_law_327 ?_
          refine va_sld hx hb hX hbl hbA hS h3 d_law_328 ?_
          refine lc_m (va_runV (As := [.int (xs ((nI (5 * i)) + (1 : Int32)).toNatClampNeg), .int (xs ((nI (5 * i)) + (2 : Int32)).toNatClampNeg), .int (xs ((nI (5 * i)) + (3 : Int32)).toNatClampNeg)]) (rest := [.int r]) ⟨hx, hb, hml, hown, hts⟩ (c_MO_process l D (cB (s.heap.size + 180)) cm M (xs ((nI (5 * i)) + (1 : Int32)).toNatClampNeg) (xs ((nI (5 * i)) + (2 : Int32)).toNatClampNeg) (xs ((nI (5 * i)) + (3 : Int32)).toNatClampNeg) (r, M') e2) (cwV 3 hts (xT_V wd_1002 wd_1003 wd_1004 wd_7 wd_1005) rfl rfl rfl (by decide +kernel) ⟨Nat.le_of_ble_eq_true rfl, Nat.le_of_ble_eq_true rfl⟩) (lp_m hK I.2.1) rfl rfl hl.1 rfl (lv_room (Nat.le_of_ble_eq_true rfl)) d_law_329 ⟨by show _ ≤ 601024; omega, by show _ ≤ 7293034; omega⟩) I hS (fun H locs I hS => ?_)
          refine lv_icmp_eq (tgt := 472) hx hb d_law_332 (by decide) (fun _ => ?_) (fun c9 => absurd rfl c9)
          exact go S M' g H locs _ _ ls (by omega) (by omega) hR' I hS hl
        · refine lv_tableIn (off := 298) (tgt := 337) hx hb d_law_39 (by decide) (by decide) (by decide) (by decide) ?_
          refine lv_aload_n hx hb d_law_337 rfl (lv_at hl 1 rfl) ?_
          refine lv_aload_n hx hb d_law_338 rfl (lv_at hl 0 rfl) ?_
          refine lv_iload hx hb d_law_339 (lv_at hl 4 rfl) ?_
          refine lv_iconst (v := (1 : Int32)) hx hb d_law_341 (by decide) ?_
          refine lv_iadd hx hb d_law_342 ?_
          refine va_sld hx hb hX hbl hbA hS h1 d_law_343 ?_
          refine lv_aload_n hx hb d_law_344 rfl (lv_at hl 0 rfl) ?_
          refine lv_iload hx hb d_law_345 (lv_at hl 4 rfl) ?_
          refine lv_iconst (v := (2 : Int32)) hx hb d_law_347 (by decide) ?_
          refine lv_iadd hx hb d_law_348 ?_
          refine va_sld hx hb hX hbl hbA hS h2 d_law_349 ?_
          refine lv_aload_n hx hb d_law_350 rfl (lv_at hl 0 rfl) ?_
          refine lv_iload hx hb d_law_351 (lv_at hl 4 rfl) ?_
          refine lv_iconst (v := (3 : Int32)) hx hb d_law_353 (by decide) ?_
          refine lv_iadd hx hb d_law_354 ?_
          refine va_sld hx hb hX hbl hbA hS h3 d_law_355 ?_
          refine lv_aload_n hx hb d_law_356 rfl (lv_at hl 0 rfl) ?_
          refine lv_iload hx hb d_law_357 (lv_at hl 4 rfl) ?_
          refine lv_iconst (v := (4 : Int32)) hx hb d_law_359 (by decide) ?_
          refine lv_iadd hx hb d_law_360 ?_
          refine va_sld hx hb hX hbl hbA hS h4 d_law_361 ?_
          obtain ⟨r, M', e1, e2, hR'⟩ := r_thing hR (xs ((nI (5 * i)) + (1 : Int32)).toNatClampNeg) (xs ((nI (5 * i)) + (2 : Int32)).toNatClampNeg) (xs ((nI (5 * i)) + (3 : Int32)).toNatClampNeg) (xs ((nI (5 * i)) + (4 : Int32)).toNatClampNeg)
          refine lc_x (va_runV (As := [.int (xs ((nI (5 * i)) + (1 : Int32)).toNatClampNeg), .int (xs ((nI (5 * i)) + (2 : Int32)).toNatClampNeg), .int (xs ((nI (5 * i)) + (3 : Int32)).toNatClampNeg), .int (xs ((nI (5 * i)) + (4 : Int32)).toNatClampNeg)]) (rest := []) ⟨hx, hb, hml, hown, hts⟩ (c_CT_thing l D (cB s.heap.size) cA adK adV s S (xs ((nI (5 * i)) + (1 : Int32)).toNatClampNeg) (xs ((nI (5 * i)) + (2 : Int32)).toNatClampNeg) (xs ((nI (5 * i)) + (3 : Int32)).toNatClampNeg) (xs ((nI (5 * i)) + (4 : Int32)).toNatClampNeg) r e1) (cwV 4 hts (xT_V wd_249 wd_250 wd_251 wd_1 wd_252) rfl rfl rfl (by decide +kernel) ⟨Nat.le_of_ble_eq_true rfl, Nat.le_of_ble_eq_true rfl⟩) (lp_x hF I.1 hS) rfl rfl hl.1 rfl (lv_room (Nat.le_of_ble_eq_true rfl)) d_law_362 ⟨by show _ ≤ 601024; omega, by show _ ≤ 7293034; omega⟩) I hS (fun H locs I hS => ?_)
          refine lv_aload_n hx hb d_law_365 rfl (lv_at hl 2 rfl) ?_
          refine lv_aload_n hx hb d_law_366 rfl (lv_at hl 0 rfl) ?_
          refine lv_iload hx hb d_law_367 (lv_at hl 4 rfl) ?_
          refine lv_iconst (v := (1 : Int32)) hx hb d_law_369 (by decide) ?_
          refine lv_iadd hx hb d_law_370 ?_
          refine va_sld hx hb hX hbl hbA hS h1 d_law_371 ?_
          refine lv_aload_n hx hb d_law_372 rfl (lv_at hl 0 rfl) ?_
          refine lv_iload hx hb d_law_373 (lv_at hl 4 rfl) ?_
          refine lv_iconst (v := (2 : Int32)) hx hb d_law_375 (by decide) ?_
          refine lv_iadd hx hb d_law_376 ?_
          refine va_sld hx hb hX hbl hbA hS h2 d_law_377 ?_
          refine lv_aload_n hx hb d_law_378 rfl (lv_at hl 0 rfl) ?_
          refine lv_iload hx hb d_law_379 (lv_at hl 4 rfl) ?_
          refine lv_iconst (v := (3 : Int32)) hx hb d_law_381 (by decide) ?_
          refine lv_iadd hx hb d_law_382 ?_
          refine va_sld hx hb hX hbl hbA hS h3 d_law_383 ?_
          refine lv_aload_n hx hb d_law_384 rfl (lv_at hl 0 rfl) ?_
          refine lv_iload hx hb d_law_385 (lv_at hl 4 rfl) ?_
          refine lv_iconst (v := (4 : Int32)) hx hb d_law_387 (by decide) ?_
          refine lv_iadd hx hb d_law_388 ?_
          refine va_sld hx hb hX hbl hbA hS h4 d_law_389 ?_
          refine lc_m (va_runV (As := [.int (xs ((nI (5 * i)) + (1 : Int32)).toNatClampNeg), .int (xs ((nI (5 * i)) + (2 : Int32)).toNatClampNeg), .int (xs ((nI (5 * i)) + (3 : Int32)).toNatClampNeg), .int (xs ((nI (5 * i)) + (4 : Int32)).toNatClampNeg)]) (rest := [.int r]) ⟨hx, hb, hml, hown, hts⟩ (c_MO_thing l D (cB (s.heap.size + 180)) cm M (xs ((nI (5 * i)) + (1 : Int32)).toNatClampNeg) (xs ((nI (5 * i)) + (2 : Int32)).toNatClampNeg) (xs ((nI (5 * i)) + (3 : Int32)).toNatClampNeg) (xs ((nI (5 * i)) + (4 : Int32)).toNatClampNeg) (r, M') e2) (cwV 4 hts (xT_V wd_1010 wd_1011 wd_1012 wd_7 wd_1013) rfl rfl rfl (by decide +kernel) ⟨Nat.le_of_ble_eq_true rfl, Nat.le_of_ble_eq_true rfl⟩) (lp_m hK I.2.1) rfl rfl hl.1 rfl (lv_room (Nat.le_of_ble_eq_true rfl)) d_law_390 ⟨by show _ ≤ 601024; omega, by show _ ≤ 7293034; omega⟩) I hS (fun H locs I hS => ?_)
          refine lv_icmp_eq (tgt := 472) hx hb d_law_393 (by decide) (fun _ => ?_) (fun c9 => absurd rfl c9)
          exact go S M' g H locs _ _ ls (by omega) (by omega) hR' I hS hl
        · refine lv_tableIn (off := 359) (tgt := 398) hx hb d_law_39 (by decide) (by decide) (by decide) (by decide) ?_
          refine lv_aload_n hx hb d_law_398 rfl (lv_at hl 1 rfl) ?_
          refine lv_aload_n hx hb d_law_399 rfl (lv_at hl 0 rfl) ?_
          refine lv_iload hx hb d_law_400 (lv_at hl 4 rfl) ?_
          refine lv_iconst (v := (1 : Int32)) hx hb d_law_402 (by decide) ?_
          refine lv_iadd hx hb d_law_403 ?_
          refine va_sld hx hb hX hbl hbA hS h1 d_law_404 ?_
          refine lv_aload_n hx hb d_law_405 rfl (lv_at hl 0 rfl) ?_
          refine lv_iload hx hb d_law_406 (lv_at hl 4 rfl) ?_
          refine lv_iconst (v := (2 : Int32)) hx hb d_law_408 (by decide) ?_
          refine lv_iadd hx hb d_law_409 ?_
          refine va_sld hx hb hX hbl hbA hS h2 d_law_410 ?_
          obtain ⟨r, M', e1, e2, hR'⟩ := r_channel hR (xs ((nI (5 * i)) + (1 : Int32)).toNatClampNeg) (xs ((nI (5 * i)) + (2 : Int32)).toNatClampNeg)
          refine lc_x (va_runV (As := [.int (xs ((nI (5 * i)) + (1 : Int32)).toNatClampNeg), .int (xs ((nI (5 * i)) + (2 : Int32)).toNatClampNeg)]) (rest := []) ⟨hx, hb, hml, hown, hts⟩ (c_CT_channel l D (cB s.heap.size) cA adK adV s S (xs ((nI (5 * i)) + (1 : Int32)).toNatClampNeg) (xs ((nI (5 * i)) + (2 : Int32)).toNatClampNeg) r e1) (cwV 2 hts (xT_V wd_253 wd_254 wd_255 wd_1 wd_256) rfl rfl rfl (by decide +kernel) ⟨Nat.le_of_ble_eq_true rfl, Nat.le_of_ble_eq_true rfl⟩) (lp_x hF I.1 hS) rfl rfl hl.1 rfl (lv_room (Nat.le_of_ble_eq_true rfl)) d_law_411 ⟨by show _ ≤ 601024; omega, by show _ ≤ 7293034; omega⟩) I hS (fun H locs I hS => ?_)
          refine lv_aload_n hx hb d_law_414 rfl (lv_at hl 2 rfl) ?_
          refine lv_aload_n hx hb d_law_415 rfl (lv_at hl 0 rfl) ?_
          refine lv_iload hx hb d_law_416 (lv_at hl 4 rfl) ?_
          refine lv_iconst (v := (1 : Int32)) hx hb d_law_418 (by decide) ?_
          refine lv_iadd hx hb d_law_419 ?_
          refine va_sld hx hb hX hbl hbA hS h1 d_law_420 ?_
          refine lv_aload_n hx hb d_law_421 rfl (lv_at hl 0 rfl) ?_
          refine lv_iload hx hb d_law_422 (lv_at hl 4 rfl) ?_
          refine lv_iconst (v := (2 : Int32)) hx hb d_law_424 (by decide) ?_
          refine lv_iadd hx hb d_law_425 ?_
          refine va_sld hx hb hX hbl hbA hS h2 d_law_426 ?_
          refine lc_m (va_runV (As := [.int (xs ((nI (5 * i)) + (1 : Int32)).toNatClampNeg), .int (xs ((nI (5 * i)) + (2 : Int32)).toNatClampNeg)]) (rest := [.int r]) ⟨hx, hb, hml, hown, hts⟩ (c_MO_channel l D (cB (s.heap.size + 180)) cm M (xs ((nI (5 * i)) + (1 : Int32)).toNatClampNeg) (xs ((nI (5 * i)) + (2 : Int32)).toNatClampNeg) (r, M') e2) (cwV 2 hts (xT_V wd_1014 wd_1015 wd_1016 wd_7 wd_1017) rfl rfl rfl (by decide +kernel) ⟨Nat.le_of_ble_eq_true rfl, Nat.le_of_ble_eq_true rfl⟩) (lp_m hK I.2.1) rfl rfl hl.1 rfl (lv_room (Nat.le_of_ble_eq_true rfl)) d_law_427 ⟨by show _ ≤ 601024; omega, by show _ ≤ 7293034; omega⟩) I hS (fun H locs I hS => ?_)
          refine lv_icmp_eq (tgt := 472) hx hb d_law_430 (by decide) (fun _ => ?_) (fun c9 => absurd rfl c9)
          exact go S M' g H locs _ _ ls (by omega) (by omega) hR' I hS hl
        · refine lv_tableIn (off := 396) (tgt := 435) hx hb d_law_39 (by decide) (by decide) (by decide) (by decide) ?_
          refine lv_aload_n hx hb d_law_435 rfl (lv_at hl 1 rfl) ?_
          refine lv_aload_n hx hb d_law_436 rfl (lv_at hl 0 rfl) ?_
          refine lv_iload hx hb d_law_437 (lv_at hl 4 rfl) ?_
          refine lv_iconst (v := (1 : Int32)) hx hb d_law_439 (by decide) ?_
          refine lv_iadd hx hb d_law_440 ?_
          refine va_sld hx hb hX hbl hbA hS h1 d_law_441 ?_
          refine lv_aload_n hx hb d_law_442 rfl (lv_at hl 0 rfl) ?_
          refine lv_iload hx hb d_law_443 (lv_at hl 4 rfl) ?_
          refine lv_iconst (v := (2 : Int32)) hx hb d_law_445 (by decide) ?_
          refine lv_iadd hx hb d_law_446 ?_
          refine va_sld hx hb hX hbl hbA hS h2 d_law_447 ?_
          obtain ⟨r, M', e1, e2, hR'⟩ := r_window hR (xs ((nI (5 * i)) + (1 : Int32)).toNatClampNeg) (xs ((nI (5 * i)) + (2 : Int32)).toNatClampNeg)
          refine lc_x (va_runV (As := [.int (xs ((nI (5 * i)) + (1 : Int32)).toNatClampNeg), .int (xs ((nI (5 * i)) + (2 : Int32)).toNatClampNeg)]) (rest := []) ⟨hx, hb, hml, hown, hts⟩ (c_CT_window l D (cB s.heap.size) cA adK adV s S (xs ((nI (5 * i)) + (1 : Int32)).toNatClampNeg) (xs ((nI (5 * i)) + (2 : Int32)).toNatClampNeg) r e1) (cwV 2 hts (xT_V wd_257 wd_258 wd_259 wd_1 wd_260) rfl rfl rfl (by decide +kernel) ⟨Nat.le_of_ble_eq_true rfl, Nat.le_of_ble_eq_true rfl⟩) (lp_x hF I.1 hS) rfl rfl hl.1 rfl (lv_room (Nat.le_of_ble_eq_true rfl)) d_law_448 ⟨by show _ ≤ 601024; omega, by show _ ≤ 7293034; omega⟩) I hS (fun H locs I hS => ?_)
          refine lv_aload_n hx hb d_law_451 rfl (lv_at hl 2 rfl) ?_
          refine lv_aload_n hx hb d_law_452 rfl (lv_at hl 0 rfl) ?_
          refine lv_iload hx hb d_law_453 (lv_at hl 4 rfl) ?_
          refine lv_iconst (v := (1 : Int32)) hx hb d_law_455 (by decide) ?_
          refine lv_iadd hx hb d_law_456 ?_
          refine va_sld hx hb hX hbl hbA hS h1 d_law_457 ?_
          refine lv_aload_n hx hb d_law_458 rfl (lv_at hl 0 rfl) ?_
          refine lv_iload hx hb d_law_459 (lv_at hl 4 rfl) ?_
          refine lv_iconst (v := (2 : Int32)) hx hb d_law_461 (by decide) ?_
          refine lv_iadd hx hb d_law_462 ?_
          refine va_sld hx hb hX hbl hbA hS h2 d_law_463 ?_
          refine lc_m (va_runV (As := [.int (xs ((nI (5 * i)) + (1 : Int32)).toNatClampNeg), .int (xs ((nI (5 * i)) + (2 : Int32)).toNatClampNeg)]) (rest := [.int r]) ⟨hx, hb, hml, hown, hts⟩ (c_MO_window l D (cB (s.heap.size + 180)) cm M (xs ((nI (5 * i)) + (1 : Int32)).toNatClampNeg) (xs ((nI (5 * i)) + (2 : Int32)).toNatClampNeg) (r, M') e2) (cwV 2 hts (xT_V wd_1018 wd_1019 wd_1020 wd_7 wd_1021) rfl rfl rfl (by decide +kernel) ⟨Nat.le_of_ble_eq_true rfl, Nat.le_of_ble_eq_true rfl⟩) (lp_m hK I.2.1) rfl rfl hl.1 rfl (lv_room (Nat.le_of_ble_eq_true rfl)) d_law_464 ⟨by show _ ≤ 601024; omega, by show _ ≤ 7293034; omega⟩) I hS (fun H locs I hS => ?_)
          refine lv_icmp_eq (tgt := 472) hx hb d_law_467 (by decide) (fun _ => ?_) (fun c9 => absurd rfl c9)
          exact go S M' g H locs _ _ ls (by omega) (by omega) hR' I hS hl
