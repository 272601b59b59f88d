def R_JS : String := "java/lang/String"
def R_JL : String := "java/lang/StringLatin1"
def R_JP : String := "jdk/internal/util/Preconditions"
def R_JM : String := "java/lang/Math"
abbrev b_JM_min : ByteArray := prog_12_method_69_code
def y_JM_min : MethodName := ⟨"java/lang/Math", "min", "(II)I"⟩
abbrev b_JM_max : ByteArray := prog_12_method_65_code
def y_JM_max : MethodName := ⟨"java/lang/Math", "max", "(II)I"⟩
abbrev b_JS_isLatin1 : ByteArray := prog_14_method_154_code
def y_JS_isLatin1 : MethodName := ⟨"java/lang/String", "isLatin1", "()Z"⟩
abbrev b_JS_coder : ByteArray := prog_14_method_152_code
def y_JS_coder : MethodName := ⟨"java/lang/String", "coder", "()B"⟩
abbrev b_JS_length : ByteArray := prog_14_method_54_code
def y_JS_length : MethodName := ⟨"java/lang/String", "length", "()I"⟩
abbrev b_JP_checkIndex : ByteArray := prog_18_method_11_code
def y_JP_checkIndex : MethodName := ⟨"jdk/internal/util/Preconditions", "checkIndex", "(IILjava/util/function/BiFunction;)I"⟩
abbrev b_JS_checkIndex : ByteArray := prog_14_method_155_code
def y_JS_checkIndex : MethodName := ⟨"java/lang/String", "checkIndex", "(II)V"⟩
abbrev b_JL_charAt : ByteArray := prog_15_method_2_code
def y_JL_charAt : MethodName := ⟨"java/lang/StringLatin1", "charAt", "([BI)C"⟩
abbrev b_JS_charAt : ByteArray := prog_14_method_56_code
def y_JS_charAt : MethodName := ⟨"java/lang/String", "charAt", "(I)C"⟩
abbrev b_JL_canEncode : ByteArray := prog_15_method_4_code
def y_JL_canEncode : MethodName := ⟨"java/lang/StringLatin1", "canEncode", "(I)Z"⟩
abbrev b_JL_indexOfChar : ByteArray := prog_15_method_23_code
def y_JL_indexOfChar : MethodName := ⟨"java/lang/StringLatin1", "indexOfChar", "([BIII)I"⟩
abbrev b_JL_indexOf : ByteArray := prog_15_method_22_code
def y_JL_indexOf : MethodName := ⟨"java/lang/StringLatin1", "indexOf", "([BIII)I"⟩
abbrev b_JS_indexOf0 : ByteArray := prog_14_method_80_code
def y_JS_indexOf0 : MethodName := ⟨"java/lang/String", "indexOf", "(II)I"⟩
abbrev b_JS_indexOf1 : ByteArray := prog_14_method_79_code
def y_JS_indexOf1 : MethodName := ⟨"java/lang/String", "indexOf", "(I)I"⟩
/-! java/lang/String.isLatin1()Z -/
def rm_JS_isLatin1 : Room := { frames := 0, cells := 0, slots := 0, locals := 0 }
theorem d_JS_isLatin1_0 : decode b_JS_isLatin1 0 = .ok (.getstatic 38, 3) := by decide +kernel
theorem d_JS_isLatin1_3 : decode b_JS_isLatin1 3 = .ok (.ifCond .eq 14, 3) := by decide +kernel
theorem d_JS_isLatin1_6 : decode b_JS_isLatin1 6 = .ok (.aload_n 0, 1) := by decide +kernel
theorem d_JS_isLatin1_7 : decode b_JS_isLatin1 7 = .ok (.getfield 15, 3) := by decide +kernel
theorem d_JS_isLatin1_10 : decode b_JS_isLatin1 10 = .ok (.ifCond .ne 7, 3) := by decide +kernel
theorem d_JS_isLatin1_13 : decode b_JS_isLatin1 13 = .ok (.iconst 1, 1) := by decide +kernel
theorem d_JS_isLatin1_14 : decode b_JS_isLatin1 14 = .ok (.goto 4, 3) := by decide +kernel
theorem d_JS_isLatin1_17 : decode b_JS_isLatin1 17 = .ok (.iconst 0, 1) := by decide +kernel
theorem d_JS_isLatin1_18 : decode b_JS_isLatin1 18 = .ok (.ireturn, 1) := by decide +kernel
def f_JS_isLatin1 (S : XS) (a0 : Nat) : Option (Int32) :=
  if (1 : Int32) = 0 then (some (0 : Int32)) else (if a0 < xnl then (if (0 : Int32) = 0 then (some (1 : Int32)) else (some (0 : Int32))) else none)
set_option maxHeartbeats 4000000 in
set_option maxRecDepth 100000 in
theorem k_JS_isLatin1 (l : Launch) {p : Program} {e : Env} {s : State} {m : MethodId} {args : Array Value} {below : List Frame} {meth : Method} {c : Code} {D : va_G} {lay : Nat → Nat} {cA : Nat → ClassId} {adK adV : Nat → Nat} {s0 : State} (C : xB p s m args meth c R_JS b_JS_isLatin1 ((Option.some Jvm.ClassFile.FieldType.boolean)) 1) (E : xE D lay cA adK adV s0 s s.heap) : ∀ (S : XS) (a0 : Nat) (r : Int32) (_ : f_JS_isLatin1 S a0 = some r) (H : Heap) (locs : List Loc) (ls : Array Slot), va_P D xcl (xw lay cA S) H → va_S (xI lay) s.heap H locs → lv_has ls 1 [(0, .ref (adK a0))] → W p l e rm_JS_isLatin1 s m args below meth c H locs 0 0 (MQ below (xqi D lay cA r S) args s 0 0 (xI lay)) (F0 m 0 ls []) := by
  obtain ⟨hx, hb, hr, hml, hown, hts, hlk, hnh⟩ := id C
  have hK := E.K
  intro S a0 r h H locs ls hP hS hl
  unfold f_JS_isLatin1 at h
  refine va_gets hx hb E.cs hS hown (hts _ wd_304) (fun _ h9 => h9) d_JS_isLatin1_0 ?_
  refine lv_if_eq (tgt := 17) hx hb d_JS_isLatin1_3 (by decide) (fun c_3 => ?_) (fun c_3 => ?_)
  · have h := xif_t c_3 h
    refine lv_iconst (v := (0 : Int32)) hx hb d_JS_isLatin1_17 (by decide) ?_
    have h9 := Option.some.inj h
    subst h9
    exact W.zret (v := (0 : Int32)) hx hb hr (by decide) (fun t ht hW => ⟨⟨(0 : Int32), (), rfl, rfl, by show va_P D xcl _ t.heap; rw [ht]; exact hP⟩, hS.F ht⟩) hS.2.2 d_JS_isLatin1_18
  · have h := xif_f c_3 h
    refine lv_aload_n hx hb d_JS_isLatin1_6 rfl (lv_at hl 0 rfl) ?_
    obtain ⟨hk1, h⟩ := xg h
    refine vk_getf hx hb (E.str hk1).2.1 hS hown (hts _ wd_1024) (fun _ h9 => h9) d_JS_isLatin1_7 ?_
    refine lv_if_ne (tgt := 17) hx hb d_JS_isLatin1_10 (by decide) (fun c_2 => ?_) (fun c_2 => ?_)
    · have h := xif_f c_2 h
      refine lv_iconst (v := (0 : Int32)) hx hb d_JS_isLatin1_17 (by decide) ?_
      have h9 := Option.some.inj h
      subst h9
      exact W.zret (v := (0 : Int32)) hx hb hr (by decide) (fun t ht hW => ⟨⟨(0 : Int32), (), rfl, rfl, by show va_P D xcl _ t.heap; rw [ht]; exact hP⟩, hS.F ht⟩) hS.2.2 d_JS_isLatin1_18
    · have h := xif_t c_2 h
      refine lv_iconst (v := (1 : Int32)) hx hb d_JS_isLatin1_13 (by decide) ?_
      refine lv_goto (tgt := 18) hx hb d_JS_isLatin1_14 (by decide) ?_
      have h9 := Option.some.inj h
      subst h9
      exact W.zret (v := (1 : Int32)) hx hb hr (by decide) (fun t ht hW => ⟨⟨(1 : Int32), (), rfl, rfl, by show va_P D xcl _ t.heap; rw [ht]; exact hP⟩, hS.F ht⟩) hS.2.2 d_JS_isLatin1_18
theorem c_JS_isLatin1 (l : Launch) (D : va_G) (lay : Nat → Nat) (cA : Nat → ClassId) (adK adV : Nat → Nat) (s0 : State) (S : XS) (a0 : Nat) (r : Int32) (h : f_JS_isLatin1 S a0 = some r) : Met l y_JS_isLatin1 (.code y_JS_isLatin1 b_JS_isLatin1 1 ((Option.some Jvm.ClassFile.FieldType.boolean)) :: xT) rm_JS_isLatin1 (xPc D lay cA adK adV s0 S [.ref (adK a0)]) (xqi D lay cA r S) 0 0 (xI lay) := by
  refine Met.ofW (cc := b_JS_isLatin1) (maxL := 1) (ret := (Option.some Jvm.ClassFile.FieldType.boolean)) (by decide +kernel) rfl ?_
  intro p e s m args below meth c s₁ B hml hv
  obtain ⟨rfl, hP, E⟩ := hv
  have C := xB_of B hml
  have hl := lv_entry ([.ref (adK a0)]) (n := 1) (Nat.le_of_ble_eq_true rfl)
  rw [lg_entry_eq]
  generalize (lg_sl ([.ref (adK a0)]) ++ List.replicate (1 - (lg_sl ([.ref (adK a0)])).length) Slot.unset).toArray = ls at hl ⊢
  exact k_JS_isLatin1 l C E S a0 r h s.heap [] ls hP va_S.rf hl
/-! java/lang/String.coder()B -/
def rm_JS_coder : Room := { frames := 0, cells := 0, slots := 0, locals := 0 }
theorem d_JS_coder_0 : decode b_JS_coder 0 = .ok (.getstatic 38, 3) := by decide +kernel
theorem d_JS_coder_3 : decode b_JS_coder 3 = .ok (.ifCond .eq 10, 3) := by decide +kernel
theorem d_JS_coder_6 : decode b_JS_coder 6 = .ok (.aload_n 0, 1) := by decide +kernel
theorem d_JS_coder_7 : decode b_JS_coder 7 = .ok (.getfield 15, 3) := by decide +kernel
theorem d_JS_coder_10 : decode b_JS_coder 10 = .ok (.goto 4, 3) := by decide +kernel
theorem d_JS_coder_13 : decode b_JS_coder 13 = .ok (.iconst 1, 1) := by decide +kernel
theorem d_JS_coder_14 : decode b_JS_coder 14 = .ok (.ireturn, 1) := by decide +kernel
def f_JS_coder (S : XS) (a0 : Nat) : Option (Int32) :=
  if (1 : Int32) = 0 then (some (1 : Int32)) else (if a0 < xnl then (some (0 : Int32)) else none)
set_option maxHeartbeats 4000000 in
set_option maxRecDepth 100000 in
theorem k_JS_coder (l : Launch) {p : Program} {e : Env} {s : State} {m : MethodId} {args : Array Value} {below : List Frame} {meth : Method} {c : Code} {D : va_G} {lay : Nat → Nat} {cA : Nat → ClassId} {adK adV : Nat → Nat} {s0 : State} (C : xB p s m args meth c R_JS b_JS_coder ((Option.some Jvm.ClassFile.FieldType.byte)) 1) (E : xE D lay cA adK adV s0 s s.heap) : ∀ (S : XS) (a0 : Nat) (r : Int32) (_ : f_JS_coder S a0 = some r) (H : Heap) (locs : List Loc) (ls : Array Slot), va_P D xcl (xw lay cA S) H → va_S (xI lay) s.heap H locs → lv_has ls 1 [(0, .ref (adK a0))] → W p l e rm_JS_coder s m args below meth c H locs 0 0 (MQ below (xqi D lay cA r S) args s 0 0 (xI lay)) (F0 m 0 ls []) := by
  obtain ⟨hx, hb, hr, hml, hown, hts, hlk, hnh⟩ := id C
  have hK := E.K
  intro S a0 r h H locs ls hP hS hl
  unfold f_JS_coder at h
  refine va_gets hx hb E.cs hS hown (hts _ wd_304) (fun _ h9 => h9) d_JS_coder_0 ?_
  refine lv_if_eq (tgt := 13) hx hb d_JS_coder_3 (by decide) (fun c_2 => ?_) (fun c_2 => ?_)
  · have h := xif_t c_2 h
    refine lv_iconst (v := (1 : Int32)) hx hb d_JS_coder_13 (by decide) ?_
    have h9 := Option.some.inj h
    subst h9
    exact W.zret (v := (1 : Int32)) hx hb hr (by decide) (fun t ht hW => ⟨⟨(1 : Int32), (), rfl, rfl, by show va_P D xcl _ t.heap; rw [ht]; exact hP⟩, hS.F ht⟩) hS.2.2 d_JS_coder_14
  · have h := xif_f c_2 h
    refine lv_aload_n hx hb d_JS_coder_6 rfl (lv_at hl 0 rfl) ?_
    obtain ⟨hk1, h⟩ := xg h
    refine vk_getf hx hb (E.str hk1).2.1 hS hown (hts _ wd_1024) (fun _ h9 => h9) d_JS_coder_7 ?_
    refine lv_goto (tgt := 14) hx hb d_JS_coder_10 (by decide) ?_
    have h9 := Option.some.inj h
    subst h9
    exact W.zret (v := (0 : Int32)) hx hb hr (by decide) (fun t ht hW => ⟨⟨(0 : Int32), (), rfl, rfl, by show va_P D xcl _ t.heap; rw [ht]; exact hP⟩, hS.F ht⟩) hS.2.2 d_JS_coder_14
theorem c_JS_coder (l : Launch) (D : va_G) (lay : Nat → Nat) (cA : Nat → ClassId) (adK adV : Nat → Nat) (s0 : State) (S : XS) (a0 : Nat) (r : Int32) (h : f_JS_coder S a0 = some r) : Met l y_JS_coder (.code y_JS_coder b_JS_coder 1 ((Option.some Jvm.ClassFile.FieldType.byte)) :: xT) rm_JS_coder (xPc D lay cA adK adV s0 S [.ref (adK a0)]) (xqi D lay cA r S) 0 0 (xI lay) := by
  refine Met.ofW (cc := b_JS_coder) (maxL := 1) (ret := (Option.some Jvm.ClassFile.FieldType.byte)) (by decide +kernel) rfl ?_
  intro p e s m args below meth c s₁ B hml hv
  obtain ⟨rfl, hP, E⟩ := hv
  have C := xB_of B hml
  have hl := lv_entry ([.ref (adK a0)]) (n := 1) (Nat.le_of_ble_eq_true rfl)
  rw [lg_entry_eq]
  generalize (lg_sl ([.ref (adK a0)]) ++ List.replicate (1 - (lg_sl ([.ref (adK a0)])).length) Slot.unset).toArray = ls at hl ⊢
  exact k_JS_coder l C E S a0 r h s.heap [] ls hP va_S.rf hl
/-! java/lang/String.length()I -/
def rm_JS_length : Room := { frames := 1, cells := 0, slots := 0, locals := 20 }
theorem d_JS_length_0 : decode b_JS_length 0 = .ok (.aload_n 0, 1) := by decide +kernel
theorem d_JS_length_1 : decode b_JS_length 1 = .ok (.getfield 9, 3) := by decide +kernel
theorem d_JS_length_4 : decode b_JS_length 4 = .ok (.arraylength, 1) := by decide +kernel
theorem d_JS_length_5 : decode b_JS_length 5 = .ok (.aload_n 0, 1) := by decide +kernel
theorem d_JS_length_6 : decode b_JS_length 6 = .ok (.invokevirtual 335, 3) := by decide +kernel
theorem d_JS_length_9 : decode b_JS_length 9 = .ok (.ishr, 1) := by decide +kernel
theorem d_JS_length_10 : decode b_JS_length 10 = .ok (.ireturn, 1) := by decide +kernel
def f_JS_length (S : XS) (a0 : Nat) : Option (Int32) :=
  if a0 < xnl then ((f_JS_coder S a0).bind fun q3 => some ((Int32.ofNat (xlen.getD a0 0)) >>> (q3 &&& 31))) else none
set_option maxHeartbeats 4000000 in
set_option maxRecDepth 100000 in
theorem k_JS_length (l : Launch) {p : Program} {e : Env} {s : State} {m : MethodId} {args : Array Value} {below : List Frame} {meth : Method} {c : Code} {D : va_G} {lay : Nat → Nat} {cA : Nat → ClassId} {adK adV : Nat → Nat} {s0 : State} (C : xB p s m args meth c R_JS b_JS_length ((Option.some Jvm.ClassFile.FieldType.int)) 1) (E : xE D lay cA adK adV s0 s s.heap) : ∀ (S : XS) (a0 : Nat) (r : Int32) (_ : f_JS_length S a0 = some r) (H : Heap) (locs : List Loc) (ls : Array Slot), va_P D xcl (xw lay cA S) H → va_S (xI lay) s.heap H locs → lv_has ls 1 [(0, .ref (adK a0))] → W p l e rm_JS_length s m args below meth c H locs 0 0 (MQ below (xqi D lay cA r S) args s 0 0 (xI lay)) (F0 m 0 ls []) := by
  obtain ⟨hx, hb, hr, hml, hown, hts, hlk, hnh⟩ := id C
  have hK := E.K
  intro S a0 r h H locs ls hP hS hl
  unfold f_JS_length at h
  refine lv_aload_n hx hb d_JS_length_0 rfl (lv_at hl 0 rfl) ?_
  obtain ⟨hk1, h⟩ := xg h
  refine vk_getf hx hb (E.str hk1).2.2.1 hS hown (hts _ wd_1025) (fun _ h9 => h9) d_JS_length_1 ?_
  refine va_tlen hx hb (E.str hk1).2.2.2 hS rfl d_JS_length_4 ?_
  refine lv_aload_n hx hb d_JS_length_5 rfl (lv_at hl 0 rfl) ?_
  obtain ⟨q3, e2, h⟩ := xb h
  refine xc_i (va_runV (As := []) (rest := [.int (Int32.ofNat (xlen.getD a0 0))]) ⟨hx, hb, hml, hown, hts⟩ (c_JS_coder l D lay cA adK adV s0 S a0 q3 e2) (cwV 0 hts (xT_V wd_310 wd_311 wd_312 wd_9 wd_313) rfl rfl rfl (by decide +kernel) ⟨Nat.le_of_ble_eq_true rfl, Nat.le_of_ble_eq_true rfl⟩) (xpT E hP hS hk1 rfl) rfl rfl hl.1 rfl (lv_room (Nat.le_of_ble_eq_true rfl)) d_JS_length_6 ⟨Nat.le_of_ble_eq_true rfl, Nat.le_of_ble_eq_true rfl⟩) hS (fun H locs hP hS => ?_)
  refine lv_ishr hx hb d_JS_length_9 ?_
  have h9 := Option.some.inj h
  subst h9
  exact W.iret (v := (Int32.ofNat (xlen.getD a0 0)) >>> (q3 &&& 31)) hx hb hr (fun t ht hW => ⟨⟨(Int32.ofNat (xlen.getD a0 0)) >>> (q3 &&& 31), (), rfl, rfl, by show va_P D xcl _ t.heap; rw [ht]; exact hP⟩, hS.F ht⟩) hS.2.2 d_JS_length_10
theorem c_JS_length (l : Launch) (D : va_G) (lay : Nat → Nat) (cA : Nat → ClassId) (adK adV : Nat → Nat) (s0 : State) (S : XS) (a0 : Nat) (r : Int32) (h : f_JS_length S a0 = some r) : Met l y_JS_length (.code y_JS_length b_JS_length 1 ((Option.some Jvm.ClassFile.FieldType.int)) :: xT) rm_JS_length (xPc D lay cA adK adV s0 S [.ref (adK a0)]) (xqi D lay cA r S) 0 0 (xI lay) := by
  refine Met.ofW (cc := b_JS_length) (maxL := 1) (ret := (Option.some Jvm.ClassFile.FieldType.int)) (by decide +kernel) rfl ?_
  intro p e s m args below meth c s₁ B hml hv
  obtain ⟨rfl, hP, E⟩ := hv
  have C := xB_of B hml
  have hl := lv_entry ([.ref (adK a0)]) (n := 1) (Nat.le_of_ble_eq_true rfl)
  rw [lg_entry_eq]
  generalize (lg_sl ([.ref (adK a0)]) ++ List.replicate (1 - (lg_sl ([.ref (adK a0)])).length) Slot.unset).toArray = ls at hl ⊢
  exact k_JS_length l C E S a0 r h s.heap [] ls hP va_S.rf hl
/-! jdk/internal/util/Preconditions.checkIndex(IILjava/util/function/BiFunction;)I -/
def rm_JP_checkIndex : Room := { frames := 0, cells := 0, slots := 0, locals := 0 }
theorem d_JP_checkIndex_0 : decode b_JP_checkIndex 0 = .ok (.iload_n 0, 1) := by decide +kernel
theorem d_JP_checkIndex_1 : decode b_JP_checkIndex 1 = .ok (.ifCond .lt 8, 3) := by decide +kernel
theorem d_JP_checkIndex_4 : decode b_JP_checkIndex 4 = .ok (.iload_n 0, 1) := by decide +kernel
theorem d_JP_checkIndex_5 : decode b_JP_checkIndex 5 = .ok (.iload_n 1, 1) := by decide +kernel
theorem d_JP_checkIndex_6 : decode b_JP_checkIndex 6 = .ok (.if_icmp .lt 10, 3) := by decide +kernel
theorem d_JP_checkIndex_9 : decode b_JP_checkIndex 9 = .ok (.aload_n 2, 1) := by decide +kernel
theorem d_JP_checkIndex_10 : decode b_JP_checkIndex 10 = .ok (.iload_n 0, 1) := by decide +kernel
theorem d_JP_checkIndex_11 : decode b_JP_checkIndex 11 = .ok (.iload_n 1, 1) := by decide +kernel
theorem d_JP_checkIndex_12 : decode b_JP_checkIndex 12 = .ok (.invokestatic 95, 3) := by decide +kernel
theorem d_JP_checkIndex_15 : decode b_JP_checkIndex 15 = .ok (.athrow, 1) := by decide +kernel
theorem d_JP_checkIndex_16 : decode b_JP_checkIndex 16 = .ok (.iload_n 0, 1) := by decide +kernel
theorem d_JP_checkIndex_17 : decode b_JP_checkIndex 17 = .ok (.ireturn, 1) := by decide +kernel
def f_JP_checkIndexN (S : XS) (a0 : Int32) (a1 : Int32) : Option (Int32) :=
  if a0 < 0 then (none) else (if a0 < a1 then (some a0) else (none))
set_option maxHeartbeats 4000000 in
set_option maxRecDepth 100000 in
theorem k_JP_checkIndexN (l : Launch) {p : Program} {e : Env} {s : State} {m : MethodId} {args : Array Value} {below : List Frame} {meth : Method} {c : Code} {D : va_G} {lay : Nat → Nat} {cA : Nat → ClassId} {adK adV : Nat → Nat} {s0 : State} (C : xB p s m args meth c R_JP b_JP_checkIndex ((Option.some Jvm.ClassFile.FieldType.int)) 3) (E : xE D lay cA adK adV s0 s s.heap) : ∀ (S : XS) (a0 : Int32) (a1 : Int32) (r : Int32) (_ : f_JP_checkIndexN S a0 a1 = some r) (H : Heap) (locs : List Loc) (ls : Array Slot), va_P D xcl (xw lay cA S) H → va_S (xI lay) s.heap H locs → lv_has ls 3 [(0, .int a0), (1, .int a1), (2, .null)] → W p l e rm_JP_checkIndex s m args below meth c H locs 0 0 (MQ below (xqi D lay cA r S) args s 0 0 (xI lay)) (F0 m 0 ls []) := by
  obtain ⟨hx, hb, hr, hml, hown, hts, hlk, hnh⟩ := id C
  have hK := E.K
  intro S a0 a1 r h H locs ls hP hS hl
  unfold f_JP_checkIndexN at h
  refine lv_iload_n hx hb d_JP_checkIndex_0 rfl (lv_at hl 0 rfl) ?_
  refine lv_if_lt (tgt := 9) hx hb d_JP_checkIndex_1 (by decide) (fun c_2 => ?_) (fun c_2 => ?_)
  · have h := xif_t c_2 h
    refine lv_aload_nN hx hb d_JP_checkIndex_9 rfl (lv_at hl 2 rfl) ?_
    refine lv_iload_n hx hb d_JP_checkIndex_10 rfl (lv_at hl 0 rfl) ?_
    refine lv_iload_n hx hb d_JP_checkIndex_11 rfl (lv_at hl 1 rfl) ?_
    cases h
  · have h := xif_f c_2 h
    refine lv_iload_n hx hb d_JP_checkIndex_4 rfl (lv_at hl 0 rfl) ?_
    refine lv_iload_n hx hb d_JP_checkIndex_5 rfl (lv_at hl 1 rfl) ?_
    refine lv_icmp_lt (tgt := 16) hx hb d_JP_checkIndex_6 (by decide) (fun c_1 => ?_) (fun c_1 => ?_)
    · have h := xif_t c_1 h
      refine lv_iload_n hx hb d_JP_checkIndex_16 rfl (lv_at hl 0 rfl) ?_
      have h9 := Option.some.inj h
      subst h9
      exact W.iret (v := a0) hx hb hr (fun t ht hW => ⟨⟨a0, (), rfl, rfl, by show va_P D xcl _ t.heap; rw [ht]; exact hP⟩, hS.F ht⟩) hS.2.2 d_JP_checkIndex_17
    · have h := xif_f c_1 h
      refine lv_aload_nN hx hb d_JP_checkIndex_9 rfl (lv_at hl 2 rfl) ?_
      refine lv_iload_n hx hb d_JP_checkIndex_10 rfl (lv_at hl 0 rfl) ?_
      refine lv_iload_n hx hb d_JP_checkIndex_11 rfl (lv_at hl 1 rfl) ?_
      cases h
theorem c_JP_checkIndexN (l : Launch) (D : va_G) (lay : Nat → Nat) (cA : Nat → ClassId) (adK adV : Nat → Nat) (s0 : State) (S : XS) (a0 : Int32) (a1 : Int32) (r : Int32) (h : f_JP_checkIndexN S a0 a1 = some r) : Met l y_JP_checkIndex (.code y_JP_checkIndex b_JP_checkIndex 3 ((Option.some Jvm.ClassFile.FieldType.int)) :: xT) rm_JP_checkIndex (xPc D lay cA adK adV s0 S [.int a0, .int a1, .null]) (xqi D lay cA r S) 0 0 (xI lay) := by
  refine Met.ofW (cc := b_JP_checkIndex) (maxL := 3) (ret := (Option.some Jvm.ClassFile.FieldType.int)) (by decide +kernel) rfl ?_
  intro p e s m args below meth c s₁ B hml hv
  obtain ⟨rfl, hP, E⟩ := hv
  have C := xB_of B hml
  have hl := lv_entry ([.int a0, .int a1, .null]) (n := 3) (Nat.le_of_ble_eq_true rfl)
  rw [lg_entry_eq]
  generalize (lg_sl ([.int a0, .int a1, .null]) ++ List.replicate (3 - (lg_sl ([.int a0, .int a1, .null])).length) Slot.unset).toArray = ls at hl ⊢
  exact k_JP_checkIndexN l C E S a0 a1 r h s.heap [] ls hP va_S.rf hl
def f_JP_checkIndexA (S : XS) (a0 : Int32) (a1 : Int32) (a2 : Nat) : Option (Int32) :=
  if a0 < 0 then (none) else (if a0 < a1 then (some a0) else (none))
set_option maxHeartbeats 4000000 in
set_option maxRecDepth 100000 in
theorem k_JP_checkIndexA (l : Launch) {p : Program} {e : Env} {s : State} {m : MethodId} {args : Array Value} {below : List Frame} {meth : Method} {c : Code} {D : va_G} {lay : Nat → Nat} {cA : Nat → ClassId} {adK adV : Nat → Nat} {s0 : State} (C : xB p s m args meth c R_JP b_JP_checkIndex ((Option.some Jvm.ClassFile.FieldType.int)) 3) (E : xE D lay cA adK adV s0 s s.heap) : ∀ (S : XS) (a0 : Int32) (a1 : Int32) (a2 : Nat) (r : Int32) (_ : f_JP_checkIndexA S a0 a1 a2 = some r) (H : Heap) (locs : List Loc) (ls : Array Slot), va_P D xcl (xw lay cA S) H → va_S (xI lay) s.heap H locs → lv_has ls 3 [(0, .int a0), (1, .int a1), (2, .ref a2)] → W p l e rm_JP_checkIndex s m args below meth c H locs 0 0 (MQ below (xqi D lay cA r S) args s 0 0 (xI lay)) (F0 m 0 ls []) := by
  obtain ⟨hx, hb, hr, hml, hown, hts, hlk, hnh⟩ := id C
  have hK := E.K
  intro S a0 a1 a2 r h H locs ls hP hS hl
  unfold f_JP_checkIndexA at h
  refine lv_iload_n hx hb d_JP_checkIndex_0 rfl (lv_at hl 0 rfl) ?_
  refine lv_if_lt (tgt := 9) hx hb d_JP_checkIndex_1 (by decide) (fun c_2 => ?_) (fun c_2 => ?_)
  · have h := xif_t c_2 h
    refine lv_aload_n hx hb d_JP_checkIndex_9 rfl (lv_at hl 2 rfl) ?_
    refine lv_iload_n hx hb d_JP_checkIndex_10 rfl (lv_at hl 0 rfl) ?_
    refine lv_iload_n hx hb d_JP_checkIndex_11 rfl (lv_at hl 1 rfl) ?_
    cases h
  · have h := xif_f c_2 h
    refine lv_iload_n hx hb d_JP_checkIndex_4 rfl (lv_at hl 0 rfl) ?_
    refine lv_iload_n hx hb d_JP_checkIndex_5 rfl (lv_at hl 1 rfl) ?_
    refine lv_icmp_lt (tgt := 16) hx hb d_JP_checkIndex_6 (by decide) (fun c_1 => ?_) (fun c_1 => ?_)
    · have h := xif_t c_1 h
      refine lv_iload_n hx hb d_JP_checkIndex_16 rfl (lv_at hl 0 rfl) ?_
      have h9 := Option.some.inj h
      subst h9
      exact W.iret (v := a0) hx hb hr (fun t ht hW => ⟨⟨a0, (), rfl, rfl, by show va_P D xcl _ t.heap; rw [ht]; exact hP⟩, hS.F ht⟩) hS.2.2 d_JP_checkIndex_17
    · have h := xif_f c_1 h
      refine lv_aload_n hx hb d_JP_checkIndex_9 rfl (lv_at hl 2 rfl) ?_
      refine lv_iload_n hx hb d_JP_checkIndex_10 rfl (lv_at hl 0 rfl) ?_
      refine lv_iload_n hx hb d_JP_checkIndex_11 rfl (lv_at hl 1 rfl) ?_
      cases h
theorem c_JP_checkIndexA (l : Launch) (D : va_G) (lay : Nat → Nat) (cA : Nat → ClassId) (adK adV : Nat → Nat) (s0 : State) (S : XS) (a0 : Int32) (a1 : Int32) (a2 : Nat) (r : Int32) (h : f_JP_checkIndexA S a0 a1 a2 = some r) : Met l y_JP_checkIndex (.code y_JP_checkIndex b_JP_checkIndex 3 ((Option.some Jvm.ClassFile.FieldType.int)) :: xT) rm_JP_checkIndex (xPc D lay cA adK adV s0 S [.int a0, .int a1, .ref a2]) (xqi D lay cA r S) 0 0 (xI lay) := by
  refine Met.ofW (cc := b_JP_checkIndex) (maxL := 3) (ret := (Option.some Jvm.ClassFile.FieldType.int)) (by decide +kernel) rfl ?_
  intro p e s m args below meth c s₁ B hml hv
  obtain ⟨rfl, hP, E⟩ := hv
  have C := xB_of B hml
  have hl := lv_entry ([.int a0, .int a1, .ref a2]) (n := 3) (Nat.le_of_ble_eq_true rfl)
  rw [lg_entry_eq]
  generalize (lg_sl ([.int a0, .int a1, .ref a2]) ++ List.replicate (3 - (lg_sl ([.int a0, .int a1, .ref a2])).length) Slot.unset).toArray = ls at hl ⊢
  exact k_JP_checkIndexA l C E S a0 a1 a2 r h s.heap [] ls hP va_S.rf hl
/-! java/lang/String.checkIndex(II)V -/
def rm_JS_checkIndex : Room := { frames := 1, cells := 0, slots := 0, locals := 22 }
theorem d_JS_checkIndex_0 : decode b_JS_checkIndex 0 = .ok (.iload_n 0, 1) := by decide +kernel
theorem d_JS_checkIndex_1 : decode b_JS_checkIndex 1 = .ok (.iload_n 1, 1) := by decide +kernel
theorem d_JS_checkIndex_2 : decode b_JS_checkIndex 2 = .ok (.getstatic 1053, 3) := by decide +kernel
theorem d_JS_checkIndex_5 : decode b_JS_checkIndex 5 = .ok (.invokestatic 1059, 3) := by decide +kernel
theorem d_JS_checkIndex_8 : decode b_JS_checkIndex 8 = .ok (.pop, 1) := by decide +kernel
theorem d_JS_checkIndex_9 : decode b_JS_checkIndex 9 = .ok (.return_, 1) := by decide +kernel
def f_JS_checkIndex (S : XS) (a0 : Int32) (a1 : Int32) : Option Unit := (f_JP_checkIndexN S a0 a1).bind fun _ => some ()
set_option maxHeartbeats 4000000 in
set_option maxRecDepth 100000 in
theorem c_JS_checkIndex (l : Launch) (D : va_G) (lay : Nat → Nat) (cA : Nat → ClassId) (adK adV : Nat → Nat) (s0 : State) (S : XS) (a0 : Int32) (a1 : Int32) (r : Unit) (h : f_JS_checkIndex S a0 a1 = some r) : Met l y_JS_checkIndex (.code y_JS_checkIndex b_JS_checkIndex 2 ((Option.none : Option Jvm.ClassFile.FieldType)) :: xT) rm_JS_checkIndex (xPc D lay cA adK adV s0 S [.int a0, .int a1]) (xqv D lay cA S) 0 0 (xI lay) := by
  obtain ⟨q1, e1, h⟩ := xb h
  refine Met.ofW (cc := b_JS_checkIndex) (maxL := 2) (ret := (Option.none : Option Jvm.ClassFile.FieldType)) (by decide +kernel) rfl ?_
  intro p e s m args below meth c s₁ B hml hv
  obtain ⟨rfl, hP, E⟩ := hv
  obtain ⟨hx, hb, hr, hml, hown, hts, hlk, hnh⟩ := xB_of B hml
  have hl := lv_entry ([.int a0, .int a1]) (n := 2) (Nat.le_of_ble_eq_true rfl)
  rw [lg_entry_eq]
  generalize (lg_sl ([.int a0, .int a1]) ++ List.replicate (2 - (lg_sl ([.int a0, .int a1])).length) Slot.unset).toArray = ls at hl ⊢
  refine lv_iload_n hx hb d_JS_checkIndex_0 rfl (lv_at hl 0 rfl) ?_
  refine lv_iload_n hx hb d_JS_checkIndex_1 rfl (lv_at hl 1 rfl) ?_
  rcases E.sio with hz | ⟨t9, hz⟩
  · refine va_gets hx hb hz va_S.rf hown (hts _ wd_345) (fun _ h9 => h9) d_JS_checkIndex_2 ?_
    refine xc_i (va_runS (As := [.int a0, .int a1, .null]) (rest := []) ⟨hx, hb, hml, hown, hts⟩ (c_JP_checkIndexN l D lay cA adK adV s0 S a0 a1 q1 e1) ⟨callB_of 3 hts (xT_I wd_476) rfl rfl rfl (hts _ wd_12) (hts _ wd_474) (by decide +kernel) ⟨Nat.le_of_ble_eq_true rfl, Nat.le_of_ble_eq_true rfl⟩, hts _ wd_475⟩ (xpS E hP va_S.rf) rfl rfl hl.1 rfl (lv_room (Nat.le_of_ble_eq_true rfl)) d_JS_checkIndex_5 ⟨Nat.le_of_ble_eq_true rfl, Nat.le_of_ble_eq_true rfl⟩) va_S.rf (fun H locs hP hS => ?_)
    refine lv_pop hx hb d_JS_checkIndex_8 rfl ?_
    exact W.vret hx hb hr (fun t ht hW => ⟨⟨(), rfl, trivial, by show va_P D xcl _ t.heap; rw [ht]; exact hP⟩, hS.F ht⟩) hS.2.2 d_JS_checkIndex_9
  · refine va_gets hx hb hz va_S.rf hown (hts _ wd_345) (fun _ h9 => h9) d_JS_checkIndex_2 ?_
    refine xc_i (va_runS (As := [.int a0, .int a1, .ref t9]) (rest := []) ⟨hx, hb, hml, hown, hts⟩ (c_JP_checkIndexA l D lay cA adK adV s0 S a0 a1 t9 q1 (by unfold f_JP_checkIndexA; unfold f_JP_checkIndexN at e1; exact e1)) ⟨callB_of 3 hts (xT_I wd_476) rfl rfl rfl (hts _ wd_12) (hts _ wd_474) (by decide +kernel) ⟨Nat.le_of_ble_eq_true rfl, Nat.le_of_ble_eq_true rfl⟩, hts _ wd_475⟩ (xpS E hP va_S.rf) rfl rfl hl.1 rfl (lv_room (Nat.le_of_ble_eq_true rfl)) d_JS_checkIndex_5 ⟨Nat.le_of_ble_eq_true rfl, Nat.le_of_ble_eq_true rfl⟩) va_S.rf (fun H locs hP hS => ?_)
    refine lv_pop hx hb d_JS_checkIndex_8 rfl ?_
    exact W.vret hx hb hr (fun t ht hW => ⟨⟨(), rfl, trivial, by show va_P D xcl _ t.heap; rw [ht]; exact hP⟩, hS.F ht⟩) hS.2.2 d_JS_checkIndex_9
/-! java/lang/StringLatin1.charAt([BI)C -/
def rm_JL_charAt : Room := { frames := 2, cells := 0, slots := 0, locals := 43 }
theorem d_JL_charAt_0 : decode b_JL_charAt 0 = .ok (.iload_n 1, 1) := by decide +kernel
theorem d_JL_charAt_1 : decode b_JL_charAt 1 = .ok (.aload_n 0, 1) := by decide +kernel
theorem d_JL_charAt_2 : decode b_JL_charAt 2 = .ok (.arraylength, 1) := by decide +kernel
theorem d_JL_charAt_3 : decode b_JL_charAt 3 = .ok (.invokestatic 9, 3) := by decide +kernel
theorem d_JL_charAt_6 : decode b_JL_charAt 6 = .ok (.aload_n 0, 1) := by decide +kernel
theorem d_JL_charAt_7 : decode b_JL_charAt 7 = .ok (.iload_n 1, 1) := by decide +kernel
theorem d_JL_charAt_8 : decode b_JL_charAt 8 = .ok (.baload, 1) := by decide +kernel
theorem d_JL_charAt_9 : decode b_JL_charAt 9 = .ok (.sipush 255, 3) := by decide +kernel
theorem d_JL_charAt_12 : decode b_JL_charAt 12 = .ok (.iand, 1) := by decide +kernel
theorem d_JL_charAt_13 : decode b_JL_charAt 13 = .ok (.i2c, 1) := by decide +kernel
theorem d_JL_charAt_14 : decode b_JL_charAt 14 = .ok (.ireturn, 1) := by decide +kernel
def f_JL_charAt (S : XS) (a0 : Nat) (a1 : Int32) : Option (Int32) :=
  if a0 < xnl then ((f_JS_checkIndex S a1 (Int32.ofNat (xlen.getD a0 0))).bind fun q3 => if ¬ (a1 < 0 ∨ xlen.getD a0 0 ≤ a1.toNatClampNeg) then (if ((((((xbyt.getD a0 []).getD a1.toNatClampNeg 0) &&& (255 : Int32)).toUInt32 % 65536).toInt32).toUInt32 % 65536).toInt32 = (((((xbyt.getD a0 []).getD a1.toNatClampNeg 0) &&& (255 : Int32)).toUInt32 % 65536).toInt32) then (some (((((xbyt.getD a0 []).getD a1.toNatClampNeg 0) &&& (255 : Int32)).toUInt32 % 65536).toInt32)) else none) else none) else none
set_option maxHeartbeats 4000000 in
set_option maxRecDepth 100000 in
theorem k_JL_charAt (l : Launch) {p : Program} {e : Env} {s : State} {m : MethodId} {args : Array Value} {below : List Frame} {meth : Method} {c : Code} {D : va_G} {lay : Nat → Nat} {cA : Nat → ClassId} {adK adV : Nat → Nat} {s0 : State} (C : xB p s m args meth c R_JL b_JL_charAt ((Option.some Jvm.ClassFile.FieldType.char)) 2) (E : xE D lay cA adK adV s0 s s.heap) : ∀ (S : XS) (a0 : Nat) (a1 : Int32) (r : Int32) (_ : f_JL_charAt S a0 a1 = some r) (H : Heap) (locs : List Loc) (ls : Array Slot), va_P D xcl (xw lay cA S) H → va_S (xI lay) s.heap H locs → lv_has ls 2 [(0, .ref (adV a0)), (1, .int a1)] → W p l e rm_JL_charAt s m args below meth c H locs 0 0 (MQ below (xqi D lay cA r S) args s 0 0 (xI lay)) (F0 m 0 ls []) := by
  obtain ⟨hx, hb, hr, hml, hown, hts, hlk, hnh⟩ := id C
  have hK := E.K
  intro S a0 a1 r h H locs ls hP hS hl
  unfold f_JL_charAt at h
  refine lv_iload_n hx hb d_JL_charAt_0 rfl (lv_at hl 1 rfl) ?_
  refine lv_aload_n hx hb d_JL_charAt_1 rfl (lv_at hl 0 rfl) ?_
  obtain ⟨hk1, h⟩ := xg h
  refine va_tlen hx hb (E.str hk1).2.2.2 hS rfl d_JL_charAt_2 ?_
  obtain ⟨q3, e2, h⟩ := xb h
  refine xc_v (va_runS (As := [.int a1, .int (Int32.ofNat (xlen.getD a0 0))]) (rest := []) ⟨hx, hb, hml, hown, hts⟩ (c_JS_checkIndex l D lay cA adK adV s0 S a1 (Int32.ofNat (xlen.getD a0 0)) q3 e2) ⟨callB_of 2 hts (xT_I wd_473) rfl rfl rfl (hts _ wd_9) (hts _ wd_471) (by decide +kernel) ⟨Nat.le_of_ble_eq_true rfl, Nat.le_of_ble_eq_true rfl⟩, hts _ wd_472⟩ (xpS E hP hS) rfl rfl hl.1 rfl (lv_room (Nat.le_of_ble_eq_true rfl)) d_JL_charAt_3 ⟨Nat.le_of_ble_eq_true rfl, Nat.le_of_ble_eq_true rfl⟩) hS (fun H locs hP hS => ?_)
  refine lv_aload_n hx hb d_JL_charAt_6 rfl (lv_at hl 0 rfl) ?_
  refine lv_iload_n hx hb d_JL_charAt_7 rfl (lv_at hl 1 rfl) ?_
  obtain ⟨hg4, h⟩ := xg h
  refine va_tb hx hb (E.str hk1).2.2.2 hS hg4 rfl d_JL_charAt_8 ?_
  refine lv_sipush (v := (255 : Int32)) hx hb d_JL_charAt_9 (by decide) ?_
  refine lv_iand hx hb d_JL_charAt_12 ?_
  refine lv_i2c (v := ((((xbyt.getD a0 []).getD a1.toNatClampNeg 0) &&& (255 : Int32)).toUInt32 % 65536).toInt32) hx hb d_JL_charAt_13 rfl ?_
  obtain ⟨hc5, h⟩ := xg h
  have h9 := Option.some.inj h
  subst h9
  exact W.zret (v := ((((xbyt.getD a0 []).getD a1.toNatClampNeg 0) &&& (255 : Int32)).toUInt32 % 65536).toInt32) hx hb hr (by rw [← hc5]; exact pk_nc _) (fun t ht hW => ⟨⟨((((xbyt.getD a0 []).getD a1.toNatClampNeg 0) &&& (255 : Int32)).toUInt32 % 65536).toInt32, (), rfl, rfl, by show va_P D xcl _ t.heap; rw [ht]; exact hP⟩, hS.F ht⟩) hS.2.2 d_JL_charAt_14
theorem c_JL_charAt (l : Launch) (D : va_G) (lay : Nat → Nat) (cA : Nat → ClassId) (adK adV : Nat → Nat) (s0 : State) (S : XS) (a0 : Nat) (a1 : Int32) (r : Int32) (h : f_JL_charAt S a0 a1 = some r) : Met l y_JL_charAt (.code y_JL_charAt b_JL_charAt 2 ((Option.some Jvm.ClassFile.FieldType.char)) :: xT) rm_JL_charAt (xPc D lay cA adK adV s0 S [.ref (adV a0), .int a1]) (xqi D lay cA r S) 0 0 (xI lay) := by
  refine Met.ofW (cc := b_JL_charAt) (maxL := 2) (ret := (Option.some Jvm.ClassFile.FieldType.char)) (by decide +kernel) rfl ?_
  intro p e s m args below meth c s₁ B hml hv
  obtain ⟨rfl, hP, E⟩ := hv
  have C := xB_of B hml
  have hl := lv_entry ([.ref (adV a0), .int a1]) (n := 2) (Nat.le_of_ble_eq_true rfl)
  rw [lg_entry_eq]
  generalize (lg_sl ([.ref (adV a0), .int a1]) ++ List.replicate (2 - (lg_sl ([.ref (adV a0), .int a1])).length) Slot.unset).toArray = ls at hl ⊢
  exact k_JL_charAt l C E S a0 a1 r h s.heap [] ls hP va_S.rf hl
/-! java/lang/String.charAt(I)C -/
def rm_JS_charAt : Room := { frames := 3, cells := 0, slots := 0, locals := 64 }
theorem d_JS_charAt_0 : decode b_JS_charAt 0 = .ok (.aload_n 0, 1) := by decide +kernel
theorem d_JS_charAt_1 : decode b_JS_charAt 1 = .ok (.invokevirtual 492, 3) := by decide +kernel
theorem d_JS_charAt_4 : decode b_JS_charAt 4 = .ok (.ifCond .eq 12, 3) := by decide +kernel
theorem d_JS_charAt_7 : decode b_JS_charAt 7 = .ok (.aload_n 0, 1) := by decide +kernel
theorem d_JS_charAt_8 : decode b_JS_charAt 8 = .ok (.getfield 9, 3) := by decide +kernel
theorem d_JS_charAt_11 : decode b_JS_charAt 11 = .ok (.iload_n 1, 1) := by decide +kernel
theorem d_JS_charAt_12 : decode b_JS_charAt 12 = .ok (.invokestatic 495, 3) := by decide +kernel
theorem d_JS_charAt_15 : decode b_JS_charAt 15 = .ok (.ireturn, 1) := by decide +kernel
theorem d_JS_charAt_16 : decode b_JS_charAt 16 = .ok (.aload_n 0, 1) := by decide +kernel
theorem d_JS_charAt_17 : decode b_JS_charAt 17 = .ok (.getfield 9, 3) := by decide +kernel
theorem d_JS_charAt_20 : decode b_JS_charAt 20 = .ok (.iload_n 1, 1) := by decide +kernel
theorem d_JS_charAt_21 : decode b_JS_charAt 21 = .ok (.invokestatic 498, 3) := by decide +kernel
theorem d_JS_charAt_24 : decode b_JS_charAt 24 = .ok (.ireturn, 1) := by decide +kernel
def f_JS_charAt (S : XS) (a0 : Nat) (a1 : Int32) : Option (Int32) :=
  if a0 < xnl then ((f_JS_isLatin1 S a0).bind fun q3 => if q3 = 0 then (none) else ((f_JL_charAt S a0 a1).bind fun q5 => if (q5.toUInt32 % 65536).toInt32 = q5 then (some q5) else none)) else none
set_option maxHeartbeats 4000000 in
set_option maxRecDepth 100000 in
theorem k_JS_charAt (l : Launch) {p : Program} {e : Env} {s : State} {m : MethodId} {args : Array Value} {below : List Frame} {meth : Method} {c : Code} {D : va_G} {lay : Nat → Nat} {cA : Nat → ClassId} {adK adV : Nat → Nat} {s0 : State} (C : xB p s m args meth c R_JS b_JS_charAt ((Option.some Jvm.ClassFile.FieldType.char)) 2) (E : xE D lay cA adK adV s0 s s.heap) : ∀ (S : XS) (a0 : Nat) (a1 : Int32) (r : Int32) (_ : f_JS_charAt S a0 a1 = some r) (H : Heap) (locs : List Loc) (ls : Array Slot), va_P D xcl (xw lay cA S) H → va_S (xI lay) s.heap H locs → lv_has ls 2 [(0, .ref (adK a0)), (1, .int a1)] → W p l e rm_JS_charAt s m args below meth c H locs 0 0 (MQ below (xqi D lay cA r S) args s 0 0 (xI lay)) (F0 m 0 ls []) := by
  obtain ⟨hx, hb, hr, hml, hown, hts, hlk, hnh⟩ := id C
  have hK := E.K
  intro S a0 a1 r h H locs ls hP hS hl
  unfold f_JS_charAt at h
  refine lv_aload_n hx hb d_JS_charAt_0 rfl (lv_at hl 0 rfl) ?_
  obtain ⟨hk1, h⟩ := xg h
  obtain ⟨q3, e2, h⟩ := xb h
  refine xc_i (va_runV (As := []) (rest := []) ⟨hx, hb, hml, hown, hts⟩ (c_JS_isLatin1 l D lay cA adK adV s0 S a0 q3 e2) (cwV 0 hts (xT_V wd_300 wd_301 wd_302 wd_9 wd_303) rfl rfl rfl (by decide +kernel) ⟨Nat.le_of_ble_eq_true rfl, Nat.le_of_ble_eq_true rfl⟩) (xpT E hP hS hk1 rfl) rfl rfl hl.1 rfl (lv_room (Nat.le_of_ble_eq_true rfl)) d_JS_charAt_1 ⟨Nat.le_of_ble_eq_true rfl, Nat.le_of_ble_eq_true rfl⟩) hS (fun H locs hP hS => ?_)
  refine lv_if_eq (tgt := 16) hx hb d_JS_charAt_4 (by decide) (fun c_7 => ?_) (fun c_7 => ?_)
  · have h := xif_t c_7 h
    refine lv_aload_n hx hb d_JS_charAt_16 rfl (lv_at hl 0 rfl) ?_
    refine vk_getf hx hb (E.str hk1).2.2.1 hS hown (hts _ wd_1025) (fun _ h9 => h9) d_JS_charAt_17 ?_
    refine lv_iload_n hx hb d_JS_charAt_20 rfl (lv_at hl 1 rfl) ?_
    cases h
  · have h := xif_f c_7 h
    refine lv_aload_n hx hb d_JS_charAt_7 rfl (lv_at hl 0 rfl) ?_
    refine vk_getf hx hb (E.str hk1).2.2.1 hS hown (hts _ wd_1025) (fun _ h9 => h9) d_JS_charAt_8 ?_
    refine lv_iload_n hx hb d_JS_charAt_11 rfl (lv_at hl 1 rfl) ?_
    obtain ⟨q5, e4, h⟩ := xb h
    refine xc_i (va_runS (As := [.ref (adV a0), .int a1]) (rest := []) ⟨hx, hb, hml, hown, hts⟩ (c_JL_charAt l D lay cA adK adV s0 S a0 a1 q5 e4) ⟨callB_of 2 hts (xT_I wd_470) rfl rfl rfl (hts _ wd_10) (hts _ wd_468) (by decide +kernel) ⟨Nat.le_of_ble_eq_true rfl, Nat.le_of_ble_eq_true rfl⟩, hts _ wd_469⟩ (xpS E hP hS) rfl rfl hl.1 rfl (lv_room (Nat.le_of_ble_eq_true rfl)) d_JS_charAt_12 ⟨Nat.le_of_ble_eq_true rfl, Nat.le_of_ble_eq_true rfl⟩) hS (fun H locs hP hS => ?_)
    obtain ⟨hc6, h⟩ := xg h
    have h9 := Option.some.inj h
    subst h9
    exact W.zret (v := q5) hx hb hr (by rw [← hc6]; exact pk_nc _) (fun t ht hW => ⟨⟨q5, (), rfl, rfl, by show va_P D xcl _ t.heap; rw [ht]; exact hP⟩, hS.F ht⟩) hS.2.2 d_JS_charAt_15
theorem c_JS_charAt (l : Launch) (D : va_G) (lay : Nat → Nat) (cA : Nat → ClassId) (adK adV : Nat → Nat) (s0 : State) (S : XS) (a0 : Nat) (a1 : Int32) (r : Int32) (h : f_JS_charAt S a0 a1 = some r) : Met l y_JS_charAt (.code y_JS_charAt b_JS_charAt 2 ((Option.some Jvm.ClassFile.FieldType.char)) :: xT) rm_JS_charAt (xPc D lay cA adK adV s0 S [.ref (adK a0), .int a1]) (xqi D lay cA r S) 0 0 (xI lay) := by
  refine Met.ofW (cc := b_JS_charAt) (maxL := 2) (ret := (Option.some Jvm.ClassFile.FieldType.char)) (by decide +kernel) rfl ?_
  intro p e s m args below meth c s₁ B hml hv
  obtain ⟨rfl, hP, E⟩ := hv
  have C := xB_of B hml
  have hl := lv_entry ([.ref (adK a0), .int a1]) (n := 2) (Nat.le_of_ble_eq_true rfl)
  rw [lg_entry_eq]
  generalize (lg_sl ([.ref (adK a0), .int a1]) ++ List.replicate (2 - (lg_sl ([.ref (adK a0), .int a1])).length) Slot.unset).toArray = ls at hl ⊢
  exact k_JS_charAt l C E S a0 a1 r h s.heap [] ls hP va_S.rf hl
/-! java/lang/StringLatin1.canEncode(I)Z -/
def rm_JL_canEncode : Room := { frames := 0, cells := 0, slots := 0, locals := 0 }
theorem d_JL_canEncode_0 : decode b_JL_canEncode 0 = .ok (.iload_n 0, 1) := by decide +kernel
theorem d_JL_canEncode_1 : decode b_JL_canEncode 1 = .ok (.ifCond .lt 14, 3) := by decide +kernel
theorem d_JL_canEncode_4 : decode b_JL_canEncode 4 = .ok (.iload_n 0, 1) := by decide +kernel
theorem d_JL_canEncode_5 : decode b_JL_canEncode 5 = .ok (.sipush 255, 3) := by decide +kernel
theorem d_JL_canEncode_8 : decode b_JL_canEncode 8 = .ok (.if_icmp .gt 7, 3) := by decide +kernel
theorem d_JL_canEncode_11 : decode b_JL_canEncode 11 = .ok (.iconst 1, 1) := by decide +kernel
theorem d_JL_canEncode_12 : decode b_JL_canEncode 12 = .ok (.goto 4, 3) := by decide +kernel
theorem d_JL_canEncode_15 : decode b_JL_canEncode 15 = .ok (.iconst 0, 1) := by decide +kernel
theorem d_JL_canEncode_16 : decode b_JL_canEncode 16 = .ok (.ireturn, 1) := by decide +kernel
def f_JL_canEncode (S : XS) (a0 : Int32) : Option (Int32) :=
  if a0 < 0 then (some (0 : Int32)) else (if (255 : Int32) < a0 then (some (0 : Int32)) else (some (1 : Int32)))
set_option maxHeartbeats 4000000 in
set_option maxRecDepth 100000 in
theorem k_JL_canEncode (l : Launch) {p : Program} {e : Env} {s : State} {m : MethodId} {args : Array Value} {below : List Frame} {meth : Method} {c : Code} {D : va_G} {lay : Nat → Nat} {cA : Nat → ClassId} {adK adV : Nat → Nat} {s0 : State} (C : xB p s m args meth c R_JL b_JL_canEncode ((Option.some Jvm.ClassFile.FieldType.boolean)) 1) (E : xE D lay cA adK adV s0 s s.heap) : ∀ (S : XS) (a0 : Int32) (r : Int32) (_ : f_JL_canEncode S a0 = some r) (H : Heap) (locs : List Loc) (ls : Array Slot), va_P D xcl (xw lay cA S) H → va_S (xI lay) s.heap H locs → lv_has ls 1 [(0, .int a0)] → W p l e rm_JL_canEncode s m args below meth c H locs 0 0 (MQ below (xqi D lay cA r S) args s 0 0 (xI lay)) (F0 m 0 ls []) := by
  obtain ⟨hx, hb, hr, hml, hown, hts, hlk, hnh⟩ := id C
  have hK := E.K
  intro S a0 r h H locs ls hP hS hl
  unfold f_JL_canEncode at h
  refine lv_iload_n hx hb d_JL_canEncode_0 rfl (lv_at hl 0 rfl) ?_
  refine lv_if_lt (tgt := 15) hx hb d_JL_canEncode_1 (by decide) (fun c_2 => ?_) (fun c_2 => ?_)
  · have h := xif_t c_2 h
    refine lv_iconst (v := (0 : Int32)) hx hb d_JL_canEncode_15 (by decide) ?_
    have h9 := Option.some.inj h
    subst h9
    exact W.zret (v := (0 : Int32)) hx hb hr (by decide) (fun t ht hW => ⟨⟨(0 : Int32), (), rfl, rfl, by show va_P D xcl _ t.heap; rw [ht]; exact hP⟩, hS.F ht⟩) hS.2.2 d_JL_canEncode_16
  · have h := xif_f c_2 h
    refine lv_iload_n hx hb d_JL_canEncode_4 rfl (lv_at hl 0 rfl) ?_
    refine lv_sipush (v := (255 : Int32)) hx hb d_JL_canEncode_5 (by decide) ?_
    refine lv_icmp_gt (tgt := 15) hx hb d_JL_canEncode_8 (by decide) (fun c_1 => ?_) (fun c_1 => ?_)
    · have h := xif_t c_1 h
      refine lv_iconst (v := (0 : Int32)) hx hb d_JL_canEncode_15 (by decide) ?_
      have h9 := Option.some.inj h
      subst h9
      exact W.zret (v := (0 : Int32)) hx hb hr (by decide) (fun t ht hW => ⟨⟨(0 : Int32), (), rfl, rfl, by show va_P D xcl _ t.heap; rw [ht]; exact hP⟩, hS.F ht⟩) hS.2.2 d_JL_canEncode_16
    · have h := xif_f c_1 h
      refine lv_iconst (v := (1 : Int32)) hx hb d_JL_canEncode_11 (by decide) ?_
      refine lv_goto (tgt := 16) hx hb d_JL_canEncode_12 (by decide) ?_
      have h9 := Option.some.inj h
      subst h9
      exact W.zret (v := (1 : Int32)) hx hb hr (by decide) (fun t ht hW => ⟨⟨(1 : Int32), (), rfl, rfl, by show va_P D xcl _ t.heap; rw [ht]; exact hP⟩, hS.F ht⟩) hS.2.2 d_JL_canEncode_16
theorem c_JL_canEncode (l : Launch) (D : va_G) (lay : Nat → Nat) (cA : Nat → ClassId) (adK adV : Nat → Nat) (s0 : State) (S : XS) (a0 : Int32) (r : Int32) (h : f_JL_canEncode S a0 = some r) : Met l y_JL_canEncode (.code y_JL_canEncode b_JL_canEncode 1 ((Option.some Jvm.ClassFile.FieldType.boolean)) :: xT) rm_JL_canEncode (xPc D lay cA adK adV s0 S [.int a0]) (xqi D lay cA r S) 0 0 (xI lay) := by
  refine Met.ofW (cc := b_JL_canEncode) (maxL := 1) (ret := (Option.some Jvm.ClassFile.FieldType.boolean)) (by decide +kernel) rfl ?_
  intro p e s m args below meth c s₁ B hml hv
  obtain ⟨rfl, hP, E⟩ := hv
  have C := xB_of B hml
  have hl := lv_entry ([.int a0]) (n := 1) (Nat.le_of_ble_eq_true rfl)
  rw [lg_entry_eq]
  generalize (lg_sl ([.int a0]) ++ List.replicate (1 - (lg_sl ([.int a0])).length) Slot.unset).toArray = ls at hl ⊢
  exact k_JL_canEncode l C E S a0 r h s.heap [] ls hP va_S.rf hl
/-! java/lang/StringLatin1.indexOfChar([BIII)I -/
def rm_JL_indexOfChar : Room := { frames := 0, cells := 0, slots := 0, locals := 0 }
theorem d_JL_indexOfChar_0 : decode b_JL_indexOfChar 0 = .ok (.iload_n 1, 1) := by decide +kernel
theorem d_JL_indexOfChar_1 : decode b_JL_indexOfChar 1 = .ok (.i2b, 1) := by decide +kernel
theorem d_JL_indexOfChar_2 : decode b_JL_indexOfChar 2 = .ok (.istore 4, 2) := by decide +kernel
theorem d_JL_indexOfChar_4 : decode b_JL_indexOfChar 4 = .ok (.iload_n 2, 1) := by decide +kernel
theorem d_JL_indexOfChar_5 : decode b_JL_indexOfChar 5 = .ok (.istore 5, 2) := by decide +kernel
theorem d_JL_indexOfChar_7 : decode b_JL_indexOfChar 7 = .ok (.iload 5, 2) := by decide +kernel
theorem d_JL_indexOfChar_9 : decode b_JL_indexOfChar 9 = .ok (.iload_n 3, 1) := by decide +kernel
theorem d_JL_indexOfChar_10 : decode b_JL_indexOfChar 10 = .ok (.if_icmp .ge 21, 3) := by decide +kernel
theorem d_JL_indexOfChar_13 : decode b_JL_indexOfChar 13 = .ok (.aload_n 0, 1) := by decide +kernel
theorem d_JL_indexOfChar_14 : decode b_JL_indexOfChar 14 = .ok (.iload 5, 2) := by decide +kernel
theorem d_JL_indexOfChar_16 : decode b_JL_indexOfChar 16 = .ok (.baload, 1) := by decide +kernel
theorem d_JL_indexOfChar_17 : decode b_JL_indexOfChar 17 = .ok (.iload 4, 2) := by decide +kernel
theorem d_JL_indexOfChar_19 : decode b_JL_indexOfChar 19 = .ok (.if_icmp .ne 6, 3) := by decide +kernel
theorem d_JL_indexOfChar_22 : decode b_JL_indexOfChar 22 = .ok (.iload 5, 2) := by decide +kernel
theorem d_JL_indexOfChar_24 : decode b_JL_indexOfChar 24 = .ok (.ireturn, 1) := by decide +kernel
theorem d_JL_indexOfChar_25 : decode b_JL_indexOfChar 25 = .ok (.iinc 5 1, 3) := by decide +kernel
theorem d_JL_indexOfChar_28 : decode b_JL_indexOfChar 28 = .ok (.goto (-21), 3) := by decide +kernel
theorem d_JL_indexOfChar_31 : decode b_JL_indexOfChar 31 = .ok (.iconst (-1), 1) := by decide +kernel
theorem d_JL_indexOfChar_32 : decode b_JL_indexOfChar 32 = .ok (.ireturn, 1) := by decide +kernel
def f_JL_indexOfChar_7 : Nat → XS → Nat → Int32 → Int32 → Int32 → Option (Int32)
  | 0, _, _, _, _, _ => none
  | n + 1, S, a0, a3, a4, a5 =>
    if a3 ≤ a5 then (some (-1 : Int32)) else (if a0 < xnl then (if ¬ (a5 < 0 ∨ xlen.getD a0 0 ≤ a5.toNatClampNeg) then (if ((xbyt.getD a0 []).getD a5.toNatClampNeg 0) = a4 then (some a5) else (f_JL_indexOfChar_7 n S a0 a3 a4 (a5 + (1 : Int32)))) else none) else none)
set_option maxHeartbeats 4000000 in
set_option maxRecDepth 100000 in
theorem k_JL_indexOfChar_7 (l : Launch) {p : Program} {e : Env} {s : State} {m : MethodId} {args : Array Value} {below : List Frame} {meth : Method} {c : Code} {D : va_G} {lay : Nat → Nat} {cA : Nat → ClassId} {adK adV : Nat → Nat} {s0 : State} (C : xB p s m args meth c R_JL b_JL_indexOfChar ((Option.some Jvm.ClassFile.FieldType.int)) 6) (E : xE D lay cA adK adV s0 s s.heap) : ∀ (n : Nat) (S : XS) (a0 : Nat) (a3 : Int32) (a4 : Int32) (a5 : Int32) (r : Int32) (_ : f_JL_indexOfChar_7 n S a0 a3 a4 a5 = some r) (H : Heap) (locs : List Loc) (ls : Array Slot), va_P D xcl (xw lay cA S) H → va_S (xI lay) s.heap H locs → lv_has ls 6 [(0, .ref (adV a0)), (3, .int a3), (4, .int a4), (5, .int a5)] → W p l e rm_JL_indexOfChar s m args below meth c H locs 0 0 (MQ below (xqi D lay cA r S) args s 0 0 (xI lay)) (F0 m 7 ls []) := by
  obtain ⟨hx, hb, hr, hml, hown, hts, hlk, hnh⟩ := id C
  have hK := E.K
  intro n
  induction n with
  | zero => intro S a0 a3 a4 a5 r h; rw [f_JL_indexOfChar_7] at h; cases h
  | succ n ih =>
    intro S a0 a3 a4 a5 r h H locs ls hP hS hl
    rw [f_JL_indexOfChar_7] at h
    refine lv_iload hx hb d_JL_indexOfChar_7 (lv_at hl 3 rfl) ?_
    refine lv_iload_n hx hb d_JL_indexOfChar_9 rfl (lv_at hl 1 rfl) ?_
    refine lv_icmp_ge (tgt := 31) hx hb d_JL_indexOfChar_10 (by decide) (fun c_4 => ?_) (fun c_4 => ?_)
    · have h := xif_t c_4 h
      refine lv_iconst (v := (-1 : Int32)) hx hb d_JL_indexOfChar_31 (by decide) ?_
      have h9 := Option.some.inj h
      subst h9
      exact W.iret (v := (-1 : Int32)) hx hb hr (fun t ht hW => ⟨⟨(-1 : Int32), (), rfl, rfl, by show va_P D xcl _ t.heap; rw [ht]; exact hP⟩, hS.F ht⟩) hS.2.2 d_JL_indexOfChar_32
    · have h := xif_f c_4 h
      refine lv_aload_n hx hb d_JL_indexOfChar_13 rfl (lv_at hl 0 rfl) ?_
      refine lv_iload hx hb d_JL_indexOfChar_14 (lv_at hl 3 rfl) ?_
      obtain ⟨hk1, h⟩ := xg h
      obtain ⟨hg2, h⟩ := xg h
      refine va_tb hx hb (E.str hk1).2.2.2 hS hg2 rfl d_JL_indexOfChar_16 ?_
      refine lv_iload hx hb d_JL_indexOfChar_17 (lv_at hl 2 rfl) ?_
      refine lv_icmp_ne (tgt := 25) hx hb d_JL_indexOfChar_19 (by decide) (fun c_3 => ?_) (fun c_3 => ?_)
      · have h := xif_f c_3 h
        refine lv_iinc (v := a5 + (1 : Int32)) (lv' := [(5, .int (a5 + (1 : Int32))), (0, .ref (adV a0)), (3, .int a3), (4, .int a4)]) hx hb d_JL_indexOfChar_25 hl (k := 3) rfl (by rfl) (by decide) rfl (fun ls hl => ?_)
        refine lv_goto (tgt := 7) hx hb d_JL_indexOfChar_28 (by decide) ?_
        exact ih S a0 a3 a4 (a5 + (1 : Int32)) _ h H locs ls hP hS (lv_sub hl [1, 2, 3, 0] rfl)
      · have h := xif_t c_3 h
        refine lv_iload hx hb d_JL_indexOfChar_22 (lv_at hl 3 rfl) ?_
        have h9 := Option.some.inj h
        subst h9
        exact W.iret (v := a5) hx hb hr (fun t ht hW => ⟨⟨a5, (), rfl, rfl, by show va_P D xcl _ t.heap; rw [ht]; exact hP⟩, hS.F ht⟩) hS.2.2 d_JL_indexOfChar_24
def f_JL_indexOfChar (S : XS) (a0 : Nat) (a1 : Int32) (a2 : Int32) (a3 : Int32) : Option (Int32) :=
  f_JL_indexOfChar_7 4096 S a0 a3 a1.toInt8.toInt32 a2
set_option maxHeartbeats 4000000 in
set_option maxRecDepth 100000 in
theorem k_JL_indexOfChar (l : Launch) {p : Program} {e : Env} {s : State} {m : MethodId} {args : Array Value} {below : List Frame} {meth : Method} {c : Code} {D : va_G} {lay : Nat → Nat} {cA : Nat → ClassId} {adK adV : Nat → Nat} {s0 : State} (C : xB p s m args meth c R_JL b_JL_indexOfChar ((Option.some Jvm.ClassFile.FieldType.int)) 6) (E : xE D lay cA adK adV s0 s s.heap) : ∀ (S : XS) (a0 : Nat) (a1 : Int32) (a2 : Int32) (a3 : Int32) (r : Int32) (_ : f_JL_indexOfChar S a0 a1 a2 a3 = some r) (H : Heap) (locs : List Loc) (ls : Array Slot), va_P D xcl (xw lay cA S) H → va_S (xI lay) s.heap H locs → lv_has ls 6 [(0, .ref (adV a0)), (1, .int a1), (2, .int a2), (3, .int a3)] → W p l e rm_JL_indexOfChar s m args below meth c H locs 0 0 (MQ below (xqi D lay cA r S) args s 0 0 (xI lay)) (F0 m 0 ls []) := by
  obtain ⟨hx, hb, hr, hml, hown, hts, hlk, hnh⟩ := id C
  have hK := E.K
  intro S a0 a1 a2 a3 r h H locs ls hP hS hl
  unfold f_JL_indexOfChar at h
  refine lv_iload_n hx hb d_JL_indexOfChar_0 rfl (lv_at hl 1 rfl) ?_
  refine lv_i2b (v := a1.toInt8.toInt32) hx hb d_JL_indexOfChar_1 rfl ?_
  refine lv_istore (lv' := [(4, .int a1.toInt8.toInt32), (0, .ref (adV a0)), (1, .int a1), (2, .int a2), (3, .int a3)]) hx hb d_JL_indexOfChar_2 hl (by decide) rfl (fun ls hl => ?_)
  refine lv_iload_n hx hb d_JL_indexOfChar_4 rfl (lv_at hl 3 rfl) ?_
  refine lv_istore (lv' := [(5, .int a2), (4, .int a1.toInt8.toInt32), (0, .ref (adV a0)), (1, .int a1), (2, .int a2), (3, .int a3)]) hx hb d_JL_indexOfChar_5 hl (by decide) rfl (fun ls hl => ?_)
  exact k_JL_indexOfChar_7 l C E 4096 S a0 a3 a1.toInt8.toInt32 a2 _ h H locs ls hP hS (lv_sub hl [2, 5, 1, 0] rfl)
theorem c_JL_indexOfChar (l : Launch) (D : va_G) (lay : Nat → Nat) (cA : Nat → ClassId) (adK adV : Nat → Nat) (s0 : State) (S : XS) (a0 : Nat) (a1 : Int32) (a2 : Int32) (a3 : Int32) (r : Int32) (h : f_JL_indexOfChar S a0 a1 a2 a3 = some r) : Met l y_JL_indexOfChar (.code y_JL_indexOfChar b_JL_indexOfChar 6 ((Option.some Jvm.ClassFile.FieldType.int)) :: xT) rm_JL_indexOfChar (xPc D lay cA adK adV s0 S [.ref (adV a0), .int a1, .int a2, .int a3]) (xqi D lay cA r S) 0 0 (xI lay) := by
  refine Met.ofW (cc := b_JL_indexOfChar) (maxL := 6) (ret := (Option.some Jvm.ClassFile.FieldType.int)) (by decide +kernel) rfl ?_
  intro p e s m args below meth c s₁ B hml hv
  obtain ⟨rfl, hP, E⟩ := hv
  have C := xB_of B hml
  have hl := lv_entry ([.ref (adV a0), .int a1, .int a2, .int a3]) (n := 6) (Nat.le_of_ble_eq_true rfl)
  rw [lg_entry_eq]
  generalize (lg_sl ([.ref (adV a0), .int a1, .int a2, .int a3]) ++ List.replicate (6 - (lg_sl ([.ref (adV a0), .int a1, .int a2, .int a3])).length) Slot.unset).toArray = ls at hl ⊢
  exact k_JL_indexOfChar l C E S a0 a1 a2 a3 r h s.heap [] ls hP va_S.rf hl
/-! java/lang/StringLatin1.indexOf([BIII)I -/
def rm_JL_indexOf : Room := { frames := 1, cells := 0, slots := 0, locals := 25 }
theorem d_JL_indexOf_0 : decode b_JL_indexOf 0 = .ok (.iload_n 1, 1) := by decide +kernel
theorem d_JL_indexOf_1 : decode b_JL_indexOf 1 = .ok (.invokestatic 88, 3) := by decide +kernel
theorem d_JL_indexOf_4 : decode b_JL_indexOf 4 = .ok (.ifCond .ne 5, 3) := by decide +kernel
theorem d_JL_indexOf_7 : decode b_JL_indexOf 7 = .ok (.iconst (-1), 1) := by decide +kernel
theorem d_JL_indexOf_8 : decode b_JL_indexOf 8 = .ok (.ireturn, 1) := by decide +kernel
theorem d_JL_indexOf_9 : decode b_JL_indexOf 9 = .ok (.iload_n 2, 1) := by decide +kernel
theorem d_JL_indexOf_10 : decode b_JL_indexOf 10 = .ok (.iconst 0, 1) := by decide +kernel
theorem d_JL_indexOf_11 : decode b_JL_indexOf 11 = .ok (.invokestatic 92, 3) := by decide +kernel
theorem d_JL_indexOf_14 : decode b_JL_indexOf 14 = .ok (.istore_n 2, 1) := by decide +kernel
theorem d_JL_indexOf_15 : decode b_JL_indexOf 15 = .ok (.iload_n 3, 1) := by decide +kernel
theorem d_JL_indexOf_16 : decode b_JL_indexOf 16 = .ok (.aload_n 0, 1) := by decide +kernel
theorem d_JL_indexOf_17 : decode b_JL_indexOf 17 = .ok (.arraylength, 1) := by decide +kernel
theorem d_JL_indexOf_18 : decode b_JL_indexOf 18 = .ok (.invokestatic 38, 3) := by decide +kernel
theorem d_JL_indexOf_21 : decode b_JL_indexOf 21 = .ok (.istore_n 3, 1) := by decide +kernel
theorem d_JL_indexOf_22 : decode b_JL_indexOf 22 = .ok (.iload_n 2, 1) := by decide +kernel
theorem d_JL_indexOf_23 : decode b_JL_indexOf 23 = .ok (.iload_n 3, 1) := by decide +kernel
theorem d_JL_indexOf_24 : decode b_JL_indexOf 24 = .ok (.if_icmp .lt 5, 3) := by decide +kernel
theorem d_JL_indexOf_27 : decode b_JL_indexOf 27 = .ok (.iconst (-1), 1) := by decide +kernel
theorem d_JL_indexOf_28 : decode b_JL_indexOf 28 = .ok (.ireturn, 1) := by decide +kernel
theorem d_JL_indexOf_29 : decode b_JL_indexOf 29 = .ok (.aload_n 0, 1) := by decide +kernel
theorem d_JL_indexOf_30 : decode b_JL_indexOf 30 = .ok (.iload_n 1, 1) := by decide +kernel
theorem d_JL_indexOf_31 : decode b_JL_indexOf 31 = .ok (.iload_n 2, 1) := by decide +kernel
theorem d_JL_indexOf_32 : decode b_JL_indexOf 32 = .ok (.iload_n 3, 1) := by decide +kernel
theorem d_JL_indexOf_33 : decode b_JL_indexOf 33 = .ok (.invokestatic 95, 3) := by decide +kernel
theorem d_JL_indexOf_36 : decode b_JL_indexOf 36 = .ok (.ireturn, 1) := by decide +kernel
def f_JL_indexOf (S : XS) (a0 : Nat) (a1 : Int32) (a2 : Int32) (a3 : Int32) : Option (Int32) :=
  (f_JL_canEncode S a1).bind fun q2 => if q2 = 0 then (some (-1 : Int32)) else (if a0 < xnl then (if (if a2 < (0 : Int32) then (0 : Int32) else a2) < (if (Int32.ofNat (xlen.getD a0 0)) < a3 then (Int32.ofNat (xlen.getD a0 0)) else a3) then ((f_JL_indexOfChar S a0 a1 (if a2 < (0 : Int32) then (0 : Int32) else a2) (if (Int32.ofNat (xlen.getD a0 0)) < a3 then (Int32.ofNat (xlen.getD a0 0)) else a3)).bind fun q5 => some q5) else (some (-1 : Int32))) else none)
set_option maxHeartbeats 4000000 in
set_option maxRecDepth 100000 in
theorem k_JL_indexOf (l : Launch) {p : Program} {e : Env} {s : State} {m : MethodId} {args : Array Value} {below : List Frame} {meth : Method} {c : Code} {D : va_G} {lay : Nat → Nat} {cA : Nat → ClassId} {adK adV : Nat → Nat} {s0 : State} (C : xB p s m args meth c R_JL b_JL_indexOf ((Option.some Jvm.ClassFile.FieldType.int)) 4) (E : xE D lay cA adK adV s0 s s.heap) : ∀ (S : XS) (a0 : Nat) (a1 : Int32) (a2 : Int32) (a3 : Int32) (r : Int32) (_ : f_JL_indexOf S a0 a1 a2 a3 = some r) (H : Heap) (locs : List Loc) (ls : Array Slot), va_P D xcl (xw lay cA S) H → va_S (xI lay) s.heap H locs → lv_has ls 4 [(0, .ref (adV a0)), (1, .int a1), (2, .int a2), (3, .int a3)] → W p l e rm_JL_indexOf s m args below meth c H locs 0 0 (MQ below (xqi D lay cA r S) args s 0 0 (xI lay)) (F0 m 0 ls []) := by
  obtain ⟨hx, hb, hr, hml, hown, hts, hlk, hnh⟩ := id C
  have hK := E.K
  intro S a0 a1 a2 a3 r h H locs ls hP hS hl
  unfold f_JL_indexOf at h
  refine lv_iload_n hx hb d_JL_indexOf_0 rfl (lv_at hl 1 rfl) ?_
  obtain ⟨q2, e1, h⟩ := xb h
  refine xc_i (va_runS (As := [.int a1]) (rest := []) ⟨hx, hb, hml, hown, hts⟩ (c_JL_canEncode l D lay cA adK adV s0 S a1 q2 e1) ⟨callB_of 1 hts (xT_I wd_319) rfl rfl rfl (hts _ wd_10) (hts _ wd_317) (by decide +kernel) ⟨Nat.le_of_ble_eq_true rfl, Nat.le_of_ble_eq_true rfl⟩, hts _ wd_318⟩ (xpS E hP hS) rfl rfl hl.1 rfl (lv_room (Nat.le_of_ble_eq_true rfl)) d_JL_indexOf_1 ⟨Nat.le_of_ble_eq_true rfl, Nat.le_of_ble_eq_true rfl⟩) hS (fun H locs hP hS => ?_)
  refine lv_if_ne (tgt := 9) hx hb d_JL_indexOf_4 (by decide) (fun c_7 => ?_) (fun c_7 => ?_)
  · have h := xif_f c_7 h
    refine lv_iload_n hx hb d_JL_indexOf_9 rfl (lv_at hl 2 rfl) ?_
    refine lv_iconst (v := (0 : Int32)) hx hb d_JL_indexOf_10 (by decide) ?_
    refine va_mmax hx hb (hml.trans hl.1.symm) hown (hts _ wd_320) (hts _ wd_321) (hts _ wd_8) (hts _ wd_322) (Nat.le_of_ble_eq_true rfl) (Nat.le_of_ble_eq_true rfl) (Nat.zero_le _) (Nat.zero_le _) d_JL_indexOf_11 ?_
    refine lv_istore_n (lv' := [(2, .int (if a2 < (0 : Int32) then (0 : Int32) else a2)), (0, .ref (adV a0)), (1, .int a1), (3, .int a3)]) hx hb d_JL_indexOf_14 rfl hl (by decide) rfl (fun ls hl => ?_)
    refine lv_iload_n hx hb d_JL_indexOf_15 rfl (lv_at hl 3 rfl) ?_
    refine lv_aload_n hx hb d_JL_indexOf_16 rfl (lv_at hl 1 rfl) ?_
    obtain ⟨hk3, h⟩ := xg h
    refine va_tlen hx hb (E.str hk3).2.2.2 hS rfl d_JL_indexOf_17 ?_
    refine va_mmin hx hb (hml.trans hl.1.symm) hown (hts _ wd_323) (hts _ wd_282) (hts _ wd_8) (hts _ wd_283) (Nat.le_of_ble_eq_true rfl) (Nat.le_of_ble_eq_true rfl) (Nat.zero_le _) (Nat.zero_le _) d_JL_indexOf_18 ?_
    refine lv_istore_n (lv' := [(3, .int (if (Int32.ofNat (xlen.getD a0 0)) < a3 then (Int32.ofNat (xlen.getD a0 0)) else a3)), (2, .int (if a2 < (0 : Int32) then (0 : Int32) else a2)), (0, .ref (adV a0)), (1, .int a1)]) hx hb d_JL_indexOf_21 rfl hl (by decide) rfl (fun ls hl => ?_)
    refine lv_iload_n hx hb d_JL_indexOf_22 rfl (lv_at hl 1 rfl) ?_
    refine lv_iload_n hx hb d_JL_indexOf_23 rfl (lv_at hl 0 rfl) ?_
    refine lv_icmp_lt (tgt := 29) hx hb d_JL_indexOf_24 (by decide) (fun c_6 => ?_) (fun c_6 => ?_)
    · have h := xif_t c_6 h
      refine lv_aload_n hx hb d_JL_indexOf_29 rfl (lv_at hl 2 rfl) ?_
      refine lv_iload_n hx hb d_JL_indexOf_30 rfl (lv_at hl 3 rfl) ?_
      refine lv_iload_n hx hb d_JL_indexOf_31 rfl (lv_at hl 1 rfl) ?_
      refine lv_iload_n hx hb d_JL_indexOf_32 rfl (lv_at hl 0 rfl) ?_
      obtain ⟨q5, e4, h⟩ := xb h
      refine xc_i (va_runS (As := [.ref (adV a0), .int a1, .int (if a2 < (0 : Int32) then (0 : Int32) else a2), .int (if (Int32.ofNat (xlen.getD a0 0)) < a3 then (Int32.ofNat (xlen.getD a0 0)) else a3)]) (rest := []) ⟨hx, hb, hml, hown, hts⟩ (c_JL_indexOfChar l D lay cA adK adV s0 S a0 a1 (if a2 < (0 : Int32) then (0 : Int32) else a2) (if (Int32.ofNat (xlen.getD a0 0)) < a3 then (Int32.ofNat (xlen.getD a0 0)) else a3) q5 e4) ⟨callB_of 4 hts (xT_I wd_326) rfl rfl rfl (hts _ wd_10) (hts _ wd_324) (by decide +kernel) ⟨Nat.le_of_ble_eq_true rfl, Nat.le_of_ble_eq_true rfl⟩, hts _ wd_325⟩ (xpS E hP hS) rfl rfl hl.1 rfl (lv_room (Nat.le_of_ble_eq_true rfl)) d_JL_indexOf_33 ⟨Nat.le_of_ble_eq_true rfl, Nat.le_of_ble_eq_true rfl⟩) hS (fun H locs hP hS => ?_)
      have h9 := Option.some.inj h
      subst h9
      exact W.iret (v := q5) hx hb hr (fun t ht hW => ⟨⟨q5, (), rfl, rfl, by show va_P D xcl _ t.heap; rw [ht]; exact hP⟩, hS.F ht⟩) hS.2.2 d_JL_indexOf_36
    · have h := xif_f c_6 h
      refine lv_iconst (v := (-1 : Int32)) hx hb d_JL_indexOf_27 (by decide) ?_
      have h9 := Option.some.inj h
      subst h9
      exact W.iret (v := (-1 : Int32)) hx hb hr (fun t ht hW => ⟨⟨(-1 : Int32), (), rfl, rfl, by show va_P D xcl _ t.heap; rw [ht]; exact hP⟩, hS.F ht⟩) hS.2.2 d_JL_indexOf_28
  · have h := xif_t c_7 h
    refine lv_iconst (v := (-1 : Int32)) hx hb d_JL_indexOf_7 (by decide) ?_
    have h9 := Option.some.inj h
    subst h9
    exact W.iret (v := (-1 : Int32)) hx hb hr (fun t ht hW => ⟨⟨(-1 : Int32), (), rfl, rfl, by show va_P D xcl _ t.heap; rw [ht]; exact hP⟩, hS.F ht⟩) hS.2.2 d_JL_indexOf_8
theorem c_JL_indexOf (l : Launch) (D : va_G) (lay : Nat → Nat) (cA : Nat → ClassId) (adK adV : Nat → Nat) (s0 : State) (S : XS) (a0 : Nat) (a1 : Int32) (a2 : Int32) (a3 : Int32) (r : Int32) (h : f_JL_indexOf S a0 a1 a2 a3 = some r) : Met l y_JL_indexOf (.code y_JL_indexOf b_JL_indexOf 4 ((Option.some Jvm.ClassFile.FieldType.int)) :: xT) rm_JL_indexOf (xPc D lay cA adK adV s0 S [.ref (adV a0), .int a1, .int a2, .int a3]) (xqi D lay cA r S) 0 0 (xI lay) := by
  refine Met.ofW (cc := b_JL_indexOf) (maxL := 4) (ret := (Option.some Jvm.ClassFile.FieldType.int)) (by decide +kernel) rfl ?_
  intro p e s m args below meth c s₁ B hml hv
  obtain ⟨rfl, hP, E⟩ := hv
  have C := xB_of B hml
  have hl := lv_entry ([.ref (adV a0), .int a1, .int a2, .int a3]) (n := 4) (Nat.le_of_ble_eq_true rfl)
  rw [lg_entry_eq]
  generalize (lg_sl ([.ref (adV a0), .int a1, .int a2, .int a3]) ++ List.replicate (4 - (lg_sl ([.ref (adV a0), .int a1, .int a2, .int a3])).length) Slot.unset).toArray = ls at hl ⊢
  exact k_JL_indexOf l C E S a0 a1 a2 a3 r h s.heap [] ls hP va_S.rf hl
/-! java/lang/String.indexOf(II)I -/
def rm_JS_indexOf0 : Room := { frames := 2, cells := 0, slots := 0, locals := 48 }
theorem d_JS_indexOf0_0 : decode b_JS_indexOf0 0 = .ok (.aload_n 0, 1) := by decide +kernel
theorem d_JS_indexOf0_1 : decode b_JS_indexOf0 1 = .ok (.invokevirtual 492, 3) := by decide +kernel
theorem d_JS_indexOf0_4 : decode b_JS_indexOf0 4 = .ok (.ifCond .eq 19, 3) := by decide +kernel
theorem d_JS_indexOf0_7 : decode b_JS_indexOf0 7 = .ok (.aload_n 0, 1) := by decide +kernel
theorem d_JS_indexOf0_8 : decode b_JS_indexOf0 8 = .ok (.getfield 9, 3) := by decide +kernel
theorem d_JS_indexOf0_11 : decode b_JS_indexOf0 11 = .ok (.iload_n 1, 1) := by decide +kernel
theorem d_JS_indexOf0_12 : decode b_JS_indexOf0 12 = .ok (.iload_n 2, 1) := by decide +kernel
theorem d_JS_indexOf0_13 : decode b_JS_indexOf0 13 = .ok (.aload_n 0, 1) := by decide +kernel
theorem d_JS_indexOf0_14 : decode b_JS_indexOf0 14 = .ok (.invokevirtual 505, 3) := by decide +kernel
theorem d_JS_indexOf0_17 : decode b_JS_indexOf0 17 = .ok (.invokestatic 637, 3) := by decide +kernel
theorem d_JS_indexOf0_20 : decode b_JS_indexOf0 20 = .ok (.goto 16, 3) := by decide +kernel
theorem d_JS_indexOf0_23 : decode b_JS_indexOf0 23 = .ok (.aload_n 0, 1) := by decide +kernel
theorem d_JS_indexOf0_24 : decode b_JS_indexOf0 24 = .ok (.getfield 9, 3) := by decide +kernel
theorem d_JS_indexOf0_27 : decode b_JS_indexOf0 27 = .ok (.iload_n 1, 1) := by decide +kernel
theorem d_JS_indexOf0_28 : decode b_JS_indexOf0 28 = .ok (.iload_n 2, 1) := by decide +kernel
theorem d_JS_indexOf0_29 : decode b_JS_indexOf0 29 = .ok (.aload_n 0, 1) := by decide +kernel
theorem d_JS_indexOf0_30 : decode b_JS_indexOf0 30 = .ok (.invokevirtual 505, 3) := by decide +kernel
theorem d_JS_indexOf0_33 : decode b_JS_indexOf0 33 = .ok (.invokestatic 640, 3) := by decide +kernel
theorem d_JS_indexOf0_36 : decode b_JS_indexOf0 36 = .ok (.ireturn, 1) := by decide +kernel
def f_JS_indexOf0 (S : XS) (a0 : Nat) (a1 : Int32) (a2 : Int32) : Option (Int32) :=
  if a0 < xnl then ((f_JS_isLatin1 S a0).bind fun q3 => if q3 = 0 then ((f_JS_length S a0).bind fun q5 => none) else ((f_JS_length S a0).bind fun q7 => (f_JL_indexOf S a0 a1 a2 q7).bind fun q9 => some q9)) else none
set_option maxHeartbeats 4000000 in
set_option maxRecDepth 100000 in
theorem k_JS_indexOf0 (l : Launch) {p : Program} {e : Env} {s : State} {m : MethodId} {args : Array Value} {below : List Frame} {meth : Method} {c : Code} {D : va_G} {lay : Nat → Nat} {cA : Nat → ClassId} {adK adV : Nat → Nat} {s0 : State} (C : xB p s m args meth c R_JS b_JS_indexOf0 ((Option.some Jvm.ClassFile.FieldType.int)) 3) (E : xE D lay cA adK adV s0 s s.heap) : ∀ (S : XS) (a0 : Nat) (a1 : Int32) (a2 : Int32) (r : Int32) (_ : f_JS_indexOf0 S a0 a1 a2 = some r) (H : Heap) (locs : List Loc) (ls : Array Slot), va_P D xcl (xw lay cA S) H → va_S (xI lay) s.heap H locs → lv_has ls 3 [(0, .ref (adK a0)), (1, .int a1), (2, .int a2)] → W p l e rm_JS_indexOf0 s m args below meth c H locs 0 0 (MQ below (xqi D lay cA r S) args s 0 0 (xI lay)) (F0 m 0 ls []) := by
  obtain ⟨hx, hb, hr, hml, hown, hts, hlk, hnh⟩ := id C
  have hK := E.K
  intro S a0 a1 a2 r h H locs ls hP hS hl
  unfold f_JS_indexOf0 at h
  refine lv_aload_n hx hb d_JS_indexOf0_0 rfl (lv_at hl 0 rfl) ?_
  obtain ⟨hk1, h⟩ := xg h
  obtain ⟨q3, e2, h⟩ := xb h
  refine xc_i (va_runV (As := []) (rest := []) ⟨hx, hb, hml, hown, hts⟩ (c_JS_isLatin1 l D lay cA adK adV s0 S a0 q3 e2) (cwV 0 hts (xT_V wd_300 wd_301 wd_302 wd_9 wd_303) rfl rfl rfl (by decide +kernel) ⟨Nat.le_of_ble_eq_true rfl, Nat.le_of_ble_eq_true rfl⟩) (xpT E hP hS hk1 rfl) rfl rfl hl.1 rfl (lv_room (Nat.le_of_ble_eq_true rfl)) d_JS_indexOf0_1 ⟨Nat.le_of_ble_eq_true rfl, Nat.le_of_ble_eq_true rfl⟩) hS (fun H locs hP hS => ?_)
  refine lv_if_eq (tgt := 23) hx hb d_JS_indexOf0_4 (by decide) (fun c_10 => ?_) (fun c_10 => ?_)
  · have h := xif_t c_10 h
    refine lv_aload_n hx hb d_JS_indexOf0_23 rfl (lv_at hl 0 rfl) ?_
    refine vk_getf hx hb (E.str hk1).2.2.1 hS hown (hts _ wd_1025) (fun _ h9 => h9) d_JS_indexOf0_24 ?_
    refine lv_iload_n hx hb d_JS_indexOf0_27 rfl (lv_at hl 1 rfl) ?_
    refine lv_iload_n hx hb d_JS_indexOf0_28 rfl (lv_at hl 2 rfl) ?_
    refine lv_aload_n hx hb d_JS_indexOf0_29 rfl (lv_at hl 0 rfl) ?_
    obtain ⟨q5, e4, h⟩ := xb h
    refine xc_i (va_runV (As := []) (rest := [.int a2, .int a1, .ref (adV a0)]) ⟨hx, hb, hml, hown, hts⟩ (c_JS_length l D lay cA adK adV s0 S a0 q5 e4) (cwV 0 hts (xT_V wd_306 wd_307 wd_308 wd_9 wd_309) rfl rfl rfl (by decide +kernel) ⟨Nat.le_of_ble_eq_true rfl, Nat.le_of_ble_eq_true rfl⟩) (xpT E hP hS hk1 rfl) rfl rfl hl.1 rfl (lv_room (Nat.le_of_ble_eq_true rfl)) d_JS_indexOf0_30 ⟨Nat.le_of_ble_eq_true rfl, Nat.le_of_ble_eq_true rfl⟩) hS (fun H locs hP hS => ?_)
    cases h
  · have h := xif_f c_10 h
    refine lv_aload_n hx hb d_JS_indexOf0_7 rfl (lv_at hl 0 rfl) ?_
    refine vk_getf hx hb (E.str hk1).2.2.1 hS hown (hts _ wd_1025) (fun _ h9 => h9) d_JS_indexOf0_8 ?_
    refine lv_iload_n hx hb d_JS_indexOf0_11 rfl (lv_at hl 1 rfl) ?_
    refine lv_iload_n hx hb d_JS_indexOf0_12 rfl (lv_at hl 2 rfl) ?_
    refine lv_aload_n hx hb d_JS_indexOf0_13 rfl (lv_at hl 0 rfl) ?_
    obtain ⟨q7, e6, h⟩ := xb h
    refine xc_i (va_runV (As := []) (rest := [.int a2, .int a1, .ref (adV a0)]) ⟨hx, hb, hml, hown, hts⟩ (c_JS_length l D lay cA adK adV s0 S a0 q7 e6) (cwV 0 hts (xT_V wd_306 wd_307 wd_308 wd_9 wd_309) rfl rfl rfl (by decide +kernel) ⟨Nat.le_of_ble_eq_true rfl, Nat.le_of_ble_eq_true rfl⟩) (xpT E hP hS hk1 rfl) rfl rfl hl.1 rfl (lv_room (Nat.le_of_ble_eq_true rfl)) d_JS_indexOf0_14 ⟨Nat.le_of_ble_eq_true rfl, Nat.le_of_ble_eq_true rfl⟩) hS (fun H locs hP hS => ?_)
    obtain ⟨q9, e8, h⟩ := xb h
    refine xc_i (va_runS (As := [.ref (adV a0), .int a1, .int a2, .int q7]) (rest := []) ⟨hx, hb, hml, hown, hts⟩ (c_JL_indexOf l D lay cA adK adV s0 S a0 a1 a2 q7 q9 e8) ⟨callB_of 4 hts (xT_I wd_316) rfl rfl rfl (hts _ wd_10) (hts _ wd_314) (by decide +kernel) ⟨Nat.le_of_ble_eq_true rfl, Nat.le_of_ble_eq_true rfl⟩, hts _ wd_315⟩ (xpS E hP hS) rfl rfl hl.1 rfl (lv_room (Nat.le_of_ble_eq_true rfl)) d_JS_indexOf0_17 ⟨Nat.le_of_ble_eq_true rfl, Nat.le_of_ble_eq_true rfl⟩) hS (fun H locs hP hS => ?_)
    refine lv_goto (tgt := 36) hx hb d_JS_indexOf0_20 (by decide) ?_
    have h9 := Option.some.inj h
    subst h9
    exact W.iret (v := q9) hx hb hr (fun t ht hW => ⟨⟨q9, (), rfl, rfl, by show va_P D xcl _ t.heap; rw [ht]; exact hP⟩, hS.F ht⟩) hS.2.2 d_JS_indexOf0_36
theorem c_JS_indexOf0 (l : Launch) (D : va_G) (lay : Nat → Nat) (cA : Nat → ClassId) (adK adV : Nat → Nat) (s0 : State) (S : XS) (a0 : Nat) (a1 : Int32) (a2 : Int32) (r : Int32) (h : f_JS_indexOf0 S a0 a1 a2 = some r) : Met l y_JS_indexOf0 (.code y_JS_indexOf0 b_JS_indexOf0 3 ((Option.some Jvm.ClassFile.FieldType.int)) :: xT) rm_JS_indexOf0 (xPc D lay cA adK adV s0 S [.ref (adK a0), .int a1, .int a2]) (xqi D lay cA r S) 0 0 (xI lay) := by
  refine Met.ofW (cc := b_JS_indexOf0) (maxL := 3) (ret := (Option.some Jvm.ClassFile.FieldType.int)) (by decide +kernel) rfl ?_
  intro p e s m args below meth c s₁ B hml hv
  obtain ⟨rfl, hP, E⟩ := hv
  have C := xB_of B hml
  have hl := lv_entry ([.ref (adK a0), .int a1, .int a2]) (n := 3) (Nat.le_of_ble_eq_true rfl)
  rw [lg_entry_eq]
  generalize (lg_sl ([.ref (adK a0), .int a1, .int a2]) ++ List.replicate (3 - (lg_sl ([.ref (adK a0), .int a1, .int a2])).length) Slot.unset).toArray = ls at hl ⊢
  exact k_JS_indexOf0 l C E S a0 a1 a2 r h s.heap [] ls hP va_S.rf hl
/-! java/lang/String.indexOf(I)I -/
def rm_JS_indexOf1 : Room := { frames := 3, cells := 0, slots := 0, locals := 70 }
theorem d_JS_indexOf1_0 : decode b_JS_indexOf1 0 = .ok (.aload_n 0, 1) := by decide +kernel
theorem d_JS_indexOf1_1 : decode b_JS_indexOf1 1 = .ok (.iload_n 1, 1) := by decide +kernel
theorem d_JS_indexOf1_2 : decode b_JS_indexOf1 2 = .ok (.iconst 0, 1) := by decide +kernel
theorem d_JS_indexOf1_3 : decode b_JS_indexOf1 3 = .ok (.invokevirtual 633, 3) := by decide +kernel
theorem d_JS_indexOf1_6 : decode b_JS_indexOf1 6 = .ok (.ireturn, 1) := by decide +kernel
def f_JS_indexOf1 (S : XS) (a0 : Nat) (a1 : Int32) : Option (Int32) :=
  if a0 < xnl then ((f_JS_indexOf0 S a0 a1 (0 : Int32)).bind fun q3 => some q3) else none
set_option maxHeartbeats 4000000 in
set_option maxRecDepth 100000 in
theorem k_JS_indexOf1 (l : Launch) {p : Program} {e : Env} {s : State} {m : MethodId} {args : Array Value} {below : List Frame} {meth : Method} {c : Code} {D : va_G} {lay : Nat → Nat} {cA : Nat → ClassId} {adK adV : Nat → Nat} {s0 : State} (C : xB p s m args meth c R_JS b_JS_indexOf1 ((Option.some Jvm.ClassFile.FieldType.int)) 2) (E : xE D lay cA adK adV s0 s s.heap) : ∀ (S : XS) (a0 : Nat) (a1 : Int32) (r : Int32) (_ : f_JS_indexOf1 S a0 a1 = some r) (H : Heap) (locs : List Loc) (ls : Array Slot), va_P D xcl (xw lay cA S) H → va_S (xI lay) s.heap H locs → lv_has ls 2 [(0, .ref (adK a0)), (1, .int a1)] → W p l e rm_JS_indexOf1 s m args below meth c H locs 0 0 (MQ below (xqi D lay cA r S) args s 0 0 (xI lay)) (F0 m 0 ls []) := by
  obtain ⟨hx, hb, hr, hml, hown, hts, hlk, hnh⟩ := id C
  have hK := E.K
  intro S a0 a1 r h H locs ls hP hS hl
  unfold f_JS_indexOf1 at h
  refine lv_aload_n hx hb d_JS_indexOf1_0 rfl (lv_at hl 0 rfl) ?_
  refine lv_iload_n hx hb d_JS_indexOf1_1 rfl (lv_at hl 1 rfl) ?_
  refine lv_iconst (v := (0 : Int32)) hx hb d_JS_indexOf1_2 (by decide) ?_
  obtain ⟨hk1, h⟩ := xg h
  obtain ⟨q3, e2, h⟩ := xb h
  refine xc_i (va_runV (As := [.int a1, .int (0 : Int32)]) (rest := []) ⟨hx, hb, hml, hown, hts⟩ (c_JS_indexOf0 l D lay cA adK adV s0 S a0 a1 (0 : Int32) q3 e2) (cwV 2 hts (xT_V wd_296 wd_297 wd_298 wd_9 wd_299) rfl rfl rfl (by decide +kernel) ⟨Nat.le_of_ble_eq_true rfl, Nat.le_of_ble_eq_true rfl⟩) (xpT E hP hS hk1 rfl) rfl rfl hl.1 rfl (lv_room (Nat.le_of_ble_eq_true rfl)) d_JS_indexOf1_3 ⟨Nat.le_of_ble_eq_true rfl, Nat.le_of_ble_eq_true rfl⟩) hS (fun H locs hP hS => ?_)
  have h9 := Option.some.inj h
  subst h9
  exact W.iret (v := q3) hx hb hr (fun t ht hW => ⟨⟨q3, (), rfl, rfl, by show va_P D xcl _ t.heap; rw [ht]; exact hP⟩, hS.F ht⟩) hS.2.2 d_JS_indexOf1_6
theorem c_JS_indexOf1 (l : Launch) (D : va_G) (lay : Nat → Nat) (cA : Nat → ClassId) (adK adV : Nat → Nat) (s0 : State) (S : XS) (a0 : Nat) (a1 : Int32) (r : Int32) (h : f_JS_indexOf1 S a0 a1 = some r) : Met l y_JS_indexOf1 (.code y_JS_indexOf1 b_JS_indexOf1 2 ((Option.some Jvm.ClassFile.FieldType.int)) :: xT) rm_JS_indexOf1 (xPc D lay cA adK adV s0 S [.ref (adK a0), .int a1]) (xqi D lay cA r S) 0 0 (xI lay) := by
  refine Met.ofW (cc := b_JS_indexOf1) (maxL := 2) (ret := (Option.some Jvm.ClassFile.FieldType.int)) (by decide +kernel) rfl ?_
  intro p e s m args below meth c s₁ B hml hv
  obtain ⟨rfl, hP, E⟩ := hv
  have C := xB_of B hml
  have hl := lv_entry ([.ref (adK a0), .int a1]) (n := 2) (Nat.le_of_ble_eq_true rfl)
  rw [lg_entry_eq]
  generalize (lg_sl ([.ref (adK a0), .int a1]) ++ List.replicate (2 - (lg_sl ([.ref (adK a0), .int a1])).length) Slot.unset).toArray = ls at hl ⊢
  exact k_JS_indexOf1 l C E S a0 a1 r h s.heap [] ls hP va_S.rf hl
