/-! ConfigTexts$Words.kindOf(B)I -/
def rm_WO_kindOf : Room := { frames := 4, cells := 0, slots := 0, locals := 91 }
theorem d_WO_kindOf_0 : decode b_WO_kindOf 0 = .ok (.iload_n 0, 1) := by decide +kernel
theorem d_WO_kindOf_1 : decode b_WO_kindOf 1 = .ok (.bipush 97, 2) := by decide +kernel
theorem d_WO_kindOf_3 : decode b_WO_kindOf 3 = .ok (.if_icmp .lt 11, 3) := by decide +kernel
theorem d_WO_kindOf_6 : decode b_WO_kindOf 6 = .ok (.iload_n 0, 1) := by decide +kernel
theorem d_WO_kindOf_7 : decode b_WO_kindOf 7 = .ok (.bipush 122, 2) := by decide +kernel
theorem d_WO_kindOf_9 : decode b_WO_kindOf 9 = .ok (.if_icmp .gt 5, 3) := by decide +kernel
theorem d_WO_kindOf_12 : decode b_WO_kindOf 12 = .ok (.iconst 1, 1) := by decide +kernel
theorem d_WO_kindOf_13 : decode b_WO_kindOf 13 = .ok (.ireturn, 1) := by decide +kernel
theorem d_WO_kindOf_14 : decode b_WO_kindOf 14 = .ok (.iload_n 0, 1) := by decide +kernel
theorem d_WO_kindOf_15 : decode b_WO_kindOf 15 = .ok (.bipush 48, 2) := by decide +kernel
theorem d_WO_kindOf_17 : decode b_WO_kindOf 17 = .ok (.if_icmp .lt 11, 3) := by decide +kernel
theorem d_WO_kindOf_20 : decode b_WO_kindOf 20 = .ok (.iload_n 0, 1) := by decide +kernel
theorem d_WO_kindOf_21 : decode b_WO_kindOf 21 = .ok (.bipush 57, 2) := by decide +kernel
theorem d_WO_kindOf_23 : decode b_WO_kindOf 23 = .ok (.if_icmp .gt 5, 3) := by decide +kernel
theorem d_WO_kindOf_26 : decode b_WO_kindOf 26 = .ok (.iconst 2, 1) := by decide +kernel
theorem d_WO_kindOf_27 : decode b_WO_kindOf 27 = .ok (.ireturn, 1) := by decide +kernel
theorem d_WO_kindOf_28 : decode b_WO_kindOf 28 = .ok (.ldc 64, 2) := by decide +kernel
theorem d_WO_kindOf_30 : decode b_WO_kindOf 30 = .ok (.iload_n 0, 1) := by decide +kernel
theorem d_WO_kindOf_31 : decode b_WO_kindOf 31 = .ok (.sipush 255, 3) := by decide +kernel
theorem d_WO_kindOf_34 : decode b_WO_kindOf 34 = .ok (.iand, 1) := by decide +kernel
theorem d_WO_kindOf_35 : decode b_WO_kindOf 35 = .ok (.i2c, 1) := by decide +kernel
theorem d_WO_kindOf_36 : decode b_WO_kindOf 36 = .ok (.invokevirtual 66, 3) := by decide +kernel
theorem d_WO_kindOf_39 : decode b_WO_kindOf 39 = .ok (.ifCond .lt 7, 3) := by decide +kernel
theorem d_WO_kindOf_42 : decode b_WO_kindOf 42 = .ok (.iconst 3, 1) := by decide +kernel
theorem d_WO_kindOf_43 : decode b_WO_kindOf 43 = .ok (.goto 4, 3) := by decide +kernel
theorem d_WO_kindOf_46 : decode b_WO_kindOf 46 = .ok (.iconst 4, 1) := by decide +kernel
theorem d_WO_kindOf_47 : decode b_WO_kindOf 47 = .ok (.ireturn, 1) := by decide +kernel
def f_WO_kindOf_28 (S : XS) (a0 : Int32) : Option (Int32) :=
  (f_JS_indexOf1 S 0 (((a0 &&& (255 : Int32)).toUInt32 % 65536).toInt32)).bind fun q6 => if q6 < 0 then (some (4 : Int32)) else (some (3 : Int32))
set_option maxHeartbeats 4000000 in
set_option maxRecDepth 100000 in
theorem k_WO_kindOf_28 (l : Launch) {p : Program} {e : Env} {s : State} {m : MethodId} {args : Array Value} {below : List Frame} {meth : Method} {c : Code} {D : va_G} {lay : Nat → Nat} {cA : Nat → ClassId} {adK adV : Nat → Nat} {s0 : State} (C : xB p s m args meth c R_WO b_WO_kindOf ((Option.some Jvm.ClassFile.FieldType.int)) 1) (E : xE D lay cA adK adV s0 s s.heap) : ∀ (S : XS) (a0 : Int32) (r : Int32) (_ : f_WO_kindOf_28 S a0 = some r) (H : Heap) (locs : List Loc) (ls : Array Slot), va_P D xcl (xw lay cA S) H → va_S (xI lay) s.heap H locs → lv_has ls 1 [(0, .int a0)] → W p l e rm_WO_kindOf s m args below meth c H locs 0 0 (MQ below (xqi D lay cA r S) args s 0 0 (xI lay)) (F0 m 28 ls []) := by
  obtain ⟨hx, hb, hr, hml, hown, hts, hlk, hnh⟩ := id C
  have hK := E.K
  intro S a0 r h H locs ls hP hS hl
  unfold f_WO_kindOf_28 at h
  refine va_ldcS hx hb hown (E.lit (List.mem_of_getElem? (i := 0) rfl : ("ConfigTexts$Words", 64, "{};:.,>", 0) ∈ xlits)) d_WO_kindOf_28 ?_
  refine lv_iload_n hx hb d_WO_kindOf_30 rfl (lv_at hl 0 rfl) ?_
  refine lv_sipush (v := (255 : Int32)) hx hb d_WO_kindOf_31 (by decide) ?_
  refine lv_iand hx hb d_WO_kindOf_34 ?_
  refine lv_i2c (v := ((a0 &&& (255 : Int32)).toUInt32 % 65536).toInt32) hx hb d_WO_kindOf_35 rfl ?_
  obtain ⟨q6, e5, h⟩ := xb h
  refine xc_i (va_runV (As := [.int (((a0 &&& (255 : Int32)).toUInt32 % 65536).toInt32)]) (rest := []) ⟨hx, hb, hml, hown, hts⟩ (c_JS_indexOf1 l D lay cA adK adV s0 S 0 (((a0 &&& (255 : Int32)).toUInt32 % 65536).toInt32) q6 e5) (cwV 1 hts (xT_V wd_292 wd_293 wd_294 wd_9 wd_295) rfl rfl rfl (by decide +kernel) ⟨Nat.le_of_ble_eq_true rfl, Nat.le_of_ble_eq_true rfl⟩) (xpT E hP hS (by decide : 0 < xnl) rfl) rfl rfl hl.1 rfl (lv_room (Nat.le_of_ble_eq_true rfl)) d_WO_kindOf_36 ⟨Nat.le_of_ble_eq_true rfl, Nat.le_of_ble_eq_true rfl⟩) hS (fun H locs hP hS => ?_)
  refine lv_if_lt (tgt := 46) hx hb d_WO_kindOf_39 (by decide) (fun c_7 => ?_) (fun c_7 => ?_)
  · have h := xif_t c_7 h
    refine lv_iconst (v := (4 : Int32)) hx hb d_WO_kindOf_46 (by decide) ?_
    have h9 := Option.some.inj h
    subst h9
    exact W.iret (v := (4 : Int32)) hx hb hr (fun t ht hW => ⟨⟨(4 : Int32), (), rfl, rfl, by show va_P D xcl _ t.heap; rw [ht]; exact hP⟩, hS.F ht⟩) hS.2.2 d_WO_kindOf_47
  · have h := xif_f c_7 h
    refine lv_iconst (v := (3 : Int32)) hx hb d_WO_kindOf_42 (by decide) ?_
    refine lv_goto (tgt := 47) hx hb d_WO_kindOf_43 (by decide) ?_
    have h9 := Option.some.inj h
    subst h9
    exact W.iret (v := (3 : Int32)) hx hb hr (fun t ht hW => ⟨⟨(3 : Int32), (), rfl, rfl, by show va_P D xcl _ t.heap; rw [ht]; exact hP⟩, hS.F ht⟩) hS.2.2 d_WO_kindOf_47
def f_WO_kindOf_14 (S : XS) (a0 : Int32) : Option (Int32) :=
  if a0 < (48 : Int32) then (f_WO_kindOf_28 S a0) else (if (57 : Int32) < a0 then (f_WO_kindOf_28 S a0) else (some (2 : Int32)))
set_option maxHeartbeats 4000000 in
set_option maxRecDepth 100000 in
theorem k_WO_kindOf_14 (l : Launch) {p : Program} {e : Env} {s : State} {m : MethodId} {args : Array Value} {below : List Frame} {meth : Method} {c : Code} {D : va_G} {lay : Nat → Nat} {cA : Nat → ClassId} {adK adV : Nat → Nat} {s0 : State} (C : xB p s m args meth c R_WO b_WO_kindOf ((Option.some Jvm.ClassFile.FieldType.int)) 1) (E : xE D lay cA adK adV s0 s s.heap) : ∀ (S : XS) (a0 : Int32) (r : Int32) (_ : f_WO_kindOf_14 S a0 = some r) (H : Heap) (locs : List Loc) (ls : Array Slot), va_P D xcl (xw lay cA S) H → va_S (xI lay) s.heap H locs → lv_has ls 1 [(0, .int a0)] → W p l e rm_WO_kindOf s m args below meth c H locs 0 0 (MQ below (xqi D lay cA r S) args s 0 0 (xI lay)) (F0 m 14 ls []) := by
  obtain ⟨hx, hb, hr, hml, hown, hts, hlk, hnh⟩ := id C
  have hK := E.K
  intro S a0 r h H locs ls hP hS hl
  unfold f_WO_kindOf_14 at h
  refine lv_iload_n hx hb d_WO_kindOf_14 rfl (lv_at hl 0 rfl) ?_
  refine lv_bipush (v := (48 : Int32)) hx hb d_WO_kindOf_15 (by decide) ?_
  refine lv_icmp_lt (tgt := 28) hx hb d_WO_kindOf_17 (by decide) (fun c_4 => ?_) (fun c_4 => ?_)
  · have h := xif_t c_4 h
    exact k_WO_kindOf_28 l C E S a0 _ h H locs ls hP hS hl
  · have h := xif_f c_4 h
    refine lv_iload_n hx hb d_WO_kindOf_20 rfl (lv_at hl 0 rfl) ?_
    refine lv_bipush (v := (57 : Int32)) hx hb d_WO_kindOf_21 (by decide) ?_
    refine lv_icmp_gt (tgt := 28) hx hb d_WO_kindOf_23 (by decide) (fun c_3 => ?_) (fun c_3 => ?_)
    · have h := xif_t c_3 h
      exact k_WO_kindOf_28 l C E S a0 _ h H locs ls hP hS hl
    · have h := xif_f c_3 h
      refine lv_iconst (v := (2 : Int32)) hx hb d_WO_kindOf_26 (by decide) ?_
      have h9 := Option.some.inj h
      subst h9
      exact W.iret (v := (2 : Int32)) hx hb hr (fun t ht hW => ⟨⟨(2 : Int32), (), rfl, rfl, by show va_P D xcl _ t.heap; rw [ht]; exact hP⟩, hS.F ht⟩) hS.2.2 d_WO_kindOf_27
def f_WO_kindOf (S : XS) (a0 : Int32) : Option (Int32) :=
  if a0 < (97 : Int32) then (f_WO_kindOf_14 S a0) else (if (122 : Int32) < a0 then (f_WO_kindOf_14 S a0) else (some (1 : Int32)))
set_option maxHeartbeats 4000000 in
set_option maxRecDepth 100000 in
theorem k_WO_kindOf (l : Launch) {p : Program} {e : Env} {s : State} {m : MethodId} {args : Array Value} {below : List Frame} {meth : Method} {c : Code} {D : va_G} {lay : Nat → Nat} {cA : Nat → ClassId} {adK adV : Nat → Nat} {s0 : State} (C : xB p s m args meth c R_WO b_WO_kindOf ((Option.some Jvm.ClassFile.FieldType.int)) 1) (E : xE D lay cA adK adV s0 s s.heap) : ∀ (S : XS) (a0 : Int32) (r : Int32) (_ : f_WO_kindOf S a0 = some r) (H : Heap) (locs : List Loc) (ls : Array Slot), va_P D xcl (xw lay cA S) H → va_S (xI lay) s.heap H locs → lv_has ls 1 [(0, .int a0)] → W p l e rm_WO_kindOf s m args below meth c H locs 0 0 (MQ below (xqi D lay cA r S) args s 0 0 (xI lay)) (F0 m 0 ls []) := by
  obtain ⟨hx, hb, hr, hml, hown, hts, hlk, hnh⟩ := id C
  have hK := E.K
  intro S a0 r h H locs ls hP hS hl
  unfold f_WO_kindOf at h
  refine lv_iload_n hx hb d_WO_kindOf_0 rfl (lv_at hl 0 rfl) ?_
  refine lv_bipush (v := (97 : Int32)) hx hb d_WO_kindOf_1 (by decide) ?_
  refine lv_icmp_lt (tgt := 14) hx hb d_WO_kindOf_3 (by decide) (fun c_2 => ?_) (fun c_2 => ?_)
  · have h := xif_t c_2 h
    exact k_WO_kindOf_14 l C E S a0 _ h H locs ls hP hS hl
  · have h := xif_f c_2 h
    refine lv_iload_n hx hb d_WO_kindOf_6 rfl (lv_at hl 0 rfl) ?_
    refine lv_bipush (v := (122 : Int32)) hx hb d_WO_kindOf_7 (by decide) ?_
    refine lv_icmp_gt (tgt := 14) hx hb d_WO_kindOf_9 (by decide) (fun c_1 => ?_) (fun c_1 => ?_)
    · have h := xif_t c_1 h
      exact k_WO_kindOf_14 l C E S a0 _ h H locs ls hP hS hl
    · have h := xif_f c_1 h
      refine lv_iconst (v := (1 : Int32)) hx hb d_WO_kindOf_12 (by decide) ?_
      have h9 := Option.some.inj h
      subst h9
      exact W.iret (v := (1 : Int32)) hx hb hr (fun t ht hW => ⟨⟨(1 : Int32), (), rfl, rfl, by show va_P D xcl _ t.heap; rw [ht]; exact hP⟩, hS.F ht⟩) hS.2.2 d_WO_kindOf_13
theorem c_WO_kindOf (l : Launch) (D : va_G) (lay : Nat → Nat) (cA : Nat → ClassId) (adK adV : Nat → Nat) (s0 : State) (S : XS) (a0 : Int32) (r : Int32) (h : f_WO_kindOf S a0 = some r) : Met l y_WO_kindOf (.code y_WO_kindOf b_WO_kindOf 1 ((Option.some Jvm.ClassFile.FieldType.int)) :: xT) rm_WO_kindOf (xPc D lay cA adK adV s0 S [.int a0]) (xqi D lay cA r S) 0 0 (xI lay) := by
  refine Met.ofW (cc := b_WO_kindOf) (maxL := 1) (ret := (Option.some Jvm.ClassFile.FieldType.int)) (by decide +kernel) rfl ?_
  intro p e s m args below meth c s₁ B hml hv
  obtain ⟨rfl, hP, E⟩ := hv
  have C := xB_of B hml
  have hl := lv_entry ([.int a0]) (n := 1) (Nat.le_of_ble_eq_true rfl)
  rw [lg_entry_eq]
  generalize (lg_sl ([.int a0]) ++ List.replicate (1 - (lg_sl ([.int a0])).length) Slot.unset).toArray = ls at hl ⊢
  exact k_WO_kindOf l C E S a0 r h s.heap [] ls hP va_S.rf hl
/-! ConfigTexts$Words.spell()V -/
def rm_WO_spell : Room := { frames := 0, cells := 0, slots := 0, locals := 0 }
theorem d_WO_spell_0 : decode b_WO_spell 0 = .ok (.aload_n 0, 1) := by decide +kernel
theorem d_WO_spell_1 : decode b_WO_spell 1 = .ok (.lconst 0, 1) := by decide +kernel
theorem d_WO_spell_2 : decode b_WO_spell 2 = .ok (.putfield 72, 3) := by decide +kernel
theorem d_WO_spell_5 : decode b_WO_spell 5 = .ok (.aload_n 0, 1) := by decide +kernel
theorem d_WO_spell_6 : decode b_WO_spell 6 = .ok (.getfield 34, 3) := by decide +kernel
theorem d_WO_spell_9 : decode b_WO_spell 9 = .ok (.aload_n 0, 1) := by decide +kernel
theorem d_WO_spell_10 : decode b_WO_spell 10 = .ok (.getfield 31, 3) := by decide +kernel
theorem d_WO_spell_13 : decode b_WO_spell 13 = .ok (.if_icmp .ge 98, 3) := by decide +kernel
theorem d_WO_spell_16 : decode b_WO_spell 16 = .ok (.aload_n 0, 1) := by decide +kernel
theorem d_WO_spell_17 : decode b_WO_spell 17 = .ok (.getfield 9, 3) := by decide +kernel
theorem d_WO_spell_20 : decode b_WO_spell 20 = .ok (.aload_n 0, 1) := by decide +kernel
theorem d_WO_spell_21 : decode b_WO_spell 21 = .ok (.getfield 34, 3) := by decide +kernel
theorem d_WO_spell_24 : decode b_WO_spell 24 = .ok (.baload, 1) := by decide +kernel
theorem d_WO_spell_25 : decode b_WO_spell 25 = .ok (.istore_n 1, 1) := by decide +kernel
theorem d_WO_spell_26 : decode b_WO_spell 26 = .ok (.iload_n 1, 1) := by decide +kernel
theorem d_WO_spell_27 : decode b_WO_spell 27 = .ok (.bipush 97, 2) := by decide +kernel
theorem d_WO_spell_29 : decode b_WO_spell 29 = .ok (.if_icmp .lt 32, 3) := by decide +kernel
theorem d_WO_spell_32 : decode b_WO_spell 32 = .ok (.iload_n 1, 1) := by decide +kernel
theorem d_WO_spell_33 : decode b_WO_spell 33 = .ok (.bipush 122, 2) := by decide +kernel
theorem d_WO_spell_35 : decode b_WO_spell 35 = .ok (.if_icmp .gt 26, 3) := by decide +kernel
theorem d_WO_spell_38 : decode b_WO_spell 38 = .ok (.aload_n 0, 1) := by decide +kernel
theorem d_WO_spell_39 : decode b_WO_spell 39 = .ok (.aload_n 0, 1) := by decide +kernel
theorem d_WO_spell_40 : decode b_WO_spell 40 = .ok (.getfield 72, 3) := by decide +kernel
theorem d_WO_spell_43 : decode b_WO_spell 43 = .ok (.ldc2_w 76, 3) := by decide +kernel
theorem d_WO_spell_46 : decode b_WO_spell 46 = .ok (.lmul, 1) := by decide +kernel
theorem d_WO_spell_47 : decode b_WO_spell 47 = .ok (.iload_n 1, 1) := by decide +kernel
theorem d_WO_spell_48 : decode b_WO_spell 48 = .ok (.bipush 97, 2) := by decide +kernel
theorem d_WO_spell_50 : decode b_WO_spell 50 = .ok (.isub, 1) := by decide +kernel
theorem d_WO_spell_51 : decode b_WO_spell 51 = .ok (.iconst 1, 1) := by decide +kernel
theorem d_WO_spell_52 : decode b_WO_spell 52 = .ok (.iadd, 1) := by decide +kernel
theorem d_WO_spell_53 : decode b_WO_spell 53 = .ok (.i2l, 1) := by decide +kernel
theorem d_WO_spell_54 : decode b_WO_spell 54 = .ok (.ladd, 1) := by decide +kernel
theorem d_WO_spell_55 : decode b_WO_spell 55 = .ok (.putfield 72, 3) := by decide +kernel
theorem d_WO_spell_58 : decode b_WO_spell 58 = .ok (.goto 40, 3) := by decide +kernel
theorem d_WO_spell_61 : decode b_WO_spell 61 = .ok (.iload_n 1, 1) := by decide +kernel
theorem d_WO_spell_62 : decode b_WO_spell 62 = .ok (.bipush 48, 2) := by decide +kernel
theorem d_WO_spell_64 : decode b_WO_spell 64 = .ok (.if_icmp .lt 33, 3) := by decide +kernel
theorem d_WO_spell_67 : decode b_WO_spell 67 = .ok (.iload_n 1, 1) := by decide +kernel
theorem d_WO_spell_68 : decode b_WO_spell 68 = .ok (.bipush 57, 2) := by decide +kernel
theorem d_WO_spell_70 : decode b_WO_spell 70 = .ok (.if_icmp .gt 27, 3) := by decide +kernel
theorem d_WO_spell_73 : decode b_WO_spell 73 = .ok (.aload_n 0, 1) := by decide +kernel
theorem d_WO_spell_74 : decode b_WO_spell 74 = .ok (.aload_n 0, 1) := by decide +kernel
theorem d_WO_spell_75 : decode b_WO_spell 75 = .ok (.getfield 72, 3) := by decide +kernel
theorem d_WO_spell_78 : decode b_WO_spell 78 = .ok (.ldc2_w 76, 3) := by decide +kernel
theorem d_WO_spell_81 : decode b_WO_spell 81 = .ok (.lmul, 1) := by decide +kernel
theorem d_WO_spell_82 : decode b_WO_spell 82 = .ok (.iload_n 1, 1) := by decide +kernel
theorem d_WO_spell_83 : decode b_WO_spell 83 = .ok (.bipush 48, 2) := by decide +kernel
theorem d_WO_spell_85 : decode b_WO_spell 85 = .ok (.isub, 1) := by decide +kernel
theorem d_WO_spell_86 : decode b_WO_spell 86 = .ok (.bipush 27, 2) := by decide +kernel
theorem d_WO_spell_88 : decode b_WO_spell 88 = .ok (.iadd, 1) := by decide +kernel
theorem d_WO_spell_89 : decode b_WO_spell 89 = .ok (.i2l, 1) := by decide +kernel
theorem d_WO_spell_90 : decode b_WO_spell 90 = .ok (.ladd, 1) := by decide +kernel
theorem d_WO_spell_91 : decode b_WO_spell 91 = .ok (.putfield 72, 3) := by decide +kernel
theorem d_WO_spell_94 : decode b_WO_spell 94 = .ok (.goto 4, 3) := by decide +kernel
theorem d_WO_spell_97 : decode b_WO_spell 97 = .ok (.return_, 1) := by decide +kernel
theorem d_WO_spell_98 : decode b_WO_spell 98 = .ok (.aload_n 0, 1) := by decide +kernel
theorem d_WO_spell_99 : decode b_WO_spell 99 = .ok (.dup, 1) := by decide +kernel
theorem d_WO_spell_100 : decode b_WO_spell 100 = .ok (.getfield 34, 3) := by decide +kernel
theorem d_WO_spell_103 : decode b_WO_spell 103 = .ok (.iconst 1, 1) := by decide +kernel
theorem d_WO_spell_104 : decode b_WO_spell 104 = .ok (.iadd, 1) := by decide +kernel
theorem d_WO_spell_105 : decode b_WO_spell 105 = .ok (.putfield 34, 3) := by decide +kernel
theorem d_WO_spell_108 : decode b_WO_spell 108 = .ok (.goto (-103), 3) := by decide +kernel
theorem d_WO_spell_111 : decode b_WO_spell 111 = .ok (.return_, 1) := by decide +kernel
def f_WO_spell_5 : Nat → XS → Option (XS)
  | 0, _ => none
  | n + 1, S =>
    if (xgi S 2 1) ≤ (xgi S 2 3) then (some S) else (if ¬ ((xgi S 2 3) < 0 ∨ 2000 ≤ (xgi S 2 3).toNatClampNeg) then (if (xgi S 1 (xgi S 2 3).toNatClampNeg) < (97 : Int32) then (if (xgi S 1 (xgi S 2 3).toNatClampNeg) < (48 : Int32) then (some S) else (if (57 : Int32) < (xgi S 1 (xgi S 2 3).toNatClampNeg) then (some S) else (f_WO_spell_5 n (xpi (xpl S 2 6 (((xgl S 2 6) * (37 : Int64)) + ((((xgi S 1 (xgi S 2 3).toNatClampNeg) - (48 : Int32)) + (27 : Int32)).toInt64))) 2 3 ((xgi (xpl S 2 6 (((xgl S 2 6) * (37 : Int64)) + ((((xgi S 1 (xgi S 2 3).toNatClampNeg) - (48 : Int32)) + (27 : Int32)).toInt64))) 2 3) + (1 : Int32)))))) else (if (122 : Int32) < (xgi S 1 (xgi S 2 3).toNatClampNeg) then (if (xgi S 1 (xgi S 2 3).toNatClampNeg) < (48 : Int32) then (some S) else (if (57 : Int32) < (xgi S 1 (xgi S 2 3).toNatClampNeg) then (some S) else (f_WO_spell_5 n (xpi (xpl S 2 6 (((xgl S 2 6) * (37 : Int64)) + ((((xgi S 1 (xgi S 2 3).toNatClampNeg) - (48 : Int32)) + (27 : Int32)).toInt64))) 2 3 ((xgi (xpl S 2 6 (((xgl S 2 6) * (37 : Int64)) + ((((xgi S 1 (xgi S 2 3).toNatClampNeg) - (48 : Int32)) + (27 : Int32)).toInt64))) 2 3) + (1 : Int32)))))) else (f_WO_spell_5 n (xpi (xpl S 2 6 (((xgl S 2 6) * (37 : Int64)) + ((((xgi S 1 (xgi S 2 3).toNatClampNeg) - (97 : Int32)) + (1 : Int32)).toInt64))) 2 3 ((xgi (xpl S 2 6 (((xgl S 2 6) * (37 : Int64)) + ((((xgi S 1 (xgi S 2 3).toNatClampNeg) - (97 : Int32)) + (1 : Int32)).toInt64))) 2 3) + (1 : Int32)))))) else none)
set_option maxHeartbeats 4000000 in
set_option maxRecDepth 100000 in
theorem k_WO_spell_5 (l : Launch) {p : Program} {e : Env} {s : State} {m : MethodId} {args : Array Value} {below : List Frame} {meth : Method} {c : Code} {D : va_G} {lay : Nat → Nat} {cA : Nat → ClassId} {adK adV : Nat → Nat} {s0 : State} (C : xB p s m args meth c R_WO b_WO_spell ((Option.none : Option Jvm.ClassFile.FieldType)) 2) (E : xE D lay cA adK adV s0 s s.heap) : ∀ (n : Nat) (S : XS)  (r : XS) (_ : f_WO_spell_5 n S = some r) (H : Heap) (locs : List Loc) (ls : Array Slot), va_P D xcl (xw lay cA S) H → va_S (xI lay) s.heap H locs → lv_has ls 2 [(0, .ref (lay 2))] → W p l e rm_WO_spell s m args below meth c H locs 0 0 (MQ below (xqv D lay cA r) args s 0 0 (xI lay)) (F0 m 5 ls []) := by
  obtain ⟨hx, hb, hr, hml, hown, hts, hlk, hnh⟩ := id C
  have hK := E.K
  intro n
  induction n with
  | zero => intro S r h; rw [f_WO_spell_5] at h; cases h
  | succ n ih =>
    intro S r h H locs ls hP hS hl
    rw [f_WO_spell_5] at h
    refine lv_aload_n hx hb d_WO_spell_5 rfl (lv_at hl 0 rfl) ?_
    refine va_get (v := .int (xgi S 2 3)) (C := R_WO) (T := F_WO) (N := 9) hx hb hts i_WO hown hK hP 2 (xw_at (by decide) (xc_2 _ _ _ _)) rfl 3 (by decide) (hts _ wd_36) (fun _ h9 => h9) rfl d_WO_spell_6 ?_
    refine lv_aload_n hx hb d_WO_spell_9 rfl (lv_at hl 0 rfl) ?_
    refine va_get (v := .int (xgi S 2 1)) (C := R_WO) (T := F_WO) (N := 9) hx hb hts i_WO hown hK hP 2 (xw_at (by decide) (xc_2 _ _ _ _)) rfl 1 (by decide) (hts _ wd_33) (fun _ h9 => h9) rfl d_WO_spell_10 ?_
    refine lv_icmp_ge (tgt := 111) hx hb d_WO_spell_13 (by decide) (fun c_8 => ?_) (fun c_8 => ?_)
    · have h := xif_t c_8 h
      have h9 := Option.some.inj h
      subst h9
      exact W.vret hx hb hr (fun t ht hW => ⟨⟨(), rfl, trivial, by show va_P D xcl _ t.heap; rw [ht]; exact hP⟩, hS.F ht⟩) hS.2.2 d_WO_spell_111
    · have h := xif_f c_8 h
      refine lv_aload_n hx hb d_WO_spell_16 rfl (lv_at hl 0 rfl) ?_
      refine va_get (v := .ref (lay 1)) (C := R_WO) (T := F_WO) (N := 9) hx hb hts i_WO hown hK hP 2 (xw_at (by decide) (xc_2 _ _ _ _)) rfl 0 (by decide) (hts _ wd_32) (fun _ h9 => h9) rfl d_WO_spell_17 ?_
      refine lv_aload_n hx hb d_WO_spell_20 rfl (lv_at hl 0 rfl) ?_
      refine va_get (v := .int (xgi S 2 3)) (C := R_WO) (T := F_WO) (N := 9) hx hb hts i_WO hown hK hP 2 (xw_at (by decide) (xc_2 _ _ _ _)) rfl 3 (by decide) (hts _ wd_36) (fun _ h9 => h9) rfl d_WO_spell_21 ?_
      obtain ⟨hg1, h⟩ := xg h
      refine xal_tx hx hb E hP hg1 d_WO_spell_24 ?_
      refine lv_istore_n (lv' := [(1, .int (xgi S 1 (xgi S 2 3).toNatClampNeg)), (0, .ref (lay 2))]) hx hb d_WO_spell_25 rfl hl (by decide) rfl (fun ls hl => ?_)
      refine lv_iload_n hx hb d_WO_spell_26 rfl (lv_at hl 0 rfl) ?_
      refine lv_bipush (v := (97 : Int32)) hx hb d_WO_spell_27 (by decide) ?_
      refine lv_icmp_lt (tgt := 61) hx hb d_WO_spell_29 (by decide) (fun c_7 => ?_) (fun c_7 => ?_)
      · have h := xif_t c_7 h
        refine lv_iload_n hx hb d_WO_spell_61 rfl (lv_at hl 0 rfl) ?_
        refine lv_bipush (v := (48 : Int32)) hx hb d_WO_spell_62 (by decide) ?_
        refine lv_icmp_lt (tgt := 97) hx hb d_WO_spell_64 (by decide) (fun c_3 => ?_) (fun c_3 => ?_)
        · have h := xif_t c_3 h
          have h9 := Option.some.inj h
          subst h9
          exact W.vret hx hb hr (fun t ht hW => ⟨⟨(), rfl, trivial, by show va_P D xcl _ t.heap; rw [ht]; exact hP⟩, hS.F ht⟩) hS.2.2 d_WO_spell_97
        · have h := xif_f c_3 h
          refine lv_iload_n hx hb d_WO_spell_67 rfl (lv_at hl 0 rfl) ?_
          refine lv_bipush (v := (57 : Int32)) hx hb d_WO_spell_68 (by decide) ?_
          refine lv_icmp_gt (tgt := 97) hx hb d_WO_spell_70 (by decide) (fun c_2 => ?_) (fun c_2 => ?_)
          · have h := xif_t c_2 h
            have h9 := Option.some.inj h
            subst h9
            exact W.vret hx hb hr (fun t ht hW => ⟨⟨(), rfl, trivial, by show va_P D xcl _ t.heap; rw [ht]; exact hP⟩, hS.F ht⟩) hS.2.2 d_WO_spell_97
          · have h := xif_f c_2 h
            refine lv_aload_n hx hb d_WO_spell_73 rfl (lv_at hl 1 rfl) ?_
            refine lv_aload_n hx hb d_WO_spell_74 rfl (lv_at hl 1 rfl) ?_
            refine va_get (v := .long (xgl S 2 6)) (C := R_WO) (T := F_WO) (N := 9) hx hb hts i_WO hown hK hP 2 (xw_at (by decide) (xc_2 _ _ _ _)) rfl 6 (by decide) (hts _ wd_39) (fun _ h9 => h9) rfl d_WO_spell_75 ?_
            refine lv_ldc2 (v := (37 : Int64)) hx hb hown (hts _ wd_380) d_WO_spell_78 ?_
            refine lv_lmul hx hb d_WO_spell_81 ?_
            refine lv_iload_n hx hb d_WO_spell_82 rfl (lv_at hl 0 rfl) ?_
            refine lv_bipush (v := (48 : Int32)) hx hb d_WO_spell_83 (by decide) ?_
            refine lv_isub hx hb d_WO_spell_85 ?_
            refine lv_bipush (v := (27 : Int32)) hx hb d_WO_spell_86 (by decide) ?_
            refine lv_iadd hx hb d_WO_spell_88 ?_
            refine lv_i2l (v := (((xgi S 1 (xgi S 2 3).toNatClampNeg) - (48 : Int32)) + (27 : Int32)).toInt64) hx hb d_WO_spell_89 rfl ?_
            refine lv_ladd hx hb d_WO_spell_90 ?_
            refine xput_WO_6 hx hb hts hown E hP hS (hts _ wd_39) d_WO_spell_91 (fun H locs hP hS => ?_)
            refine lv_goto (tgt := 98) hx hb d_WO_spell_94 (by decide) ?_
            refine lv_aload_n hx hb d_WO_spell_98 rfl (lv_at hl 1 rfl) ?_
            refine lv_dup hx hb d_WO_spell_99 rfl ?_
            refine va_get (v := .int (xgi (xpl S 2 6 (((xgl S 2 6) * (37 : Int64)) + ((((xgi S 1 (xgi S 2 3).toNatClampNeg) - (48 : Int32)) + (27 : Int32)).toInt64))) 2 3)) (C := R_WO) (T := F_WO) (N := 9) hx hb hts i_WO hown hK hP 2 (xw_at (by decide) (xc_2 _ _ _ _)) rfl 3 (by decide) (hts _ wd_36) (fun _ h9 => h9) rfl d_WO_spell_100 ?_
            refine lv_iconst (v := (1 : Int32)) hx hb d_WO_spell_103 (by decide) ?_
            refine lv_iadd hx hb d_WO_spell_104 ?_
            refine xput_WO_3 hx hb hts hown E hP hS (hts _ wd_36) d_WO_spell_105 (fun H locs hP hS => ?_)
            refine lv_goto (tgt := 5) hx hb d_WO_spell_108 (by decide) ?_
            exact ih (xpi (xpl S 2 6 (((xgl S 2 6) * (37 : Int64)) + ((((xgi S 1 (xgi S 2 3).toNatClampNeg) - (48 : Int32)) + (27 : Int32)).toInt64))) 2 3 ((xgi (xpl S 2 6 (((xgl S 2 6) * (37 : Int64)) + ((((xgi S 1 (xgi S 2 3).toNatClampNeg) - (48 : Int32)) + (27 : Int32)).toInt64))) 2 3) + (1 : Int32)))  _ h H locs ls hP hS (lv_sub hl [1] rfl)
      · have h := xif_f c_7 h
        refine lv_iload_n hx hb d_WO_spell_32 rfl (lv_at hl 0 rfl) ?_
        refine lv_bipush (v := (122 : Int32)) hx hb d_WO_spell_33 (by decide) ?_
        refine lv_icmp_gt (tgt := 61) hx hb d_WO_spell_35 (by decide) (fun c_6 => ?_) (fun c_6 => ?_)
        · have h := xif_t c_6 h
          refine lv_iload_n hx hb d_WO_spell_61 rfl (lv_at hl 0 rfl) ?_
          refine lv_bipush (v := (48 : Int32)) hx hb d_WO_spell_62 (by decide) ?_
          refine lv_icmp_lt (tgt := 97) hx hb d_WO_spell_64 (by decide) (fun c_5 => ?_) (fun c_5 => ?_)
          · have h := xif_t c_5 h
            have h9 := Option.some.inj h
            subst h9
            exact W.vret hx hb hr (fun t ht hW => ⟨⟨(), rfl, trivial, by show va_P D xcl _ t.heap; rw [ht]; exact hP⟩, hS.F ht⟩) hS.2.2 d_WO_spell_97
          · have h := xif_f c_5 h
            refine lv_iload_n hx hb d_WO_spell_67 rfl (lv_at hl 0 rfl) ?_
            refine lv_bipush (v := (57 : Int32)) hx hb d_WO_spell_68 (by decide) ?_
            refine lv_icmp_gt (tgt := 97) hx hb d_WO_spell_70 (by decide) (fun c_4 => ?_) (fun c_4 => ?_)
            · have h := xif_t c_4 h
              have h9 := Option.some.inj h
              subst h9
              exact W.vret hx hb hr (fun t ht hW => ⟨⟨(), rfl, trivial, by show va_P D xcl _ t.heap; rw [ht]; exact hP⟩, hS.F ht⟩) hS.2.2 d_WO_spell_97
            · have h := xif_f c_4 h
              refine lv_aload_n hx hb d_WO_spell_73 rfl (lv_at hl 1 rfl) ?_
              refine lv_aload_n hx hb d_WO_spell_74 rfl (lv_at hl 1 rfl) ?_
              refine va_get (v := .long (xgl S 2 6)) (C := R_WO) (T := F_WO) (N := 9) hx hb hts i_WO hown hK hP 2 (xw_at (by decide) (xc_2 _ _ _ _)) rfl 6 (by decide) (hts _ wd_39) (fun _ h9 => h9) rfl d_WO_spell_75 ?_
              refine lv_ldc2 (v := (37 : Int64)) hx hb hown (hts _ wd_380) d_WO_spell_78 ?_
              refine lv_lmul hx hb d_WO_spell_81 ?_
              refine lv_iload_n hx hb d_WO_spell_82 rfl (lv_at hl 0 rfl) ?_
              refine lv_bipush (v := (48 : Int32)) hx hb d_WO_spell_83 (by decide) ?_
              refine lv_isub hx hb d_WO_spell_85 ?_
              refine lv_bipush (v := (27 : Int32)) hx hb d_WO_spell_86 (by decide) ?_
              refine lv_iadd hx hb d_WO_spell_88 ?_
              refine lv_i2l (v := (((xgi S 1 (xgi S 2 3).toNatClampNeg) - (48 : Int32)) + (27 : Int32)).toInt64) hx hb d_WO_spell_89 rfl ?_
              refine lv_ladd hx hb d_WO_spell_90 ?_
              refine xput_WO_6 hx hb hts hown E hP hS (hts _ wd_39) d_WO_spell_91 (fun H locs hP hS => ?_)
              refine lv_goto (tgt := 98) hx hb d_WO_spell_94 (by decide) ?_
              refine lv_aload_n hx hb d_WO_spell_98 rfl (lv_at hl 1 rfl) ?_
              refine lv_dup hx hb d_WO_spell_99 rfl ?_
              refine va_get (v := .int (xgi (xpl S 2 6 (((xgl S 2 6) * (37 : Int64)) + ((((xgi S 1 (xgi S 2 3).toNatClampNeg) - (48 : Int32)) + (27 : Int32)).toInt64))) 2 3)) (C := R_WO) (T := F_WO) (N := 9) hx hb hts i_WO hown hK hP 2 (xw_at (by decide) (xc_2 _ _ _ _)) rfl 3 (by decide) (hts _ wd_36) (fun _ h9 => h9) rfl d_WO_spell_100 ?_
              refine lv_iconst (v := (1 : Int32)) hx hb d_WO_spell_103 (by decide) ?_
              refine lv_iadd hx hb d_WO_spell_104 ?_
              refine xput_WO_3 hx hb hts hown E hP hS (hts _ wd_36) d_WO_spell_105 (fun H locs hP hS => ?_)
              refine lv_goto (tgt := 5) hx hb d_WO_spell_108 (by decide) ?_
              exact ih (xpi (xpl S 2 6 (((xgl S 2 6) * (37 : Int64)) + ((((xgi S 1 (xgi S 2 3).toNatClampNeg) - (48 : Int32)) + (27 : Int32)).toInt64))) 2 3 ((xgi (xpl S 2 6 (((xgl S 2 6) * (37 : Int64)) + ((((xgi S 1 (xgi S 2 3).toNatClampNeg) - (48 : Int32)) + (27 : Int32)).toInt64))) 2 3) + (1 : Int32)))  _ h H locs ls hP hS (lv_sub hl [1] rfl)
        · have h := xif_f c_6 h
          refine lv_aload_n hx hb d_WO_spell_38 rfl (lv_at hl 1 rfl) ?_
          refine lv_aload_n hx hb d_WO_spell_39 rfl (lv_at hl 1 rfl) ?_
          refine va_get (v := .long (xgl S 2 6)) (C := R_WO) (T := F_WO) (N := 9) hx hb hts i_WO hown hK hP 2 (xw_at (by decide) (xc_2 _ _ _ _)) rfl 6 (by decide) (hts _ wd_39) (fun _ h9 => h9) rfl d_WO_spell_40 ?_
          refine lv_ldc2 (v := (37 : Int64)) hx hb hown (hts _ wd_380) d_WO_spell_43 ?_
          refine lv_lmul hx hb d_WO_spell_46 ?_
          refine lv_iload_n hx hb d_WO_spell_47 rfl (lv_at hl 0 rfl) ?_
          refine lv_bipush (v := (97 : Int32)) hx hb d_WO_spell_48 (by decide) ?_
          refine lv_isub hx hb d_WO_spell_50 ?_
          refine lv_iconst (v := (1 : Int32)) hx hb d_WO_spell_51 (by decide) ?_
          refine lv_iadd hx hb d_WO_spell_52 ?_
          refine lv_i2l (v := (((xgi S 1 (xgi S 2 3).toNatClampNeg) - (97 : Int32)) + (1 : Int32)).toInt64) hx hb d_WO_spell_53 rfl ?_
          refine lv_ladd hx hb d_WO_spell_54 ?_
          refine xput_WO_6 hx hb hts hown E hP hS (hts _ wd_39) d_WO_spell_55 (fun H locs hP hS => ?_)
          refine lv_goto (tgt := 98) hx hb d_WO_spell_58 (by decide) ?_
          refine lv_aload_n hx hb d_WO_spell_98 rfl (lv_at hl 1 rfl) ?_
          refine lv_dup hx hb d_WO_spell_99 rfl ?_
          refine va_get (v := .int (xgi (xpl S 2 6 (((xgl S 2 6) * (37 : Int64)) + ((((xgi S 1 (xgi S 2 3).toNatClampNeg) - (97 : Int32)) + (1 : Int32)).toInt64))) 2 3)) (C := R_WO) (T := F_WO) (N := 9) hx hb hts i_WO hown hK hP 2 (xw_at (by decide) (xc_2 _ _ _ _)) rfl 3 (by decide) (hts _ wd_36) (fun _ h9 => h9) rfl d_WO_spell_100 ?_
          refine lv_iconst (v := (1 : Int32)) hx hb d_WO_spell_103 (by decide) ?_
          refine lv_iadd hx hb d_WO_spell_104 ?_
          refine xput_WO_3 hx hb hts hown E hP hS (hts _ wd_36) d_WO_spell_105 (fun H locs hP hS => ?_)
          refine lv_goto (tgt := 5) hx hb d_WO_spell_108 (by decide) ?_
          exact ih (xpi (xpl S 2 6 (((xgl S 2 6) * (37 : Int64)) + ((((xgi S 1 (xgi S 2 3).toNatClampNeg) - (97 : Int32)) + (1 : Int32)).toInt64))) 2 3 ((xgi (xpl S 2 6 (((xgl S 2 6) * (37 : Int64)) + ((((xgi S 1 (xgi S 2 3).toNatClampNeg) - (97 : Int32)) + (1 : Int32)).toInt64))) 2 3) + (1 : Int32)))  _ h H locs ls hP hS (lv_sub hl [1] rfl)
def f_WO_spell (S : XS)  : Option (XS) :=
  f_WO_spell_5 4096 (xpl S 2 6 (0 : Int64))
set_option maxHeartbeats 4000000 in
set_option maxRecDepth 100000 in
theorem k_WO_spell (l : Launch) {p : Program} {e : Env} {s : State} {m : MethodId} {args : Array Value} {below : List Frame} {meth : Method} {c : Code} {D : va_G} {lay : Nat → Nat} {cA : Nat → ClassId} {adK adV : Nat → Nat} {s0 : State} (C : xB p s m args meth c R_WO b_WO_spell ((Option.none : Option Jvm.ClassFile.FieldType)) 2) (E : xE D lay cA adK adV s0 s s.heap) : ∀ (S : XS)  (r : XS) (_ : f_WO_spell S = some r) (H : Heap) (locs : List Loc) (ls : Array Slot), va_P D xcl (xw lay cA S) H → va_S (xI lay) s.heap H locs → lv_has ls 2 [(0, .ref (lay 2))] → W p l e rm_WO_spell s m args below meth c H locs 0 0 (MQ below (xqv D lay cA r) args s 0 0 (xI lay)) (F0 m 0 ls []) := by
  obtain ⟨hx, hb, hr, hml, hown, hts, hlk, hnh⟩ := id C
  have hK := E.K
  intro S r h H locs ls hP hS hl
  unfold f_WO_spell at h
  refine lv_aload_n hx hb d_WO_spell_0 rfl (lv_at hl 0 rfl) ?_
  refine lv_lconst (v := (0 : Int64)) hx hb d_WO_spell_1 (by decide) ?_
  refine xput_WO_6 hx hb hts hown E hP hS (hts _ wd_39) d_WO_spell_2 (fun H locs hP hS => ?_)
  exact k_WO_spell_5 l C E 4096 (xpl S 2 6 (0 : Int64))  _ h H locs ls hP hS hl
theorem c_WO_spell (l : Launch) (D : va_G) (lay : Nat → Nat) (cA : Nat → ClassId) (adK adV : Nat → Nat) (s0 : State) (S : XS)  (r : XS) (h : f_WO_spell S  = some r) : Met l y_WO_spell (.code y_WO_spell b_WO_spell 2 ((Option.none : Option Jvm.ClassFile.FieldType)) :: xT) rm_WO_spell (xPc D lay cA adK adV s0 S [.ref (lay 2)]) (xqv D lay cA r) 0 0 (xI lay) := by
  refine Met.ofW (cc := b_WO_spell) (maxL := 2) (ret := (Option.none : Option Jvm.ClassFile.FieldType)) (by decide +kernel) rfl ?_
  intro p e s m args below meth c s₁ B hml hv
  obtain ⟨rfl, hP, E⟩ := hv
  have C := xB_of B hml
  have hl := lv_entry ([.ref (lay 2)]) (n := 2) (Nat.le_of_ble_eq_true rfl)
  rw [lg_entry_eq]
  generalize (lg_sl ([.ref (lay 2)]) ++ List.replicate (2 - (lg_sl ([.ref (lay 2)])).length) Slot.unset).toArray = ls at hl ⊢
  exact k_WO_spell l C E S  r h s.heap [] ls hP va_S.rf hl
/-! ConfigTexts$Words.reckon()V -/
def rm_WO_reckon : Room := { frames := 0, cells := 0, slots := 0, locals := 0 }
theorem d_WO_reckon_0 : decode b_WO_reckon 0 = .ok (.aload_n 0, 1) := by decide +kernel
theorem d_WO_reckon_1 : decode b_WO_reckon 1 = .ok (.iconst 0, 1) := by decide +kernel
theorem d_WO_reckon_2 : decode b_WO_reckon 2 = .ok (.putfield 78, 3) := by decide +kernel
theorem d_WO_reckon_5 : decode b_WO_reckon 5 = .ok (.aload_n 0, 1) := by decide +kernel
theorem d_WO_reckon_6 : decode b_WO_reckon 6 = .ok (.getfield 34, 3) := by decide +kernel
theorem d_WO_reckon_9 : decode b_WO_reckon 9 = .ok (.aload_n 0, 1) := by decide +kernel
theorem d_WO_reckon_10 : decode b_WO_reckon 10 = .ok (.getfield 31, 3) := by decide +kernel
theorem d_WO_reckon_13 : decode b_WO_reckon 13 = .ok (.if_icmp .ge 68, 3) := by decide +kernel
theorem d_WO_reckon_16 : decode b_WO_reckon 16 = .ok (.aload_n 0, 1) := by decide +kernel
theorem d_WO_reckon_17 : decode b_WO_reckon 17 = .ok (.getfield 9, 3) := by decide +kernel
theorem d_WO_reckon_20 : decode b_WO_reckon 20 = .ok (.aload_n 0, 1) := by decide +kernel
theorem d_WO_reckon_21 : decode b_WO_reckon 21 = .ok (.getfield 34, 3) := by decide +kernel
theorem d_WO_reckon_24 : decode b_WO_reckon 24 = .ok (.baload, 1) := by decide +kernel
theorem d_WO_reckon_25 : decode b_WO_reckon 25 = .ok (.bipush 48, 2) := by decide +kernel
theorem d_WO_reckon_27 : decode b_WO_reckon 27 = .ok (.if_icmp .lt 54, 3) := by decide +kernel
theorem d_WO_reckon_30 : decode b_WO_reckon 30 = .ok (.aload_n 0, 1) := by decide +kernel
theorem d_WO_reckon_31 : decode b_WO_reckon 31 = .ok (.getfield 9, 3) := by decide +kernel
theorem d_WO_reckon_34 : decode b_WO_reckon 34 = .ok (.aload_n 0, 1) := by decide +kernel
theorem d_WO_reckon_35 : decode b_WO_reckon 35 = .ok (.getfield 34, 3) := by decide +kernel
theorem d_WO_reckon_38 : decode b_WO_reckon 38 = .ok (.baload, 1) := by decide +kernel
theorem d_WO_reckon_39 : decode b_WO_reckon 39 = .ok (.bipush 57, 2) := by decide +kernel
theorem d_WO_reckon_41 : decode b_WO_reckon 41 = .ok (.if_icmp .gt 40, 3) := by decide +kernel
theorem d_WO_reckon_44 : decode b_WO_reckon 44 = .ok (.aload_n 0, 1) := by decide +kernel
theorem d_WO_reckon_45 : decode b_WO_reckon 45 = .ok (.aload_n 0, 1) := by decide +kernel
theorem d_WO_reckon_46 : decode b_WO_reckon 46 = .ok (.getfield 78, 3) := by decide +kernel
theorem d_WO_reckon_49 : decode b_WO_reckon 49 = .ok (.bipush 10, 2) := by decide +kernel
theorem d_WO_reckon_51 : decode b_WO_reckon 51 = .ok (.imul, 1) := by decide +kernel
theorem d_WO_reckon_52 : decode b_WO_reckon 52 = .ok (.aload_n 0, 1) := by decide +kernel
theorem d_WO_reckon_53 : decode b_WO_reckon 53 = .ok (.getfield 9, 3) := by decide +kernel
theorem d_WO_reckon_56 : decode b_WO_reckon 56 = .ok (.aload_n 0, 1) := by decide +kernel
theorem d_WO_reckon_57 : decode b_WO_reckon 57 = .ok (.getfield 34, 3) := by decide +kernel
theorem d_WO_reckon_60 : decode b_WO_reckon 60 = .ok (.baload, 1) := by decide +kernel
theorem d_WO_reckon_61 : decode b_WO_reckon 61 = .ok (.bipush 48, 2) := by decide +kernel
theorem d_WO_reckon_63 : decode b_WO_reckon 63 = .ok (.isub, 1) := by decide +kernel
theorem d_WO_reckon_64 : decode b_WO_reckon 64 = .ok (.iadd, 1) := by decide +kernel
theorem d_WO_reckon_65 : decode b_WO_reckon 65 = .ok (.putfield 78, 3) := by decide +kernel
theorem d_WO_reckon_68 : decode b_WO_reckon 68 = .ok (.aload_n 0, 1) := by decide +kernel
theorem d_WO_reckon_69 : decode b_WO_reckon 69 = .ok (.dup, 1) := by decide +kernel
theorem d_WO_reckon_70 : decode b_WO_reckon 70 = .ok (.getfield 34, 3) := by decide +kernel
theorem d_WO_reckon_73 : decode b_WO_reckon 73 = .ok (.iconst 1, 1) := by decide +kernel
theorem d_WO_reckon_74 : decode b_WO_reckon 74 = .ok (.iadd, 1) := by decide +kernel
theorem d_WO_reckon_75 : decode b_WO_reckon 75 = .ok (.putfield 34, 3) := by decide +kernel
theorem d_WO_reckon_78 : decode b_WO_reckon 78 = .ok (.goto (-73), 3) := by decide +kernel
theorem d_WO_reckon_81 : decode b_WO_reckon 81 = .ok (.return_, 1) := by decide +kernel
def f_WO_reckon_5 : Nat → XS → Option (XS)
  | 0, _ => none
  | n + 1, S =>
    if (xgi S 2 1) ≤ (xgi S 2 3) then (some S) else (if ¬ ((xgi S 2 3) < 0 ∨ 2000 ≤ (xgi S 2 3).toNatClampNeg) then (if (xgi S 1 (xgi S 2 3).toNatClampNeg) < (48 : Int32) then (some S) else (if ¬ ((xgi S 2 3) < 0 ∨ 2000 ≤ (xgi S 2 3).toNatClampNeg) then (if (57 : Int32) < (xgi S 1 (xgi S 2 3).toNatClampNeg) then (some S) else (if ¬ ((xgi S 2 3) < 0 ∨ 2000 ≤ (xgi S 2 3).toNatClampNeg) then (f_WO_reckon_5 n (xpi (xpi S 2 5 (((xgi S 2 5) * (10 : Int32)) + ((xgi S 1 (xgi S 2 3).toNatClampNeg) - (48 : Int32)))) 2 3 ((xgi (xpi S 2 5 (((xgi S 2 5) * (10 : Int32)) + ((xgi S 1 (xgi S 2 3).toNatClampNeg) - (48 : Int32)))) 2 3) + (1 : Int32)))) else none)) else none)) else none)
set_option maxHeartbeats 4000000 in
set_option maxRecDepth 100000 in
theorem k_WO_reckon_5 (l : Launch) {p : Program} {e : Env} {s : State} {m : MethodId} {args : Array Value} {below : List Frame} {meth : Method} {c : Code} {D : va_G} {lay : Nat → Nat} {cA : Nat → ClassId} {adK adV : Nat → Nat} {s0 : State} (C : xB p s m args meth c R_WO b_WO_reckon ((Option.none : Option Jvm.ClassFile.FieldType)) 1) (E : xE D lay cA adK adV s0 s s.heap) : ∀ (n : Nat) (S : XS)  (r : XS) (_ : f_WO_reckon_5 n S = some r) (H : Heap) (locs : List Loc) (ls : Array Slot), va_P D xcl (xw lay cA S) H → va_S (xI lay) s.heap H locs → lv_has ls 1 [(0, .ref (lay 2))] → W p l e rm_WO_reckon s m args below meth c H locs 0 0 (MQ below (xqv D lay cA r) args s 0 0 (xI lay)) (F0 m 5 ls []) := by
  obtain ⟨hx, hb, hr, hml, hown, hts, hlk, hnh⟩ := id C
  have hK := E.K
  intro n
  induction n with
  | zero => intro S r h; rw [f_WO_reckon_5] at h; cases h
  | succ n ih =>
    intro S r h H locs ls hP hS hl
    rw [f_WO_reckon_5] at h
    refine lv_aload_n hx hb d_WO_reckon_5 rfl (lv_at hl 0 rfl) ?_
    refine va_get (v := .int (xgi S 2 3)) (C := R_WO) (T := F_WO) (N := 9) hx hb hts i_WO hown hK hP 2 (xw_at (by decide) (xc_2 _ _ _ _)) rfl 3 (by decide) (hts _ wd_36) (fun _ h9 => h9) rfl d_WO_reckon_6 ?_
    refine lv_aload_n hx hb d_WO_reckon_9 rfl (lv_at hl 0 rfl) ?_
    refine va_get (v := .int (xgi S 2 1)) (C := R_WO) (T := F_WO) (N := 9) hx hb hts i_WO hown hK hP 2 (xw_at (by decide) (xc_2 _ _ _ _)) rfl 1 (by decide) (hts _ wd_33) (fun _ h9 => h9) rfl d_WO_reckon_10 ?_
    refine lv_icmp_ge (tgt := 81) hx hb d_WO_reckon_13 (by decide) (fun c_6 => ?_) (fun c_6 => ?_)
    · have h := xif_t c_6 h
      have h9 := Option.some.inj h
      subst h9
      exact W.vret hx hb hr (fun t ht hW => ⟨⟨(), rfl, trivial, by show va_P D xcl _ t.heap; rw [ht]; exact hP⟩, hS.F ht⟩) hS.2.2 d_WO_reckon_81
    · have h := xif_f c_6 h
      refine lv_aload_n hx hb d_WO_reckon_16 rfl (lv_at hl 0 rfl) ?_
      refine va_get (v := .ref (lay 1)) (C := R_WO) (T := F_WO) (N := 9) hx hb hts i_WO hown hK hP 2 (xw_at (by decide) (xc_2 _ _ _ _)) rfl 0 (by decide) (hts _ wd_32) (fun _ h9 => h9) rfl d_WO_reckon_17 ?_
      refine lv_aload_n hx hb d_WO_reckon_20 rfl (lv_at hl 0 rfl) ?_
      refine va_get (v := .int (xgi S 2 3)) (C := R_WO) (T := F_WO) (N := 9) hx hb hts i_WO hown hK hP 2 (xw_at (by decide) (xc_2 _ _ _ _)) rfl 3 (by decide) (hts _ wd_36) (fun _ h9 => h9) rfl d_WO_reckon_21 ?_
      obtain ⟨hg1, h⟩ := xg h
      refine xal_tx hx hb E hP hg1 d_WO_reckon_24 ?_
      refine lv_bipush (v := (48 : Int32)) hx hb d_WO_reckon_25 (by decide) ?_
      refine lv_icmp_lt (tgt := 81) hx hb d_WO_reckon_27 (by decide) (fun c_5 => ?_) (fun c_5 => ?_)
      · have h := xif_t c_5 h
        have h9 := Option.some.inj h
        subst h9
        exact W.vret hx hb hr (fun t ht hW => ⟨⟨(), rfl, trivial, by show va_P D xcl _ t.heap; rw [ht]; exact hP⟩, hS.F ht⟩) hS.2.2 d_WO_reckon_81
      · have h := xif_f c_5 h
        refine lv_aload_n hx hb d_WO_reckon_30 rfl (lv_at hl 0 rfl) ?_
        refine va_get (v := .ref (lay 1)) (C := R_WO) (T := F_WO) (N := 9) hx hb hts i_WO hown hK hP 2 (xw_at (by decide) (xc_2 _ _ _ _)) rfl 0 (by decide) (hts _ wd_32) (fun _ h9 => h9) rfl d_WO_reckon_31 ?_
        refine lv_aload_n hx hb d_WO_reckon_34 rfl (lv_at hl 0 rfl) ?_
        refine va_get (v := .int (xgi S 2 3)) (C := R_WO) (T := F_WO) (N := 9) hx hb hts i_WO hown hK hP 2 (xw_at (by decide) (xc_2 _ _ _ _)) rfl 3 (by decide) (hts _ wd_36) (fun _ h9 => h9) rfl d_WO_reckon_35 ?_
        obtain ⟨hg2, h⟩ := xg h
        refine xal_tx hx hb E hP hg2 d_WO_reckon_38 ?_
        refine lv_bipush (v := (57 : Int32)) hx hb d_WO_reckon_39 (by decide) ?_
        refine lv_icmp_gt (tgt := 81) hx hb d_WO_reckon_41 (by decide) (fun c_4 => ?_) (fun c_4 => ?_)
        · have h := xif_t c_4 h
          have h9 := Option.some.inj h
          subst h9
          exact W.vret hx hb hr (fun t ht hW => ⟨⟨(), rfl, trivial, by show va_P D xcl _ t.heap; rw [ht]; exact hP⟩, hS.F ht⟩) hS.2.2 d_WO_reckon_81
        · have h := xif_f c_4 h
          refine lv_aload_n hx hb d_WO_reckon_44 rfl (lv_at hl 0 rfl) ?_
          refine lv_aload_n hx hb d_WO_reckon_45 rfl (lv_at hl 0 rfl) ?_
          refine va_get (v := .int (xgi S 2 5)) (C := R_WO) (T := F_WO) (N := 9) hx hb hts i_WO hown hK hP 2 (xw_at (by decide) (xc_2 _ _ _ _)) rfl 5 (by decide) (hts _ wd_38) (fun _ h9 => h9) rfl d_WO_reckon_46 ?_
          refine lv_bipush (v := (10 : Int32)) hx hb d_WO_reckon_49 (by decide) ?_
          refine lv_imul hx hb d_WO_reckon_51 ?_
          refine lv_aload_n hx hb d_WO_reckon_52 rfl (lv_at hl 0 rfl) ?_
          refine va_get (v := .ref (lay 1)) (C := R_WO) (T := F_WO) (N := 9) hx hb hts i_WO hown hK hP 2 (xw_at (by decide) (xc_2 _ _ _ _)) rfl 0 (by decide) (hts _ wd_32) (fun _ h9 => h9) rfl d_WO_reckon_53 ?_
          refine lv_aload_n hx hb d_WO_reckon_56 rfl (lv_at hl 0 rfl) ?_
          refine va_get (v := .int (xgi S 2 3)) (C := R_WO) (T := F_WO) (N := 9) hx hb hts i_WO hown hK hP 2 (xw_at (by decide) (xc_2 _ _ _ _)) rfl 3 (by decide) (hts _ wd_36) (fun _ h9 => h9) rfl d_WO_reckon_57 ?_
          obtain ⟨hg3, h⟩ := xg h
          refine xal_tx hx hb E hP hg3 d_WO_reckon_60 ?_
          refine lv_bipush (v := (48 : Int32)) hx hb d_WO_reckon_61 (by decide) ?_
          refine lv_isub hx hb d_WO_reckon_63 ?_
          refine lv_iadd hx hb d_WO_reckon_64 ?_
          refine xput_WO_5 hx hb hts hown E hP hS (hts _ wd_38) d_WO_reckon_65 (fun H locs hP hS => ?_)
          refine lv_aload_n hx hb d_WO_reckon_68 rfl (lv_at hl 0 rfl) ?_
          refine lv_dup hx hb d_WO_reckon_69 rfl ?_
          refine va_get (v := .int (xgi (xpi S 2 5 (((xgi S 2 5) * (10 : Int32)) + ((xgi S 1 (xgi S 2 3).toNatClampNeg) - (48 : Int32)))) 2 3)) (C := R_WO) (T := F_WO) (N := 9) hx hb hts i_WO hown hK hP 2 (xw_at (by decide) (xc_2 _ _ _ _)) rfl 3 (by decide) (hts _ wd_36) (fun _ h9 => h9) rfl d_WO_reckon_70 ?_
          refine lv_iconst (v := (1 : Int32)) hx hb d_WO_reckon_73 (by decide) ?_
          refine lv_iadd hx hb d_WO_reckon_74 ?_
          refine xput_WO_3 hx hb hts hown E hP hS (hts _ wd_36) d_WO_reckon_75 (fun H locs hP hS => ?_)
          refine lv_goto (tgt := 5) hx hb d_WO_reckon_78 (by decide) ?_
          exact ih (xpi (xpi S 2 5 (((xgi S 2 5) * (10 : Int32)) + ((xgi S 1 (xgi S 2 3).toNatClampNeg) - (48 : Int32)))) 2 3 ((xgi (xpi S 2 5 (((xgi S 2 5) * (10 : Int32)) + ((xgi S 1 (xgi S 2 3).toNatClampNeg) - (48 : Int32)))) 2 3) + (1 : Int32)))  _ h H locs ls hP hS hl
def f_WO_reckon (S : XS)  : Option (XS) :=
  f_WO_reckon_5 4096 (xpi S 2 5 (0 : Int32))
set_option maxHeartbeats 4000000 in
set_option maxRecDepth 100000 in
theorem k_WO_reckon (l : Launch) {p : Program} {e : Env} {s : State} {m : MethodId} {args : Array Value} {below : List Frame} {meth : Method} {c : Code} {D : va_G} {lay : Nat → Nat} {cA : Nat → ClassId} {adK adV : Nat → Nat} {s0 : State} (C : xB p s m args meth c R_WO b_WO_reckon ((Option.none : Option Jvm.ClassFile.FieldType)) 1) (E : xE D lay cA adK adV s0 s s.heap) : ∀ (S : XS)  (r : XS) (_ : f_WO_reckon S = some r) (H : Heap) (locs : List Loc) (ls : Array Slot), va_P D xcl (xw lay cA S) H → va_S (xI lay) s.heap H locs → lv_has ls 1 [(0, .ref (lay 2))] → W p l e rm_WO_reckon s m args below meth c H locs 0 0 (MQ below (xqv D lay cA r) args s 0 0 (xI lay)) (F0 m 0 ls []) := by
  obtain ⟨hx, hb, hr, hml, hown, hts, hlk, hnh⟩ := id C
  have hK := E.K
  intro S r h H locs ls hP hS hl
  unfold f_WO_reckon at h
  refine lv_aload_n hx hb d_WO_reckon_0 rfl (lv_at hl 0 rfl) ?_
  refine lv_iconst (v := (0 : Int32)) hx hb d_WO_reckon_1 (by decide) ?_
  refine xput_WO_5 hx hb hts hown E hP hS (hts _ wd_38) d_WO_reckon_2 (fun H locs hP hS => ?_)
  exact k_WO_reckon_5 l C E 4096 (xpi S 2 5 (0 : Int32))  _ h H locs ls hP hS hl
theorem c_WO_reckon (l : Launch) (D : va_G) (lay : Nat → Nat) (cA : Nat → ClassId) (adK adV : Nat → Nat) (s0 : State) (S : XS)  (r : XS) (h : f_WO_reckon S  = some r) : Met l y_WO_reckon (.code y_WO_reckon b_WO_reckon 1 ((Option.none : Option Jvm.ClassFile.FieldType)) :: xT) rm_WO_reckon (xPc D lay cA adK adV s0 S [.ref (lay 2)]) (xqv D lay cA r) 0 0 (xI lay) := by
  refine Met.ofW (cc := b_WO_reckon) (maxL := 1) (ret := (Option.none : Option Jvm.ClassFile.FieldType)) (by decide +kernel) rfl ?_
  intro p e s m args below meth c s₁ B hml hv
  obtain ⟨rfl, hP, E⟩ := hv
  have C := xB_of B hml
  have hl := lv_entry ([.ref (lay 2)]) (n := 1) (Nat.le_of_ble_eq_true rfl)
  rw [lg_entry_eq]
  generalize (lg_sl ([.ref (lay 2)]) ++ List.replicate (1 - (lg_sl ([.ref (lay 2)])).length) Slot.unset).toArray = ls at hl ⊢
  exact k_WO_reckon l C E S  r h s.heap [] ls hP va_S.rf hl
/-! ConfigTexts$Words.fail(I)V -/
def rm_WO_fail : Room := { frames := 6, cells := 1, slots := 6, locals := 100 }
theorem d_WO_fail_0 : decode b_WO_fail 0 = .ok (.aload_n 0, 1) := by decide +kernel
theorem d_WO_fail_1 : decode b_WO_fail 1 = .ok (.iload_n 1, 1) := by decide +kernel
theorem d_WO_fail_2 : decode b_WO_fail 2 = .ok (.putfield 19, 3) := by decide +kernel
theorem d_WO_fail_5 : decode b_WO_fail 5 = .ok (.aload_n 0, 1) := by decide +kernel
theorem d_WO_fail_6 : decode b_WO_fail 6 = .ok (.aload_n 0, 1) := by decide +kernel
theorem d_WO_fail_7 : decode b_WO_fail 7 = .ok (.getfield 40, 3) := by decide +kernel
theorem d_WO_fail_10 : decode b_WO_fail 10 = .ok (.putfield 22, 3) := by decide +kernel
theorem d_WO_fail_13 : decode b_WO_fail 13 = .ok (.new 43, 3) := by decide +kernel
theorem d_WO_fail_16 : decode b_WO_fail 16 = .ok (.dup, 1) := by decide +kernel
theorem d_WO_fail_17 : decode b_WO_fail 17 = .ok (.ldc 45, 2) := by decide +kernel
theorem d_WO_fail_19 : decode b_WO_fail 19 = .ok (.invokespecial 47, 3) := by decide +kernel
theorem d_WO_fail_22 : decode b_WO_fail 22 = .ok (.athrow, 1) := by decide +kernel
def f_WO_fail (S : XS) (a1 : Int32) : Option ((Unit × XS) ⊕ XS) :=
  some (.inr (xpi (xpi S 2 7 a1) 2 8 (xgi (xpi S 2 7 a1) 2 2)))
set_option maxHeartbeats 4000000 in
set_option maxRecDepth 100000 in
theorem k_WO_fail (l : Launch) (hq : l.stackTraces = false) {p : Program} {e : Env} {s : State} {m : MethodId} {args : Array Value} {below : List Frame} {meth : Method} {c : Code} {D : va_G} {lay : Nat → Nat} {cA : Nat → ClassId} {adK adV : Nat → Nat} {s0 : State} (C : xB p s m args meth c R_WO b_WO_fail ((Option.none : Option Jvm.ClassFile.FieldType)) 2) (E : xE D lay cA adK adV s0 s s.heap) : ∀ (S : XS) (a1 : Int32) (r : (Unit × XS) ⊕ XS) (_ : f_WO_fail S a1 = some r) (H : Heap) (locs : List Loc) (ls : Array Slot), va_P D xcl (xw lay cA S) H → va_S (xI lay) s.heap H locs → lv_has ls 2 [(0, .ref (lay 2)), (1, .int a1)] → W p l e rm_WO_fail s m args below meth c H locs 0 0 (XF below (xrv D lay cA r) (xrt D lay cA r) s 0 0 1 6 (xI lay)) (F0 m 0 ls []) := by
  obtain ⟨hx, hb, hr, hml, hown, hts, hlk, hnh⟩ := id C
  have hK := E.K
  intro S a1 r h H locs ls hP hS hl
  unfold f_WO_fail at h
  refine lv_aload_n hx hb d_WO_fail_0 rfl (lv_at hl 0 rfl) ?_
  refine lv_iload_n hx hb d_WO_fail_1 rfl (lv_at hl 1 rfl) ?_
  refine xput_WO_7 hx hb hts hown E hP hS (hts _ wd_40) d_WO_fail_2 (fun H locs hP hS => ?_)
  refine lv_aload_n hx hb d_WO_fail_5 rfl (lv_at hl 0 rfl) ?_
  refine lv_aload_n hx hb d_WO_fail_6 rfl (lv_at hl 0 rfl) ?_
  refine va_get (v := .int (xgi (xpi S 2 7 a1) 2 2)) (C := R_WO) (T := F_WO) (N := 9) hx hb hts i_WO hown hK hP 2 (xw_at (by decide) (xc_2 _ _ _ _)) rfl 2 (by decide) (hts _ wd_34) (fun _ h9 => h9) rfl d_WO_fail_7 ?_
  refine xput_WO_8 hx hb hts hown E hP hS (hts _ wd_42) d_WO_fail_10 (fun H locs hP hS => ?_)
  have h9 := Option.some.inj h
  subst h9
  exact xthrow hq hx hb (hml.trans hl.1.symm) hown hlk hnh hts E hP hS wd_389 wd_390 wd_17 (List.mem_of_getElem? (i := 1) rfl : ("ConfigTexts$Words", 45, "the text has a fault", 1) ∈ xlits) d_WO_fail_13 d_WO_fail_16 d_WO_fail_17 d_WO_fail_19 d_WO_fail_22 (Nat.le_of_ble_eq_true rfl) (Nat.le_of_ble_eq_true rfl) (Nat.le_of_ble_eq_true rfl) (Nat.le_of_ble_eq_true rfl)
theorem c_WO_fail (l : Launch) (hq : l.stackTraces = false) (D : va_G) (lay : Nat → Nat) (cA : Nat → ClassId) (adK adV : Nat → Nat) (s0 : State) (S : XS) (a1 : Int32) (r : (Unit × XS) ⊕ XS) (h : f_WO_fail S a1 = some r) : MetX l y_WO_fail (.code y_WO_fail b_WO_fail 2 ((Option.none : Option Jvm.ClassFile.FieldType)) :: xT) rm_WO_fail (xPc D lay cA adK adV s0 S [.ref (lay 2), .int a1]) (xrv D lay cA r) (xrt D lay cA r) 0 0 1 6 (xI lay) := by
  refine MetX.ofW (cc := b_WO_fail) (maxL := 2) (ret := (Option.none : Option Jvm.ClassFile.FieldType)) (by decide +kernel) rfl ?_
  intro p e s m args below meth c s₁ B hml hv
  obtain ⟨rfl, hP, E⟩ := hv
  have C := xB_of B hml
  have hl := lv_entry ([.ref (lay 2), .int a1]) (n := 2) (Nat.le_of_ble_eq_true rfl)
  rw [lg_entry_eq]
  generalize (lg_sl ([.ref (lay 2), .int a1]) ++ List.replicate (2 - (lg_sl ([.ref (lay 2), .int a1])).length) Slot.unset).toArray = ls at hl ⊢
  exact k_WO_fail l hq C E S a1 r h s.heap [] ls hP va_S.rf hl
/-! ConfigTexts$Words.next()V -/
def rm_WO_next : Room := { frames := 7, cells := 1, slots := 6, locals := 121 }
theorem d_WO_next_0 : decode b_WO_next 0 = .ok (.aload_n 0, 1) := by decide +kernel
theorem d_WO_next_1 : decode b_WO_next 1 = .ok (.aload_n 0, 1) := by decide +kernel
theorem d_WO_next_2 : decode b_WO_next 2 = .ok (.getfield 34, 3) := by decide +kernel
theorem d_WO_next_5 : decode b_WO_next 5 = .ok (.putfield 40, 3) := by decide +kernel
theorem d_WO_next_8 : decode b_WO_next 8 = .ok (.aload_n 0, 1) := by decide +kernel
theorem d_WO_next_9 : decode b_WO_next 9 = .ok (.getfield 40, 3) := by decide +kernel
theorem d_WO_next_12 : decode b_WO_next 12 = .ok (.aload_n 0, 1) := by decide +kernel
theorem d_WO_next_13 : decode b_WO_next 13 = .ok (.getfield 31, 3) := by decide +kernel
theorem d_WO_next_16 : decode b_WO_next 16 = .ok (.if_icmp .ge 44, 3) := by decide +kernel
theorem d_WO_next_19 : decode b_WO_next 19 = .ok (.aload_n 0, 1) := by decide +kernel
theorem d_WO_next_20 : decode b_WO_next 20 = .ok (.getfield 9, 3) := by decide +kernel
theorem d_WO_next_23 : decode b_WO_next 23 = .ok (.aload_n 0, 1) := by decide +kernel
theorem d_WO_next_24 : decode b_WO_next 24 = .ok (.getfield 40, 3) := by decide +kernel
theorem d_WO_next_27 : decode b_WO_next 27 = .ok (.baload, 1) := by decide +kernel
theorem d_WO_next_28 : decode b_WO_next 28 = .ok (.bipush 32, 2) := by decide +kernel
theorem d_WO_next_30 : decode b_WO_next 30 = .ok (.if_icmp .eq 17, 3) := by decide +kernel
theorem d_WO_next_33 : decode b_WO_next 33 = .ok (.aload_n 0, 1) := by decide +kernel
theorem d_WO_next_34 : decode b_WO_next 34 = .ok (.getfield 9, 3) := by decide +kernel
theorem d_WO_next_37 : decode b_WO_next 37 = .ok (.aload_n 0, 1) := by decide +kernel
theorem d_WO_next_38 : decode b_WO_next 38 = .ok (.getfield 40, 3) := by decide +kernel
theorem d_WO_next_41 : decode b_WO_next 41 = .ok (.baload, 1) := by decide +kernel
theorem d_WO_next_42 : decode b_WO_next 42 = .ok (.bipush 10, 2) := by decide +kernel
theorem d_WO_next_44 : decode b_WO_next 44 = .ok (.if_icmp .ne 16, 3) := by decide +kernel
theorem d_WO_next_47 : decode b_WO_next 47 = .ok (.aload_n 0, 1) := by decide +kernel
theorem d_WO_next_48 : decode b_WO_next 48 = .ok (.dup, 1) := by decide +kernel
theorem d_WO_next_49 : decode b_WO_next 49 = .ok (.getfield 40, 3) := by decide +kernel
theorem d_WO_next_52 : decode b_WO_next 52 = .ok (.iconst 1, 1) := by decide +kernel
theorem d_WO_next_53 : decode b_WO_next 53 = .ok (.iadd, 1) := by decide +kernel
theorem d_WO_next_54 : decode b_WO_next 54 = .ok (.putfield 40, 3) := by decide +kernel
theorem d_WO_next_57 : decode b_WO_next 57 = .ok (.goto (-49), 3) := by decide +kernel
theorem d_WO_next_60 : decode b_WO_next 60 = .ok (.aload_n 0, 1) := by decide +kernel
theorem d_WO_next_61 : decode b_WO_next 61 = .ok (.aload_n 0, 1) := by decide +kernel
theorem d_WO_next_62 : decode b_WO_next 62 = .ok (.getfield 40, 3) := by decide +kernel
theorem d_WO_next_65 : decode b_WO_next 65 = .ok (.putfield 34, 3) := by decide +kernel
theorem d_WO_next_68 : decode b_WO_next 68 = .ok (.aload_n 0, 1) := by decide +kernel
theorem d_WO_next_69 : decode b_WO_next 69 = .ok (.aload_n 0, 1) := by decide +kernel
theorem d_WO_next_70 : decode b_WO_next 70 = .ok (.getfield 40, 3) := by decide +kernel
theorem d_WO_next_73 : decode b_WO_next 73 = .ok (.aload_n 0, 1) := by decide +kernel
theorem d_WO_next_74 : decode b_WO_next 74 = .ok (.getfield 31, 3) := by decide +kernel
theorem d_WO_next_77 : decode b_WO_next 77 = .ok (.if_icmp .ge 18, 3) := by decide +kernel
theorem d_WO_next_80 : decode b_WO_next 80 = .ok (.aload_n 0, 1) := by decide +kernel
theorem d_WO_next_81 : decode b_WO_next 81 = .ok (.getfield 9, 3) := by decide +kernel
theorem d_WO_next_84 : decode b_WO_next 84 = .ok (.aload_n 0, 1) := by decide +kernel
theorem d_WO_next_85 : decode b_WO_next 85 = .ok (.getfield 40, 3) := by decide +kernel
theorem d_WO_next_88 : decode b_WO_next 88 = .ok (.baload, 1) := by decide +kernel
theorem d_WO_next_89 : decode b_WO_next 89 = .ok (.invokestatic 54, 3) := by decide +kernel
theorem d_WO_next_92 : decode b_WO_next 92 = .ok (.goto 4, 3) := by decide +kernel
theorem d_WO_next_95 : decode b_WO_next 95 = .ok (.iconst 0, 1) := by decide +kernel
theorem d_WO_next_96 : decode b_WO_next 96 = .ok (.putfield 15, 3) := by decide +kernel
theorem d_WO_next_99 : decode b_WO_next 99 = .ok (.aload_n 0, 1) := by decide +kernel
theorem d_WO_next_100 : decode b_WO_next 100 = .ok (.getfield 15, 3) := by decide +kernel
theorem d_WO_next_103 : decode b_WO_next 103 = .ok (.iconst 1, 1) := by decide +kernel
theorem d_WO_next_104 : decode b_WO_next 104 = .ok (.if_icmp .ne 10, 3) := by decide +kernel
theorem d_WO_next_107 : decode b_WO_next 107 = .ok (.aload_n 0, 1) := by decide +kernel
theorem d_WO_next_108 : decode b_WO_next 108 = .ok (.invokevirtual 58, 3) := by decide +kernel
theorem d_WO_next_111 : decode b_WO_next 111 = .ok (.goto 36, 3) := by decide +kernel
theorem d_WO_next_114 : decode b_WO_next 114 = .ok (.aload_n 0, 1) := by decide +kernel
theorem d_WO_next_115 : decode b_WO_next 115 = .ok (.getfield 15, 3) := by decide +kernel
theorem d_WO_next_118 : decode b_WO_next 118 = .ok (.iconst 2, 1) := by decide +kernel
theorem d_WO_next_119 : decode b_WO_next 119 = .ok (.if_icmp .ne 10, 3) := by decide +kernel
theorem d_WO_next_122 : decode b_WO_next 122 = .ok (.aload_n 0, 1) := by decide +kernel
theorem d_WO_next_123 : decode b_WO_next 123 = .ok (.invokevirtual 61, 3) := by decide +kernel
theorem d_WO_next_126 : decode b_WO_next 126 = .ok (.goto 21, 3) := by decide +kernel
theorem d_WO_next_129 : decode b_WO_next 129 = .ok (.aload_n 0, 1) := by decide +kernel
theorem d_WO_next_130 : decode b_WO_next 130 = .ok (.getfield 15, 3) := by decide +kernel
theorem d_WO_next_133 : decode b_WO_next 133 = .ok (.iconst 3, 1) := by decide +kernel
theorem d_WO_next_134 : decode b_WO_next 134 = .ok (.if_icmp .ne 13, 3) := by decide +kernel
theorem d_WO_next_137 : decode b_WO_next 137 = .ok (.aload_n 0, 1) := by decide +kernel
theorem d_WO_next_138 : decode b_WO_next 138 = .ok (.dup, 1) := by decide +kernel
theorem d_WO_next_139 : decode b_WO_next 139 = .ok (.getfield 34, 3) := by decide +kernel
theorem d_WO_next_142 : decode b_WO_next 142 = .ok (.iconst 1, 1) := by decide +kernel
theorem d_WO_next_143 : decode b_WO_next 143 = .ok (.iadd, 1) := by decide +kernel
theorem d_WO_next_144 : decode b_WO_next 144 = .ok (.putfield 34, 3) := by decide +kernel
theorem d_WO_next_147 : decode b_WO_next 147 = .ok (.aload_n 0, 1) := by decide +kernel
theorem d_WO_next_148 : decode b_WO_next 148 = .ok (.getfield 15, 3) := by decide +kernel
theorem d_WO_next_151 : decode b_WO_next 151 = .ok (.iconst 4, 1) := by decide +kernel
theorem d_WO_next_152 : decode b_WO_next 152 = .ok (.if_icmp .eq 47, 3) := by decide +kernel
theorem d_WO_next_155 : decode b_WO_next 155 = .ok (.aload_n 0, 1) := by decide +kernel
theorem d_WO_next_156 : decode b_WO_next 156 = .ok (.getfield 15, 3) := by decide +kernel
theorem d_WO_next_159 : decode b_WO_next 159 = .ok (.iconst 1, 1) := by decide +kernel
theorem d_WO_next_160 : decode b_WO_next 160 = .ok (.if_icmp .ne 17, 3) := by decide +kernel
theorem d_WO_next_163 : decode b_WO_next 163 = .ok (.aload_n 0, 1) := by decide +kernel
theorem d_WO_next_164 : decode b_WO_next 164 = .ok (.getfield 34, 3) := by decide +kernel
theorem d_WO_next_167 : decode b_WO_next 167 = .ok (.aload_n 0, 1) := by decide +kernel
theorem d_WO_next_168 : decode b_WO_next 168 = .ok (.getfield 40, 3) := by decide +kernel
theorem d_WO_next_171 : decode b_WO_next 171 = .ok (.isub, 1) := by decide +kernel
theorem d_WO_next_172 : decode b_WO_next 172 = .ok (.bipush 12, 2) := by decide +kernel
theorem d_WO_next_174 : decode b_WO_next 174 = .ok (.if_icmp .gt 25, 3) := by decide +kernel
theorem d_WO_next_177 : decode b_WO_next 177 = .ok (.aload_n 0, 1) := by decide +kernel
theorem d_WO_next_178 : decode b_WO_next 178 = .ok (.getfield 15, 3) := by decide +kernel
theorem d_WO_next_181 : decode b_WO_next 181 = .ok (.iconst 2, 1) := by decide +kernel
theorem d_WO_next_182 : decode b_WO_next 182 = .ok (.if_icmp .ne 22, 3) := by decide +kernel
theorem d_WO_next_185 : decode b_WO_next 185 = .ok (.aload_n 0, 1) := by decide +kernel
theorem d_WO_next_186 : decode b_WO_next 186 = .ok (.getfield 34, 3) := by decide +kernel
theorem d_WO_next_189 : decode b_WO_next 189 = .ok (.aload_n 0, 1) := by decide +kernel
theorem d_WO_next_190 : decode b_WO_next 190 = .ok (.getfield 40, 3) := by decide +kernel
theorem d_WO_next_193 : decode b_WO_next 193 = .ok (.isub, 1) := by decide +kernel
theorem d_WO_next_194 : decode b_WO_next 194 = .ok (.bipush 6, 2) := by decide +kernel
theorem d_WO_next_196 : decode b_WO_next 196 = .ok (.if_icmp .le 8, 3) := by decide +kernel
theorem d_WO_next_199 : decode b_WO_next 199 = .ok (.aload_n 0, 1) := by decide +kernel
theorem d_WO_next_200 : decode b_WO_next 200 = .ok (.iconst 2, 1) := by decide +kernel
theorem d_WO_next_201 : decode b_WO_next 201 = .ok (.invokevirtual 50, 3) := by decide +kernel
theorem d_WO_next_204 : decode b_WO_next 204 = .ok (.return_, 1) := by decide +kernel
def f_WO_next_177 (S : XS)  : Option ((Unit × XS) ⊕ XS) :=
  if (xgi S 2 4) = (2 : Int32) then (if ((xgi S 2 3) - (xgi S 2 2)) ≤ (6 : Int32) then (some (.inl ((), S))) else ((f_WO_fail S (2 : Int32)).bind (xT2 fun _ S33 => some (.inl ((), S33))))) else (some (.inl ((), S)))
set_option maxHeartbeats 4000000 in
set_option maxRecDepth 100000 in
theorem k_WO_next_177 (l : Launch) (hq : l.stackTraces = false) {p : Program} {e : Env} {s : State} {m : MethodId} {args : Array Value} {below : List Frame} {meth : Method} {c : Code} {D : va_G} {lay : Nat → Nat} {cA : Nat → ClassId} {adK adV : Nat → Nat} {s0 : State} (C : xB p s m args meth c R_WO b_WO_next ((Option.none : Option Jvm.ClassFile.FieldType)) 1) (E : xE D lay cA adK adV s0 s s.heap) : ∀ (S : XS)  (r : (Unit × XS) ⊕ XS) (_ : f_WO_next_177 S = some r) (H : Heap) (locs : List Loc) (ls : Array Slot), va_P D xcl (xw lay cA S) H → va_S (xI lay) s.heap H locs → lv_has ls 1 [(0, .ref (lay 2))] → W p l e rm_WO_next s m args below meth c H locs 0 0 (XF below (xrv D lay cA r) (xrt D lay cA r) s 0 0 1 6 (xI lay)) (F0 m 177 ls []) := by
  obtain ⟨hx, hb, hr, hml, hown, hts, hlk, hnh⟩ := id C
  have hK := E.K
  intro S r h H locs ls hP hS hl
  unfold f_WO_next_177 at h
  refine lv_aload_n hx hb d_WO_next_177 rfl (lv_at hl 0 rfl) ?_
  refine va_get (v := .int (xgi S 2 4)) (C := R_WO) (T := F_WO) (N := 9) hx hb hts i_WO hown hK hP 2 (xw_at (by decide) (xc_2 _ _ _ _)) rfl 4 (by decide) (hts _ wd_37) (fun _ h9 => h9) rfl d_WO_next_178 ?_
  refine lv_iconst (v := (2 : Int32)) hx hb d_WO_next_181 (by decide) ?_
  refine lv_icmp_ne (tgt := 204) hx hb d_WO_next_182 (by decide) (fun c_36 => ?_) (fun c_36 => ?_)
  · have h := xif_f c_36 h
    have h9 := Option.some.inj h
    subst h9
    exact xret (W.vret hx hb hr (fun t ht hW => ⟨_, rfl, ⟨⟨(), S, rfl, rfl, by show va_P D xcl _ t.heap; rw [ht]; exact hP⟩, hS.F ht⟩⟩) hS.2.2 d_WO_next_204)
  · have h := xif_t c_36 h
    refine lv_aload_n hx hb d_WO_next_185 rfl (lv_at hl 0 rfl) ?_
    refine va_get (v := .int (xgi S 2 3)) (C := R_WO) (T := F_WO) (N := 9) hx hb hts i_WO hown hK hP 2 (xw_at (by decide) (xc_2 _ _ _ _)) rfl 3 (by decide) (hts _ wd_36) (fun _ h9 => h9) rfl d_WO_next_186 ?_
    refine lv_aload_n hx hb d_WO_next_189 rfl (lv_at hl 0 rfl) ?_
    refine va_get (v := .int (xgi S 2 2)) (C := R_WO) (T := F_WO) (N := 9) hx hb hts i_WO hown hK hP 2 (xw_at (by decide) (xc_2 _ _ _ _)) rfl 2 (by decide) (hts _ wd_34) (fun _ h9 => h9) rfl d_WO_next_190 ?_
    refine lv_isub hx hb d_WO_next_193 ?_
    refine lv_bipush (v := (6 : Int32)) hx hb d_WO_next_194 (by decide) ?_
    refine lv_icmp_le (tgt := 204) hx hb d_WO_next_196 (by decide) (fun c_35 => ?_) (fun c_35 => ?_)
    · have h := xif_t c_35 h
      have h9 := Option.some.inj h
      subst h9
      exact xret (W.vret hx hb hr (fun t ht hW => ⟨_, rfl, ⟨⟨(), S, rfl, rfl, by show va_P D xcl _ t.heap; rw [ht]; exact hP⟩, hS.F ht⟩⟩) hS.2.2 d_WO_next_204)
    · have h := xif_f c_35 h
      refine lv_aload_n hx hb d_WO_next_199 rfl (lv_at hl 0 rfl) ?_
      refine lv_iconst (v := (2 : Int32)) hx hb d_WO_next_200 (by decide) ?_
      obtain ⟨q31, e30, h⟩ := xb h
      refine xk_v (xrunV (As := [.int (2 : Int32)]) (rest := []) ⟨hx, hb, hml, hown, hts⟩ (c_WO_fail l hq D lay cA adK adV s0 S (2 : Int32) q31 e30) (cwV 1 hts (xT_V wd_385 wd_386 wd_387 wd_2 wd_388) rfl rfl rfl (by decide +kernel) ⟨Nat.le_of_ble_eq_true rfl, Nat.le_of_ble_eq_true rfl⟩) (xpV E hP hS (by decide) (xc_2 _ _ _ _) rfl) rfl rfl hl.1 rfl (lv_room (Nat.le_of_ble_eq_true rfl)) d_WO_next_201 ⟨Nat.le_of_ble_eq_true rfl, Nat.le_of_ble_eq_true rfl⟩) hS hnh hlk (fun S9 e9 => by subst e9; exact (Option.some.inj h).symm) (fun v32 S33 w34 H locs hP hS => ?_)
      subst w34
      dsimp only [xT2] at h
      have h9 := Option.some.inj h
      subst h9
      exact xret (W.vret hx hb hr (fun t ht hW => ⟨_, rfl, ⟨⟨(), S33, rfl, rfl, by show va_P D xcl _ t.heap; rw [ht]; exact hP⟩, hS.F ht⟩⟩) hS.2.2 d_WO_next_204)
def f_WO_next_147 (S : XS)  : Option ((Unit × XS) ⊕ XS) :=
  if (xgi S 2 4) = (4 : Int32) then ((f_WO_fail S (2 : Int32)).bind (xT2 fun _ S20 => some (.inl ((), S20)))) else (if (xgi S 2 4) = (1 : Int32) then (if (12 : Int32) < ((xgi S 2 3) - (xgi S 2 2)) then ((f_WO_fail S (2 : Int32)).bind (xT2 fun _ S25 => some (.inl ((), S25)))) else (f_WO_next_177 S)) else (f_WO_next_177 S))
set_option maxHeartbeats 4000000 in
set_option maxRecDepth 100000 in
theorem k_WO_next_147 (l : Launch) (hq : l.stackTraces = false) {p : Program} {e : Env} {s : State} {m : MethodId} {args : Array Value} {below : List Frame} {meth : Method} {c : Code} {D : va_G} {lay : Nat → Nat} {cA : Nat → ClassId} {adK adV : Nat → Nat} {s0 : State} (C : xB p s m args meth c R_WO b_WO_next ((Option.none : Option Jvm.ClassFile.FieldType)) 1) (E : xE D lay cA adK adV s0 s s.heap) : ∀ (S : XS)  (r : (Unit × XS) ⊕ XS) (_ : f_WO_next_147 S = some r) (H : Heap) (locs : List Loc) (ls : Array Slot), va_P D xcl (xw lay cA S) H → va_S (xI lay) s.heap H locs → lv_has ls 1 [(0, .ref (lay 2))] → W p l e rm_WO_next s m args below meth c H locs 0 0 (XF below (xrv D lay cA r) (xrt D lay cA r) s 0 0 1 6 (xI lay)) (F0 m 147 ls []) := by
  obtain ⟨hx, hb, hr, hml, hown, hts, hlk, hnh⟩ := id C
  have hK := E.K
  intro S r h H locs ls hP hS hl
  unfold f_WO_next_147 at h
  refine lv_aload_n hx hb d_WO_next_147 rfl (lv_at hl 0 rfl) ?_
  refine va_get (v := .int (xgi S 2 4)) (C := R_WO) (T := F_WO) (N := 9) hx hb hts i_WO hown hK hP 2 (xw_at (by decide) (xc_2 _ _ _ _)) rfl 4 (by decide) (hts _ wd_37) (fun _ h9 => h9) rfl d_WO_next_148 ?_
  refine lv_iconst (v := (4 : Int32)) hx hb d_WO_next_151 (by decide) ?_
  refine lv_icmp_eq (tgt := 199) hx hb d_WO_next_152 (by decide) (fun c_29 => ?_) (fun c_29 => ?_)
  · have h := xif_t c_29 h
    refine lv_aload_n hx hb d_WO_next_199 rfl (lv_at hl 0 rfl) ?_
    refine lv_iconst (v := (2 : Int32)) hx hb d_WO_next_200 (by decide) ?_
    obtain ⟨q18, e17, h⟩ := xb h
    refine xk_v (xrunV (As := [.int (2 : Int32)]) (rest := []) ⟨hx, hb, hml, hown, hts⟩ (c_WO_fail l hq D lay cA adK adV s0 S (2 : Int32) q18 e17) (cwV 1 hts (xT_V wd_385 wd_386 wd_387 wd_2 wd_388) rfl rfl rfl (by decide +kernel) ⟨Nat.le_of_ble_eq_true rfl, Nat.le_of_ble_eq_true rfl⟩) (xpV E hP hS (by decide) (xc_2 _ _ _ _) rfl) rfl rfl hl.1 rfl (lv_room (Nat.le_of_ble_eq_true rfl)) d_WO_next_201 ⟨Nat.le_of_ble_eq_true rfl, Nat.le_of_ble_eq_true rfl⟩) hS hnh hlk (fun S9 e9 => by subst e9; exact (Option.some.inj h).symm) (fun v19 S20 w21 H locs hP hS => ?_)
    subst w21
    dsimp only [xT2] at h
    have h9 := Option.some.inj h
    subst h9
    exact xret (W.vret hx hb hr (fun t ht hW => ⟨_, rfl, ⟨⟨(), S20, rfl, rfl, by show va_P D xcl _ t.heap; rw [ht]; exact hP⟩, hS.F ht⟩⟩) hS.2.2 d_WO_next_204)
  · have h := xif_f c_29 h
    refine lv_aload_n hx hb d_WO_next_155 rfl (lv_at hl 0 rfl) ?_
    refine va_get (v := .int (xgi S 2 4)) (C := R_WO) (T := F_WO) (N := 9) hx hb hts i_WO hown hK hP 2 (xw_at (by decide) (xc_2 _ _ _ _)) rfl 4 (by decide) (hts _ wd_37) (fun _ h9 => h9) rfl d_WO_next_156 ?_
    refine lv_iconst (v := (1 : Int32)) hx hb d_WO_next_159 (by decide) ?_
    refine lv_icmp_ne (tgt := 177) hx hb d_WO_next_160 (by decide) (fun c_28 => ?_) (fun c_28 => ?_)
    · have h := xif_f c_28 h
      exact k_WO_next_177 l hq C E S  _ h H locs ls hP hS hl
    · have h := xif_t c_28 h
      refine lv_aload_n hx hb d_WO_next_163 rfl (lv_at hl 0 rfl) ?_
      refine va_get (v := .int (xgi S 2 3)) (C := R_WO) (T := F_WO) (N := 9) hx hb hts i_WO hown hK hP 2 (xw_at (by decide) (xc_2 _ _ _ _)) rfl 3 (by decide) (hts _ wd_36) (fun _ h9 => h9) rfl d_WO_next_164 ?_
      refine lv_aload_n hx hb d_WO_next_167 rfl (lv_at hl 0 rfl) ?_
      refine va_get (v := .int (xgi S 2 2)) (C := R_WO) (T := F_WO) (N := 9) hx hb hts i_WO hown hK hP 2 (xw_at (by decide) (xc_2 _ _ _ _)) rfl 2 (by decide) (hts _ wd_34) (fun _ h9 => h9) rfl d_WO_next_168 ?_
      refine lv_isub hx hb d_WO_next_171 ?_
      refine lv_bipush (v := (12 : Int32)) hx hb d_WO_next_172 (by decide) ?_
      refine lv_icmp_gt (tgt := 199) hx hb d_WO_next_174 (by decide) (fun c_27 => ?_) (fun c_27 => ?_)
      · have h := xif_t c_27 h
        refine lv_aload_n hx hb d_WO_next_199 rfl (lv_at hl 0 rfl) ?_
        refine lv_iconst (v := (2 : Int32)) hx hb d_WO_next_200 (by decide) ?_
        obtain ⟨q23, e22, h⟩ := xb h
        refine xk_v (xrunV (As := [.int (2 : Int32)]) (rest := []) ⟨hx, hb, hml, hown, hts⟩ (c_WO_fail l hq D lay cA adK adV s0 S (2 : Int32) q23 e22) (cwV 1 hts (xT_V wd_385 wd_386 wd_387 wd_2 wd_388) rfl rfl rfl (by decide +kernel) ⟨Nat.le_of_ble_eq_true rfl, Nat.le_of_ble_eq_true rfl⟩) (xpV E hP hS (by decide) (xc_2 _ _ _ _) rfl) rfl rfl hl.1 rfl (lv_room (Nat.le_of_ble_eq_true rfl)) d_WO_next_201 ⟨Nat.le_of_ble_eq_true rfl, Nat.le_of_ble_eq_true rfl⟩) hS hnh hlk (fun S9 e9 => by subst e9; exact (Option.some.inj h).symm) (fun v24 S25 w26 H locs hP hS => ?_)
        subst w26
        dsimp only [xT2] at h
        have h9 := Option.some.inj h
        subst h9
        exact xret (W.vret hx hb hr (fun t ht hW => ⟨_, rfl, ⟨⟨(), S25, rfl, rfl, by show va_P D xcl _ t.heap; rw [ht]; exact hP⟩, hS.F ht⟩⟩) hS.2.2 d_WO_next_204)
      · have h := xif_f c_27 h
        exact k_WO_next_177 l hq C E S  _ h H locs ls hP hS hl
def f_WO_next_96 (S : XS) (t0 : Int32) : Option ((Unit × XS) ⊕ XS) :=
  if (xgi (xpi S 2 4 t0) 2 4) = (1 : Int32) then ((f_WO_spell (xpi S 2 4 t0)).bind fun q15 => f_WO_next_147 q15) else (if (xgi (xpi S 2 4 t0) 2 4) = (2 : Int32) then ((f_WO_reckon (xpi S 2 4 t0)).bind fun q12 => f_WO_next_147 q12) else (if (xgi (xpi S 2 4 t0) 2 4) = (3 : Int32) then (f_WO_next_147 (xpi (xpi S 2 4 t0) 2 3 ((xgi (xpi S 2 4 t0) 2 3) + (1 : Int32)))) else (f_WO_next_147 (xpi S 2 4 t0))))
set_option maxHeartbeats 4000000 in
set_option maxRecDepth 100000 in
theorem k_WO_next_96 (l : Launch) (hq : l.stackTraces = false) {p : Program} {e : Env} {s : State} {m : MethodId} {args : Array Value} {below : List Frame} {meth : Method} {c : Code} {D : va_G} {lay : Nat → Nat} {cA : Nat → ClassId} {adK adV : Nat → Nat} {s0 : State} (C : xB p s m args meth c R_WO b_WO_next ((Option.none : Option Jvm.ClassFile.FieldType)) 1) (E : xE D lay cA adK adV s0 s s.heap) : ∀ (S : XS) (t0 : Int32) (r : (Unit × XS) ⊕ XS) (_ : f_WO_next_96 S t0 = some r) (H : Heap) (locs : List Loc) (ls : Array Slot), va_P D xcl (xw lay cA S) H → va_S (xI lay) s.heap H locs → lv_has ls 1 [(0, .ref (lay 2))] → W p l e rm_WO_next s m args below meth c H locs 0 0 (XF below (xrv D lay cA r) (xrt D lay cA r) s 0 0 1 6 (xI lay)) (F0 m 96 ls [.int t0, .ref (lay 2)]) := by
  obtain ⟨hx, hb, hr, hml, hown, hts, hlk, hnh⟩ := id C
  have hK := E.K
  intro S t0 r h H locs ls hP hS hl
  unfold f_WO_next_96 at h
  refine xput_WO_4 hx hb hts hown E hP hS (hts _ wd_37) d_WO_next_96 (fun H locs hP hS => ?_)
  refine lv_aload_n hx hb d_WO_next_99 rfl (lv_at hl 0 rfl) ?_
  refine va_get (v := .int (xgi (xpi S 2 4 t0) 2 4)) (C := R_WO) (T := F_WO) (N := 9) hx hb hts i_WO hown hK hP 2 (xw_at (by decide) (xc_2 _ _ _ _)) rfl 4 (by decide) (hts _ wd_37) (fun _ h9 => h9) rfl d_WO_next_100 ?_
  refine lv_iconst (v := (1 : Int32)) hx hb d_WO_next_103 (by decide) ?_
  refine lv_icmp_ne (tgt := 114) hx hb d_WO_next_104 (by decide) (fun c_16 => ?_) (fun c_16 => ?_)
  · have h := xif_f c_16 h
    refine lv_aload_n hx hb d_WO_next_114 rfl (lv_at hl 0 rfl) ?_
    refine va_get (v := .int (xgi (xpi S 2 4 t0) 2 4)) (C := R_WO) (T := F_WO) (N := 9) hx hb hts i_WO hown hK hP 2 (xw_at (by decide) (xc_2 _ _ _ _)) rfl 4 (by decide) (hts _ wd_37) (fun _ h9 => h9) rfl d_WO_next_115 ?_
    refine lv_iconst (v := (2 : Int32)) hx hb d_WO_next_118 (by decide) ?_
    refine lv_icmp_ne (tgt := 129) hx hb d_WO_next_119 (by decide) (fun c_13 => ?_) (fun c_13 => ?_)
    · have h := xif_f c_13 h
      refine lv_aload_n hx hb d_WO_next_129 rfl (lv_at hl 0 rfl) ?_
      refine va_get (v := .int (xgi (xpi S 2 4 t0) 2 4)) (C := R_WO) (T := F_WO) (N := 9) hx hb hts i_WO hown hK hP 2 (xw_at (by decide) (xc_2 _ _ _ _)) rfl 4 (by decide) (hts _ wd_37) (fun _ h9 => h9) rfl d_WO_next_130 ?_
      refine lv_iconst (v := (3 : Int32)) hx hb d_WO_next_133 (by decide) ?_
      refine lv_icmp_ne (tgt := 147) hx hb d_WO_next_134 (by decide) (fun c_10 => ?_) (fun c_10 => ?_)
      · have h := xif_f c_10 h
        exact k_WO_next_147 l hq C E (xpi S 2 4 t0)  _ h H locs ls hP hS hl
      · have h := xif_t c_10 h
        refine lv_aload_n hx hb d_WO_next_137 rfl (lv_at hl 0 rfl) ?_
        refine lv_dup hx hb d_WO_next_138 rfl ?_
        refine va_get (v := .int (xgi (xpi S 2 4 t0) 2 3)) (C := R_WO) (T := F_WO) (N := 9) hx hb hts i_WO hown hK hP 2 (xw_at (by decide) (xc_2 _ _ _ _)) rfl 3 (by decide) (hts _ wd_36) (fun _ h9 => h9) rfl d_WO_next_139 ?_
        refine lv_iconst (v := (1 : Int32)) hx hb d_WO_next_142 (by decide) ?_
        refine lv_iadd hx hb d_WO_next_143 ?_
        refine xput_WO_3 hx hb hts hown E hP hS (hts _ wd_36) d_WO_next_144 (fun H locs hP hS => ?_)
        exact k_WO_next_147 l hq C E (xpi (xpi S 2 4 t0) 2 3 ((xgi (xpi S 2 4 t0) 2 3) + (1 : Int32)))  _ h H locs ls hP hS hl
    · have h := xif_t c_13 h
      refine lv_aload_n hx hb d_WO_next_122 rfl (lv_at hl 0 rfl) ?_
      obtain ⟨q12, e11, h⟩ := xb h
      refine xc_v (va_runV (As := []) (rest := []) ⟨hx, hb, hml, hown, hts⟩ (c_WO_reckon l D lay cA adK adV s0 (xpi S 2 4 t0) q12 e11) (cwV 0 hts (xT_V wd_381 wd_383 wp_4 wd_2 wd_384) rfl rfl rfl (by decide +kernel) ⟨Nat.le_of_ble_eq_true rfl, Nat.le_of_ble_eq_true rfl⟩) (xpV E hP hS (by decide) (xc_2 _ _ _ _) rfl) rfl rfl hl.1 rfl (lv_room (Nat.le_of_ble_eq_true rfl)) d_WO_next_123 ⟨Nat.le_of_ble_eq_true rfl, Nat.le_of_ble_eq_true rfl⟩) hS (fun H locs hP hS => ?_)
      refine lv_goto (tgt := 147) hx hb d_WO_next_126 (by decide) ?_
      exact k_WO_next_147 l hq C E q12  _ h H locs ls hP hS hl
  · have h := xif_t c_16 h
    refine lv_aload_n hx hb d_WO_next_107 rfl (lv_at hl 0 rfl) ?_
    obtain ⟨q15, e14, h⟩ := xb h
    refine xc_v (va_runV (As := []) (rest := []) ⟨hx, hb, hml, hown, hts⟩ (c_WO_spell l D lay cA adK adV s0 (xpi S 2 4 t0) q15 e14) (cwV 0 hts (xT_V wd_376 wd_378 wp_3 wd_2 wd_379) rfl rfl rfl (by decide +kernel) ⟨Nat.le_of_ble_eq_true rfl, Nat.le_of_ble_eq_true rfl⟩) (xpV E hP hS (by decide) (xc_2 _ _ _ _) rfl) rfl rfl hl.1 rfl (lv_room (Nat.le_of_ble_eq_true rfl)) d_WO_next_108 ⟨Nat.le_of_ble_eq_true rfl, Nat.le_of_ble_eq_true rfl⟩) hS (fun H locs hP hS => ?_)
    refine lv_goto (tgt := 147) hx hb d_WO_next_111 (by decide) ?_
    exact k_WO_next_147 l hq C E q15  _ h H locs ls hP hS hl
def f_WO_next_60 (S : XS)  : Option ((Unit × XS) ⊕ XS) :=
  if (xgi (xpi S 2 3 (xgi S 2 2)) 2 1) ≤ (xgi (xpi S 2 3 (xgi S 2 2)) 2 2) then (f_WO_next_96 (xpi S 2 3 (xgi S 2 2)) (0 : Int32)) else (if ¬ ((xgi (xpi S 2 3 (xgi S 2 2)) 2 2) < 0 ∨ 2000 ≤ (xgi (xpi S 2 3 (xgi S 2 2)) 2 2).toNatClampNeg) then ((f_WO_kindOf (xpi S 2 3 (xgi S 2 2)) (xgi (xpi S 2 3 (xgi S 2 2)) 1 (xgi (xpi S 2 3 (xgi S 2 2)) 2 2).toNatClampNeg)).bind fun q8 => f_WO_next_96 (xpi S 2 3 (xgi S 2 2)) q8) else none)
set_option maxHeartbeats 4000000 in
set_option maxRecDepth 100000 in
theorem k_WO_next_60 (l : Launch) (hq : l.stackTraces = false) {p : Program} {e : Env} {s : State} {m : MethodId} {args : Array Value} {below : List Frame} {meth : Method} {c : Code} {D : va_G} {lay : Nat → Nat} {cA : Nat → ClassId} {adK adV : Nat → Nat} {s0 : State} (C : xB p s m args meth c R_WO b_WO_next ((Option.none : Option Jvm.ClassFile.FieldType)) 1) (E : xE D lay cA adK adV s0 s s.heap) : ∀ (S : XS)  (r : (Unit × XS) ⊕ XS) (_ : f_WO_next_60 S = some r) (H : Heap) (locs : List Loc) (ls : Array Slot), va_P D xcl (xw lay cA S) H → va_S (xI lay) s.heap H locs → lv_has ls 1 [(0, .ref (lay 2))] → W p l e rm_WO_next s m args below meth c H locs 0 0 (XF below (xrv D lay cA r) (xrt D lay cA r) s 0 0 1 6 (xI lay)) (F0 m 60 ls []) := by
  obtain ⟨hx, hb, hr, hml, hown, hts, hlk, hnh⟩ := id C
  have hK := E.K
  intro S r h H locs ls hP hS hl
  unfold f_WO_next_60 at h
  refine lv_aload_n hx hb d_WO_next_60 rfl (lv_at hl 0 rfl) ?_
  refine lv_aload_n hx hb d_WO_next_61 rfl (lv_at hl 0 rfl) ?_
  refine va_get (v := .int (xgi S 2 2)) (C := R_WO) (T := F_WO) (N := 9) hx hb hts i_WO hown hK hP 2 (xw_at (by decide) (xc_2 _ _ _ _)) rfl 2 (by decide) (hts _ wd_34) (fun _ h9 => h9) rfl d_WO_next_62 ?_
  refine xput_WO_3 hx hb hts hown E hP hS (hts _ wd_36) d_WO_next_65 (fun H locs hP hS => ?_)
  refine lv_aload_n hx hb d_WO_next_68 rfl (lv_at hl 0 rfl) ?_
  refine lv_aload_n hx hb d_WO_next_69 rfl (lv_at hl 0 rfl) ?_
  refine va_get (v := .int (xgi (xpi S 2 3 (xgi S 2 2)) 2 2)) (C := R_WO) (T := F_WO) (N := 9) hx hb hts i_WO hown hK hP 2 (xw_at (by decide) (xc_2 _ _ _ _)) rfl 2 (by decide) (hts _ wd_34) (fun _ h9 => h9) rfl d_WO_next_70 ?_
  refine lv_aload_n hx hb d_WO_next_73 rfl (lv_at hl 0 rfl) ?_
  refine va_get (v := .int (xgi (xpi S 2 3 (xgi S 2 2)) 2 1)) (C := R_WO) (T := F_WO) (N := 9) hx hb hts i_WO hown hK hP 2 (xw_at (by decide) (xc_2 _ _ _ _)) rfl 1 (by decide) (hts _ wd_33) (fun _ h9 => h9) rfl d_WO_next_74 ?_
  refine lv_icmp_ge (tgt := 95) hx hb d_WO_next_77 (by decide) (fun c_9 => ?_) (fun c_9 => ?_)
  · have h := xif_t c_9 h
    refine lv_iconst (v := (0 : Int32)) hx hb d_WO_next_95 (by decide) ?_
    exact k_WO_next_96 l hq C E (xpi S 2 3 (xgi S 2 2)) (0 : Int32) _ h H locs ls hP hS hl
  · have h := xif_f c_9 h
    refine lv_aload_n hx hb d_WO_next_80 rfl (lv_at hl 0 rfl) ?_
    refine va_get (v := .ref (lay 1)) (C := R_WO) (T := F_WO) (N := 9) hx hb hts i_WO hown hK hP 2 (xw_at (by decide) (xc_2 _ _ _ _)) rfl 0 (by decide) (hts _ wd_32) (fun _ h9 => h9) rfl d_WO_next_81 ?_
    refine lv_aload_n hx hb d_WO_next_84 rfl (lv_at hl 0 rfl) ?_
    refine va_get (v := .int (xgi (xpi S 2 3 (xgi S 2 2)) 2 2)) (C := R_WO) (T := F_WO) (N := 9) hx hb hts i_WO hown hK hP 2 (xw_at (by decide) (xc_2 _ _ _ _)) rfl 2 (by decide) (hts _ wd_34) (fun _ h9 => h9) rfl d_WO_next_85 ?_
    obtain ⟨hg6, h⟩ := xg h
    refine xal_tx hx hb E hP hg6 d_WO_next_88 ?_
    obtain ⟨q8, e7, h⟩ := xb h
    refine xc_i (va_runS (As := [.int (xgi (xpi S 2 3 (xgi S 2 2)) 1 (xgi (xpi S 2 3 (xgi S 2 2)) 2 2).toNatClampNeg)]) (rest := [.ref (lay 2)]) ⟨hx, hb, hml, hown, hts⟩ (c_WO_kindOf l D lay cA adK adV s0 (xpi S 2 3 (xgi S 2 2)) (xgi (xpi S 2 3 (xgi S 2 2)) 1 (xgi (xpi S 2 3 (xgi S 2 2)) 2 2).toNatClampNeg) q8 e7) ⟨callB_of 1 hts (xT_I wd_290) rfl rfl rfl (hts _ wd_2) (hts _ wd_288) (by decide +kernel) ⟨Nat.le_of_ble_eq_true rfl, Nat.le_of_ble_eq_true rfl⟩, hts _ wd_289⟩ (xpS E hP hS) rfl rfl hl.1 rfl (lv_room (Nat.le_of_ble_eq_true rfl)) d_WO_next_89 ⟨Nat.le_of_ble_eq_true rfl, Nat.le_of_ble_eq_true rfl⟩) hS (fun H locs hP hS => ?_)
    refine lv_goto (tgt := 96) hx hb d_WO_next_92 (by decide) ?_
    exact k_WO_next_96 l hq C E (xpi S 2 3 (xgi S 2 2)) q8 _ h H locs ls hP hS hl
def f_WO_next_8 : Nat → XS → Option ((Unit × XS) ⊕ XS)
  | 0, _ => none
  | n + 1, S =>
    if (xgi S 2 1) ≤ (xgi S 2 2) then (f_WO_next_60 S) else (if ¬ ((xgi S 2 2) < 0 ∨ 2000 ≤ (xgi S 2 2).toNatClampNeg) then (if (xgi S 1 (xgi S 2 2).toNatClampNeg) = (32 : Int32) then (f_WO_next_8 n (xpi S 2 2 ((xgi S 2 2) + (1 : Int32)))) else (if ¬ ((xgi S 2 2) < 0 ∨ 2000 ≤ (xgi S 2 2).toNatClampNeg) then (if (xgi S 1 (xgi S 2 2).toNatClampNeg) = (10 : Int32) then (f_WO_next_8 n (xpi S 2 2 ((xgi S 2 2) + (1 : Int32)))) else (f_WO_next_60 S)) else none)) else none)
set_option maxHeartbeats 4000000 in
set_option maxRecDepth 100000 in
theorem k_WO_next_8 (l : Launch) (hq : l.stackTraces = false) {p : Program} {e : Env} {s : State} {m : MethodId} {args : Array Value} {below : List Frame} {meth : Method} {c : Code} {D : va_G} {lay : Nat → Nat} {cA : Nat → ClassId} {adK adV : Nat → Nat} {s0 : State} (C : xB p s m args meth c R_WO b_WO_next ((Option.none : Option Jvm.ClassFile.FieldType)) 1) (E : xE D lay cA adK adV s0 s s.heap) : ∀ (n : Nat) (S : XS)  (r : (Unit × XS) ⊕ XS) (_ : f_WO_next_8 n S = some r) (H : Heap) (locs : List Loc) (ls : Array Slot), va_P D xcl (xw lay cA S) H → va_S (xI lay) s.heap H locs → lv_has ls 1 [(0, .ref (lay 2))] → W p l e rm_WO_next s m args below meth c H locs 0 0 (XF below (xrv D lay cA r) (xrt D lay cA r) s 0 0 1 6 (xI lay)) (F0 m 8 ls []) := by
  obtain ⟨hx, hb, hr, hml, hown, hts, hlk, hnh⟩ := id C
  have hK := E.K
  intro n
  induction n with
  | zero => intro S r h; rw [f_WO_next_8] at h; cases h
  | succ n ih =>
    intro S r h H locs ls hP hS hl
    rw [f_WO_next_8] at h
    refine lv_aload_n hx hb d_WO_next_8 rfl (lv_at hl 0 rfl) ?_
    refine va_get (v := .int (xgi S 2 2)) (C := R_WO) (T := F_WO) (N := 9) hx hb hts i_WO hown hK hP 2 (xw_at (by decide) (xc_2 _ _ _ _)) rfl 2 (by decide) (hts _ wd_34) (fun _ h9 => h9) rfl d_WO_next_9 ?_
    refine lv_aload_n hx hb d_WO_next_12 rfl (lv_at hl 0 rfl) ?_
    refine va_get (v := .int (xgi S 2 1)) (C := R_WO) (T := F_WO) (N := 9) hx hb hts i_WO hown hK hP 2 (xw_at (by decide) (xc_2 _ _ _ _)) rfl 1 (by decide) (hts _ wd_33) (fun _ h9 => h9) rfl d_WO_next_13 ?_
    refine lv_icmp_ge (tgt := 60) hx hb d_WO_next_16 (by decide) (fun c_5 => ?_) (fun c_5 => ?_)
    · have h := xif_t c_5 h
      exact k_WO_next_60 l hq C E S  _ h H locs ls hP hS hl
    · have h := xif_f c_5 h
      refine lv_aload_n hx hb d_WO_next_19 rfl (lv_at hl 0 rfl) ?_
      refine va_get (v := .ref (lay 1)) (C := R_WO) (T := F_WO) (N := 9) hx hb hts i_WO hown hK hP 2 (xw_at (by decide) (xc_2 _ _ _ _)) rfl 0 (by decide) (hts _ wd_32) (fun _ h9 => h9) rfl d_WO_next_20 ?_
      refine lv_aload_n hx hb d_WO_next_23 rfl (lv_at hl 0 rfl) ?_
      refine va_get (v := .int (xgi S 2 2)) (C := R_WO) (T := F_WO) (N := 9) hx hb hts i_WO hown hK hP 2 (xw_at (by decide) (xc_2 _ _ _ _)) rfl 2 (by decide) (hts _ wd_34) (fun _ h9 => h9) rfl d_WO_next_24 ?_
      obtain ⟨hg1, h⟩ := xg h
      refine xal_tx hx hb E hP hg1 d_WO_next_27 ?_
      refine lv_bipush (v := (32 : Int32)) hx hb d_WO_next_28 (by decide) ?_
      refine lv_icmp_eq (tgt := 47) hx hb d_WO_next_30 (by decide) (fun c_4 => ?_) (fun c_4 => ?_)
      · have h := xif_t c_4 h
        refine lv_aload_n hx hb d_WO_next_47 rfl (lv_at hl 0 rfl) ?_
        refine lv_dup hx hb d_WO_next_48 rfl ?_
        refine va_get (v := .int (xgi S 2 2)) (C := R_WO) (T := F_WO) (N := 9) hx hb hts i_WO hown hK hP 2 (xw_at (by decide) (xc_2 _ _ _ _)) rfl 2 (by decide) (hts _ wd_34) (fun _ h9 => h9) rfl d_WO_next_49 ?_
        refine lv_iconst (v := (1 : Int32)) hx hb d_WO_next_52 (by decide) ?_
        refine lv_iadd hx hb d_WO_next_53 ?_
        refine xput_WO_2 hx hb hts hown E hP hS (hts _ wd_34) d_WO_next_54 (fun H locs hP hS => ?_)
        refine lv_goto (tgt := 8) hx hb d_WO_next_57 (by decide) ?_
        exact ih (xpi S 2 2 ((xgi S 2 2) + (1 : Int32)))  _ h H locs ls hP hS hl
      · have h := xif_f c_4 h
        refine lv_aload_n hx hb d_WO_next_33 rfl (lv_at hl 0 rfl) ?_
        refine va_get (v := .ref (lay 1)) (C := R_WO) (T := F_WO) (N := 9) hx hb hts i_WO hown hK hP 2 (xw_at (by decide) (xc_2 _ _ _ _)) rfl 0 (by decide) (hts _ wd_32) (fun _ h9 => h9) rfl d_WO_next_34 ?_
        refine lv_aload_n hx hb d_WO_next_37 rfl (lv_at hl 0 rfl) ?_
        refine va_get (v := .int (xgi S 2 2)) (C := R_WO) (T := F_WO) (N := 9) hx hb hts i_WO hown hK hP 2 (xw_at (by decide) (xc_2 _ _ _ _)) rfl 2 (by decide) (hts _ wd_34) (fun _ h9 => h9) rfl d_WO_next_38 ?_
        obtain ⟨hg2, h⟩ := xg h
        refine xal_tx hx hb E hP hg2 d_WO_next_41 ?_
        refine lv_bipush (v := (10 : Int32)) hx hb d_WO_next_42 (by decide) ?_
        refine lv_icmp_ne (tgt := 60) hx hb d_WO_next_44 (by decide) (fun c_3 => ?_) (fun c_3 => ?_)
        · have h := xif_f c_3 h
          exact k_WO_next_60 l hq C E S  _ h H locs ls hP hS hl
        · have h := xif_t c_3 h
          refine lv_aload_n hx hb d_WO_next_47 rfl (lv_at hl 0 rfl) ?_
          refine lv_dup hx hb d_WO_next_48 rfl ?_
          refine va_get (v := .int (xgi S 2 2)) (C := R_WO) (T := F_WO) (N := 9) hx hb hts i_WO hown hK hP 2 (xw_at (by decide) (xc_2 _ _ _ _)) rfl 2 (by decide) (hts _ wd_34) (fun _ h9 => h9) rfl d_WO_next_49 ?_
          refine lv_iconst (v := (1 : Int32)) hx hb d_WO_next_52 (by decide) ?_
          refine lv_iadd hx hb d_WO_next_53 ?_
          refine xput_WO_2 hx hb hts hown E hP hS (hts _ wd_34) d_WO_next_54 (fun H locs hP hS => ?_)
          refine lv_goto (tgt := 8) hx hb d_WO_next_57 (by decide) ?_
          exact ih (xpi S 2 2 ((xgi S 2 2) + (1 : Int32)))  _ h H locs ls hP hS hl
def f_WO_next (S : XS)  : Option ((Unit × XS) ⊕ XS) :=
  f_WO_next_8 4096 (xpi S 2 2 (xgi S 2 3))
set_option maxHeartbeats 4000000 in
set_option maxRecDepth 100000 in
theorem k_WO_next (l : Launch) (hq : l.stackTraces = false) {p : Program} {e : Env} {s : State} {m : MethodId} {args : Array Value} {below : List Frame} {meth : Method} {c : Code} {D : va_G} {lay : Nat → Nat} {cA : Nat → ClassId} {adK adV : Nat → Nat} {s0 : State} (C : xB p s m args meth c R_WO b_WO_next ((Option.none : Option Jvm.ClassFile.FieldType)) 1) (E : xE D lay cA adK adV s0 s s.heap) : ∀ (S : XS)  (r : (Unit × XS) ⊕ XS) (_ : f_WO_next S = some r) (H : Heap) (locs : List Loc) (ls : Array Slot), va_P D xcl (xw lay cA S) H → va_S (xI lay) s.heap H locs → lv_has ls 1 [(0, .ref (lay 2))] → W p l e rm_WO_next s m args below meth c H locs 0 0 (XF below (xrv D lay cA r) (xrt D lay cA r) s 0 0 1 6 (xI lay)) (F0 m 0 ls []) := by
  obtain ⟨hx, hb, hr, hml, hown, hts, hlk, hnh⟩ := id C
  have hK := E.K
  intro S r h H locs ls hP hS hl
  unfold f_WO_next at h
  refine lv_aload_n hx hb d_WO_next_0 rfl (lv_at hl 0 rfl) ?_
  refine lv_aload_n hx hb d_WO_next_1 rfl (lv_at hl 0 rfl) ?_
  refine va_get (v := .int (xgi S 2 3)) (C := R_WO) (T := F_WO) (N := 9) hx hb hts i_WO hown hK hP 2 (xw_at (by decide) (xc_2 _ _ _ _)) rfl 3 (by decide) (hts _ wd_36) (fun _ h9 => h9) rfl d_WO_next_2 ?_
  refine xput_WO_2 hx hb hts hown E hP hS (hts _ wd_34) d_WO_next_5 (fun H locs hP hS => ?_)
  exact k_WO_next_8 l hq C E 4096 (xpi S 2 2 (xgi S 2 3))  _ h H locs ls hP hS hl
theorem c_WO_next (l : Launch) (hq : l.stackTraces = false) (D : va_G) (lay : Nat → Nat) (cA : Nat → ClassId) (adK adV : Nat → Nat) (s0 : State) (S : XS)  (r : (Unit × XS) ⊕ XS) (h : f_WO_next S  = some r) : MetX l y_WO_next (.code y_WO_next b_WO_next 1 ((Option.none : Option Jvm.ClassFile.FieldType)) :: xT) rm_WO_next (xPc D lay cA adK adV s0 S [.ref (lay 2)]) (xrv D lay cA r) (xrt D lay cA r) 0 0 1 6 (xI lay) := by
  refine MetX.ofW (cc := b_WO_next) (maxL := 1) (ret := (Option.none : Option Jvm.ClassFile.FieldType)) (by decide +kernel) rfl ?_
  intro p e s m args below meth c s₁ B hml hv
  obtain ⟨rfl, hP, E⟩ := hv
  have C := xB_of B hml
  have hl := lv_entry ([.ref (lay 2)]) (n := 1) (Nat.le_of_ble_eq_true rfl)
  rw [lg_entry_eq]
  generalize (lg_sl ([.ref (lay 2)]) ++ List.replicate (1 - (lg_sl ([.ref (lay 2)])).length) Slot.unset).toArray = ls at hl ⊢
  exact k_WO_next l hq C E S  r h s.heap [] ls hP va_S.rf hl
/-! ConfigTexts$Words.begin(I)V -/
def rm_WO_begin : Room := { frames := 8, cells := 1, slots := 6, locals := 141 }
theorem d_WO_begin_0 : decode b_WO_begin 0 = .ok (.aload_n 0, 1) := by decide +kernel
theorem d_WO_begin_1 : decode b_WO_begin 1 = .ok (.iload_n 1, 1) := by decide +kernel
theorem d_WO_begin_2 : decode b_WO_begin 2 = .ok (.aload_n 0, 1) := by decide +kernel
theorem d_WO_begin_3 : decode b_WO_begin 3 = .ok (.getfield 9, 3) := by decide +kernel
theorem d_WO_begin_6 : decode b_WO_begin 6 = .ok (.arraylength, 1) := by decide +kernel
theorem d_WO_begin_7 : decode b_WO_begin 7 = .ok (.invokestatic 25, 3) := by decide +kernel
theorem d_WO_begin_10 : decode b_WO_begin 10 = .ok (.putfield 31, 3) := by decide +kernel
theorem d_WO_begin_13 : decode b_WO_begin 13 = .ok (.aload_n 0, 1) := by decide +kernel
theorem d_WO_begin_14 : decode b_WO_begin 14 = .ok (.iconst 0, 1) := by decide +kernel
theorem d_WO_begin_15 : decode b_WO_begin 15 = .ok (.putfield 34, 3) := by decide +kernel
theorem d_WO_begin_18 : decode b_WO_begin 18 = .ok (.aload_n 0, 1) := by decide +kernel
theorem d_WO_begin_19 : decode b_WO_begin 19 = .ok (.iconst 0, 1) := by decide +kernel
theorem d_WO_begin_20 : decode b_WO_begin 20 = .ok (.putfield 19, 3) := by decide +kernel
theorem d_WO_begin_23 : decode b_WO_begin 23 = .ok (.aload_n 0, 1) := by decide +kernel
theorem d_WO_begin_24 : decode b_WO_begin 24 = .ok (.iconst (-1), 1) := by decide +kernel
theorem d_WO_begin_25 : decode b_WO_begin 25 = .ok (.putfield 22, 3) := by decide +kernel
theorem d_WO_begin_28 : decode b_WO_begin 28 = .ok (.aload_n 0, 1) := by decide +kernel
theorem d_WO_begin_29 : decode b_WO_begin 29 = .ok (.invokevirtual 37, 3) := by decide +kernel
theorem d_WO_begin_32 : decode b_WO_begin 32 = .ok (.return_, 1) := by decide +kernel
def f_WO_begin (S : XS) (a1 : Int32) : Option ((Unit × XS) ⊕ XS) :=
  (f_WO_next (xpi (xpi (xpi (xpi S 2 1 (if (2000 : Int32) < a1 then (2000 : Int32) else a1)) 2 3 (0 : Int32)) 2 7 (0 : Int32)) 2 8 (-1 : Int32))).bind (xT2 fun _ S4 => some (.inl ((), S4)))
set_option maxHeartbeats 4000000 in
set_option maxRecDepth 100000 in
theorem k_WO_begin (l : Launch) (hq : l.stackTraces = false) {p : Program} {e : Env} {s : State} {m : MethodId} {args : Array Value} {below : List Frame} {meth : Method} {c : Code} {D : va_G} {lay : Nat → Nat} {cA : Nat → ClassId} {adK adV : Nat → Nat} {s0 : State} (C : xB p s m args meth c R_WO b_WO_begin ((Option.none : Option Jvm.ClassFile.FieldType)) 2) (E : xE D lay cA adK adV s0 s s.heap) : ∀ (S : XS) (a1 : Int32) (r : (Unit × XS) ⊕ XS) (_ : f_WO_begin S a1 = some r) (H : Heap) (locs : List Loc) (ls : Array Slot), va_P D xcl (xw lay cA S) H → va_S (xI lay) s.heap H locs → lv_has ls 2 [(0, .ref (lay 2)), (1, .int a1)] → W p l e rm_WO_begin s m args below meth c H locs 0 0 (XF below (xrv D lay cA r) (xrt D lay cA r) s 0 0 1 6 (xI lay)) (F0 m 0 ls []) := by
  obtain ⟨hx, hb, hr, hml, hown, hts, hlk, hnh⟩ := id C
  have hK := E.K
  intro S a1 r h H locs ls hP hS hl
  unfold f_WO_begin at h
  refine lv_aload_n hx hb d_WO_begin_0 rfl (lv_at hl 0 rfl) ?_
  refine lv_iload_n hx hb d_WO_begin_1 rfl (lv_at hl 1 rfl) ?_
  refine lv_aload_n hx hb d_WO_begin_2 rfl (lv_at hl 0 rfl) ?_
  refine va_get (v := .ref (lay 1)) (C := R_WO) (T := F_WO) (N := 9) hx hb hts i_WO hown hK hP 2 (xw_at (by decide) (xc_2 _ _ _ _)) rfl 0 (by decide) (hts _ wd_32) (fun _ h9 => h9) rfl d_WO_begin_3 ?_
  refine va_alen (v := (2000 : Int32)) hx hb hK hP 1 0 (xw_at (by decide) (xc_1 _ _ _ _)) rfl rfl d_WO_begin_6 ?_
  refine va_mmin hx hb (hml.trans hl.1.symm) hown (hts _ wd_281) (hts _ wd_282) (hts _ wd_8) (hts _ wd_283) (Nat.le_of_ble_eq_true rfl) (Nat.le_of_ble_eq_true rfl) (Nat.zero_le _) (Nat.zero_le _) d_WO_begin_7 ?_
  refine xput_WO_1 hx hb hts hown E hP hS (hts _ wd_33) d_WO_begin_10 (fun H locs hP hS => ?_)
  refine lv_aload_n hx hb d_WO_begin_13 rfl (lv_at hl 0 rfl) ?_
  refine lv_iconst (v := (0 : Int32)) hx hb d_WO_begin_14 (by decide) ?_
  refine xput_WO_3 hx hb hts hown E hP hS (hts _ wd_36) d_WO_begin_15 (fun H locs hP hS => ?_)
  refine lv_aload_n hx hb d_WO_begin_18 rfl (lv_at hl 0 rfl) ?_
  refine lv_iconst (v := (0 : Int32)) hx hb d_WO_begin_19 (by decide) ?_
  refine xput_WO_7 hx hb hts hown E hP hS (hts _ wd_40) d_WO_begin_20 (fun H locs hP hS => ?_)
  refine lv_aload_n hx hb d_WO_begin_23 rfl (lv_at hl 0 rfl) ?_
  refine lv_iconst (v := (-1 : Int32)) hx hb d_WO_begin_24 (by decide) ?_
  refine xput_WO_8 hx hb hts hown E hP hS (hts _ wd_42) d_WO_begin_25 (fun H locs hP hS => ?_)
  refine lv_aload_n hx hb d_WO_begin_28 rfl (lv_at hl 0 rfl) ?_
  obtain ⟨q2, e1, h⟩ := xb h
  refine xk_v (xrunV (As := []) (rest := []) ⟨hx, hb, hml, hown, hts⟩ (c_WO_next l hq D lay cA adK adV s0 (xpi (xpi (xpi (xpi S 2 1 (if (2000 : Int32) < a1 then (2000 : Int32) else a1)) 2 3 (0 : Int32)) 2 7 (0 : Int32)) 2 8 (-1 : Int32)) q2 e1) (cwV 0 hts (xT_V wd_284 wd_285 wd_286 wd_2 wd_287) rfl rfl rfl (by decide +kernel) ⟨Nat.le_of_ble_eq_true rfl, Nat.le_of_ble_eq_true rfl⟩) (xpV E hP hS (by decide) (xc_2 _ _ _ _) rfl) rfl rfl hl.1 rfl (lv_room (Nat.le_of_ble_eq_true rfl)) d_WO_begin_29 ⟨Nat.le_of_ble_eq_true rfl, Nat.le_of_ble_eq_true rfl⟩) hS hnh hlk (fun S9 e9 => by subst e9; exact (Option.some.inj h).symm) (fun v3 S4 w5 H locs hP hS => ?_)
  subst w5
  dsimp only [xT2] at h
  have h9 := Option.some.inj h
  subst h9
  exact xret (W.vret hx hb hr (fun t ht hW => ⟨_, rfl, ⟨⟨(), S4, rfl, rfl, by show va_P D xcl _ t.heap; rw [ht]; exact hP⟩, hS.F ht⟩⟩) hS.2.2 d_WO_begin_32)
theorem c_WO_begin (l : Launch) (hq : l.stackTraces = false) (D : va_G) (lay : Nat → Nat) (cA : Nat → ClassId) (adK adV : Nat → Nat) (s0 : State) (S : XS) (a1 : Int32) (r : (Unit × XS) ⊕ XS) (h : f_WO_begin S a1 = some r) : MetX l y_WO_begin (.code y_WO_begin b_WO_begin 2 ((Option.none : Option Jvm.ClassFile.FieldType)) :: xT) rm_WO_begin (xPc D lay cA adK adV s0 S [.ref (lay 2), .int a1]) (xrv D lay cA r) (xrt D lay cA r) 0 0 1 6 (xI lay) := by
  refine MetX.ofW (cc := b_WO_begin) (maxL := 2) (ret := (Option.none : Option Jvm.ClassFile.FieldType)) (by decide +kernel) rfl ?_
  intro p e s m args below meth c s₁ B hml hv
  obtain ⟨rfl, hP, E⟩ := hv
  have C := xB_of B hml
  have hl := lv_entry ([.ref (lay 2), .int a1]) (n := 2) (Nat.le_of_ble_eq_true rfl)
  rw [lg_entry_eq]
  generalize (lg_sl ([.ref (lay 2), .int a1]) ++ List.replicate (2 - (lg_sl ([.ref (lay 2), .int a1])).length) Slot.unset).toArray = ls at hl ⊢
  exact k_WO_begin l hq C E S a1 r h s.heap [] ls hP va_S.rf hl
/-! ConfigTexts$Words.failAt(II)V -/
def rm_WO_failAt : Room := { frames := 7, cells := 1, slots := 6, locals := 121 }
theorem d_WO_failAt_0 : decode b_WO_failAt 0 = .ok (.aload_n 0, 1) := by decide +kernel
theorem d_WO_failAt_1 : decode b_WO_failAt 1 = .ok (.iload_n 2, 1) := by decide +kernel
theorem d_WO_failAt_2 : decode b_WO_failAt 2 = .ok (.putfield 40, 3) := by decide +kernel
theorem d_WO_failAt_5 : decode b_WO_failAt 5 = .ok (.aload_n 0, 1) := by decide +kernel
theorem d_WO_failAt_6 : decode b_WO_failAt 6 = .ok (.iload_n 1, 1) := by decide +kernel
theorem d_WO_failAt_7 : decode b_WO_failAt 7 = .ok (.invokevirtual 50, 3) := by decide +kernel
theorem d_WO_failAt_10 : decode b_WO_failAt 10 = .ok (.return_, 1) := by decide +kernel
def f_WO_failAt (S : XS) (a1 : Int32) (a2 : Int32) : Option ((Unit × XS) ⊕ XS) :=
  (f_WO_fail (xpi S 2 2 a2) a1).bind (xT2 fun _ S4 => some (.inl ((), S4)))
set_option maxHeartbeats 4000000 in
set_option maxRecDepth 100000 in
theorem k_WO_failAt (l : Launch) (hq : l.stackTraces = false) {p : Program} {e : Env} {s : State} {m : MethodId} {args : Array Value} {below : List Frame} {meth : Method} {c : Code} {D : va_G} {lay : Nat → Nat} {cA : Nat → ClassId} {adK adV : Nat → Nat} {s0 : State} (C : xB p s m args meth c R_WO b_WO_failAt ((Option.none : Option Jvm.ClassFile.FieldType)) 3) (E : xE D lay cA adK adV s0 s s.heap) : ∀ (S : XS) (a1 : Int32) (a2 : Int32) (r : (Unit × XS) ⊕ XS) (_ : f_WO_failAt S a1 a2 = some r) (H : Heap) (locs : List Loc) (ls : Array Slot), va_P D xcl (xw lay cA S) H → va_S (xI lay) s.heap H locs → lv_has ls 3 [(0, .ref (lay 2)), (1, .int a1), (2, .int a2)] → W p l e rm_WO_failAt s m args below meth c H locs 0 0 (XF below (xrv D lay cA r) (xrt D lay cA r) s 0 0 1 6 (xI lay)) (F0 m 0 ls []) := by
  obtain ⟨hx, hb, hr, hml, hown, hts, hlk, hnh⟩ := id C
  have hK := E.K
  intro S a1 a2 r h H locs ls hP hS hl
  unfold f_WO_failAt at h
  refine lv_aload_n hx hb d_WO_failAt_0 rfl (lv_at hl 0 rfl) ?_
  refine lv_iload_n hx hb d_WO_failAt_1 rfl (lv_at hl 2 rfl) ?_
  refine xput_WO_2 hx hb hts hown E hP hS (hts _ wd_34) d_WO_failAt_2 (fun H locs hP hS => ?_)
  refine lv_aload_n hx hb d_WO_failAt_5 rfl (lv_at hl 0 rfl) ?_
  refine lv_iload_n hx hb d_WO_failAt_6 rfl (lv_at hl 1 rfl) ?_
  obtain ⟨q2, e1, h⟩ := xb h
  refine xk_v (xrunV (As := [.int a1]) (rest := []) ⟨hx, hb, hml, hown, hts⟩ (c_WO_fail l hq D lay cA adK adV s0 (xpi S 2 2 a2) a1 q2 e1) (cwV 1 hts (xT_V wd_385 wd_386 wd_387 wd_2 wd_388) rfl rfl rfl (by decide +kernel) ⟨Nat.le_of_ble_eq_true rfl, Nat.le_of_ble_eq_true rfl⟩) (xpV E hP hS (by decide) (xc_2 _ _ _ _) rfl) rfl rfl hl.1 rfl (lv_room (Nat.le_of_ble_eq_true rfl)) d_WO_failAt_7 ⟨Nat.le_of_ble_eq_true rfl, Nat.le_of_ble_eq_true rfl⟩) hS hnh hlk (fun S9 e9 => by subst e9; exact (Option.some.inj h).symm) (fun v3 S4 w5 H locs hP hS => ?_)
  subst w5
  dsimp only [xT2] at h
  have h9 := Option.some.inj h
  subst h9
  exact xret (W.vret hx hb hr (fun t ht hW => ⟨_, rfl, ⟨⟨(), S4, rfl, rfl, by show va_P D xcl _ t.heap; rw [ht]; exact hP⟩, hS.F ht⟩⟩) hS.2.2 d_WO_failAt_10)
theorem c_WO_failAt (l : Launch) (hq : l.stackTraces = false) (D : va_G) (lay : Nat → Nat) (cA : Nat → ClassId) (adK adV : Nat → Nat) (s0 : State) (S : XS) (a1 : Int32) (a2 : Int32) (r : (Unit × XS) ⊕ XS) (h : f_WO_failAt S a1 a2 = some r) : MetX l y_WO_failAt (.code y_WO_failAt b_WO_failAt 3 ((Option.none : Option Jvm.ClassFile.FieldType)) :: xT) rm_WO_failAt (xPc D lay cA adK adV s0 S [.ref (lay 2), .int a1, .int a2]) (xrv D lay cA r) (xrt D lay cA r) 0 0 1 6 (xI lay) := by
  refine MetX.ofW (cc := b_WO_failAt) (maxL := 3) (ret := (Option.none : Option Jvm.ClassFile.FieldType)) (by decide +kernel) rfl ?_
  intro p e s m args below meth c s₁ B hml hv
  obtain ⟨rfl, hP, E⟩ := hv
  have C := xB_of B hml
  have hl := lv_entry ([.ref (lay 2), .int a1, .int a2]) (n := 3) (Nat.le_of_ble_eq_true rfl)
  rw [lg_entry_eq]
  generalize (lg_sl ([.ref (lay 2), .int a1, .int a2]) ++ List.replicate (3 - (lg_sl ([.ref (lay 2), .int a1, .int a2])).length) Slot.unset).toArray = ls at hl ⊢
  exact k_WO_failAt l hq C E S a1 a2 r h s.heap [] ls hP va_S.rf hl
/-! ConfigTexts$Words.whichOf(Ljava/lang/String;)I -/
def rm_WO_whichOf : Room := { frames := 4, cells := 0, slots := 0, locals := 85 }
theorem d_WO_whichOf_0 : decode b_WO_whichOf 0 = .ok (.iconst 0, 1) := by decide +kernel
theorem d_WO_whichOf_1 : decode b_WO_whichOf 1 = .ok (.istore_n 2, 1) := by decide +kernel
theorem d_WO_whichOf_2 : decode b_WO_whichOf 2 = .ok (.aload_n 0, 1) := by decide +kernel
theorem d_WO_whichOf_3 : decode b_WO_whichOf 3 = .ok (.getfield 40, 3) := by decide +kernel
theorem d_WO_whichOf_6 : decode b_WO_whichOf 6 = .ok (.istore_n 3, 1) := by decide +kernel
theorem d_WO_whichOf_7 : decode b_WO_whichOf 7 = .ok (.iconst 1, 1) := by decide +kernel
theorem d_WO_whichOf_8 : decode b_WO_whichOf 8 = .ok (.istore 4, 2) := by decide +kernel
theorem d_WO_whichOf_10 : decode b_WO_whichOf 10 = .ok (.iconst 0, 1) := by decide +kernel
theorem d_WO_whichOf_11 : decode b_WO_whichOf 11 = .ok (.istore 5, 2) := by decide +kernel
theorem d_WO_whichOf_13 : decode b_WO_whichOf 13 = .ok (.iload 5, 2) := by decide +kernel
theorem d_WO_whichOf_15 : decode b_WO_whichOf 15 = .ok (.aload_n 1, 1) := by decide +kernel
theorem d_WO_whichOf_16 : decode b_WO_whichOf 16 = .ok (.invokevirtual 81, 3) := by decide +kernel
theorem d_WO_whichOf_19 : decode b_WO_whichOf 19 = .ok (.if_icmp .gt 101, 3) := by decide +kernel
theorem d_WO_whichOf_22 : decode b_WO_whichOf 22 = .ok (.iload 5, 2) := by decide +kernel
theorem d_WO_whichOf_24 : decode b_WO_whichOf 24 = .ok (.aload_n 1, 1) := by decide +kernel
theorem d_WO_whichOf_25 : decode b_WO_whichOf 25 = .ok (.invokevirtual 81, 3) := by decide +kernel
theorem d_WO_whichOf_28 : decode b_WO_whichOf 28 = .ok (.if_icmp .ge 12, 3) := by decide +kernel
theorem d_WO_whichOf_31 : decode b_WO_whichOf 31 = .ok (.aload_n 1, 1) := by decide +kernel
theorem d_WO_whichOf_32 : decode b_WO_whichOf 32 = .ok (.iload 5, 2) := by decide +kernel
theorem d_WO_whichOf_34 : decode b_WO_whichOf 34 = .ok (.invokevirtual 85, 3) := by decide +kernel
theorem d_WO_whichOf_37 : decode b_WO_whichOf 37 = .ok (.goto 5, 3) := by decide +kernel
theorem d_WO_whichOf_40 : decode b_WO_whichOf 40 = .ok (.bipush 32, 2) := by decide +kernel
theorem d_WO_whichOf_42 : decode b_WO_whichOf 42 = .ok (.istore 6, 2) := by decide +kernel
theorem d_WO_whichOf_44 : decode b_WO_whichOf 44 = .ok (.iload 6, 2) := by decide +kernel
theorem d_WO_whichOf_46 : decode b_WO_whichOf 46 = .ok (.bipush 32, 2) := by decide +kernel
theorem d_WO_whichOf_48 : decode b_WO_whichOf 48 = .ok (.if_icmp .eq 40, 3) := by decide +kernel
theorem d_WO_whichOf_51 : decode b_WO_whichOf 51 = .ok (.iload 4, 2) := by decide +kernel
theorem d_WO_whichOf_53 : decode b_WO_whichOf 53 = .ok (.ifCond .eq 26, 3) := by decide +kernel
theorem d_WO_whichOf_56 : decode b_WO_whichOf 56 = .ok (.iload_n 3, 1) := by decide +kernel
theorem d_WO_whichOf_57 : decode b_WO_whichOf 57 = .ok (.aload_n 0, 1) := by decide +kernel
theorem d_WO_whichOf_58 : decode b_WO_whichOf 58 = .ok (.getfield 34, 3) := by decide +kernel
theorem d_WO_whichOf_61 : decode b_WO_whichOf 61 = .ok (.if_icmp .ge 18, 3) := by decide +kernel
theorem d_WO_whichOf_64 : decode b_WO_whichOf 64 = .ok (.aload_n 0, 1) := by decide +kernel
theorem d_WO_whichOf_65 : decode b_WO_whichOf 65 = .ok (.getfield 9, 3) := by decide +kernel
theorem d_WO_whichOf_68 : decode b_WO_whichOf 68 = .ok (.iload_n 3, 1) := by decide +kernel
theorem d_WO_whichOf_69 : decode b_WO_whichOf 69 = .ok (.baload, 1) := by decide +kernel
theorem d_WO_whichOf_70 : decode b_WO_whichOf 70 = .ok (.iload 6, 2) := by decide +kernel
theorem d_WO_whichOf_72 : decode b_WO_whichOf 72 = .ok (.if_icmp .ne 7, 3) := by decide +kernel
theorem d_WO_whichOf_75 : decode b_WO_whichOf 75 = .ok (.iconst 1, 1) := by decide +kernel
theorem d_WO_whichOf_76 : decode b_WO_whichOf 76 = .ok (.goto 4, 3) := by decide +kernel
theorem d_WO_whichOf_79 : decode b_WO_whichOf 79 = .ok (.iconst 0, 1) := by decide +kernel
theorem d_WO_whichOf_80 : decode b_WO_whichOf 80 = .ok (.istore 4, 2) := by decide +kernel
theorem d_WO_whichOf_82 : decode b_WO_whichOf 82 = .ok (.iinc 3 1, 3) := by decide +kernel
theorem d_WO_whichOf_85 : decode b_WO_whichOf 85 = .ok (.goto 29, 3) := by decide +kernel
theorem d_WO_whichOf_88 : decode b_WO_whichOf 88 = .ok (.iload 4, 2) := by decide +kernel
theorem d_WO_whichOf_90 : decode b_WO_whichOf 90 = .ok (.ifCond .eq 13, 3) := by decide +kernel
theorem d_WO_whichOf_93 : decode b_WO_whichOf 93 = .ok (.iload_n 3, 1) := by decide +kernel
theorem d_WO_whichOf_94 : decode b_WO_whichOf 94 = .ok (.aload_n 0, 1) := by decide +kernel
theorem d_WO_whichOf_95 : decode b_WO_whichOf 95 = .ok (.getfield 34, 3) := by decide +kernel
theorem d_WO_whichOf_98 : decode b_WO_whichOf 98 = .ok (.if_icmp .ne 5, 3) := by decide +kernel
theorem d_WO_whichOf_101 : decode b_WO_whichOf 101 = .ok (.iload_n 2, 1) := by decide +kernel
theorem d_WO_whichOf_102 : decode b_WO_whichOf 102 = .ok (.ireturn, 1) := by decide +kernel
theorem d_WO_whichOf_103 : decode b_WO_whichOf 103 = .ok (.iinc 2 1, 3) := by decide +kernel
theorem d_WO_whichOf_106 : decode b_WO_whichOf 106 = .ok (.aload_n 0, 1) := by decide +kernel
theorem d_WO_whichOf_107 : decode b_WO_whichOf 107 = .ok (.getfield 40, 3) := by decide +kernel
theorem d_WO_whichOf_110 : decode b_WO_whichOf 110 = .ok (.istore_n 3, 1) := by decide +kernel
theorem d_WO_whichOf_111 : decode b_WO_whichOf 111 = .ok (.iconst 1, 1) := by decide +kernel
theorem d_WO_whichOf_112 : decode b_WO_whichOf 112 = .ok (.istore 4, 2) := by decide +kernel
theorem d_WO_whichOf_114 : decode b_WO_whichOf 114 = .ok (.iinc 5 1, 3) := by decide +kernel
theorem d_WO_whichOf_117 : decode b_WO_whichOf 117 = .ok (.goto (-104), 3) := by decide +kernel
theorem d_WO_whichOf_120 : decode b_WO_whichOf 120 = .ok (.iconst (-1), 1) := by decide +kernel
theorem d_WO_whichOf_121 : decode b_WO_whichOf 121 = .ok (.ireturn, 1) := by decide +kernel
def f_WO_whichOf_13 : Nat → XS → Nat → Int32 → Int32 → Int32 → Int32 → Option (Int32)
  | 0, _, _, _, _, _, _ => none
  | n + 1, S, a1, a2, a3, a4, a5 =>
    if a1 < xnl then ((f_JS_length S a1).bind fun q3 => if q3 < a5 then (some (-1 : Int32)) else ((f_JS_length S a1).bind fun q5 => if q5 ≤ a5 then (if (32 : Int32) = (32 : Int32) then (if a4 = 0 then (f_WO_whichOf_13 n S a1 (a2 + (1 : Int32)) (xgi S 2 2) (1 : Int32) (a5 + (1 : Int32))) else (if a3 = (xgi S 2 3) then (some a2) else (f_WO_whichOf_13 n S a1 (a2 + (1 : Int32)) (xgi S 2 2) (1 : Int32) (a5 + (1 : Int32))))) else (if a4 = 0 then (f_WO_whichOf_13 n S a1 a2 (a3 + (1 : Int32)) (0 : Int32) (a5 + (1 : Int32))) else (if (xgi S 2 3) ≤ a3 then (f_WO_whichOf_13 n S a1 a2 (a3 + (1 : Int32)) (0 : Int32) (a5 + (1 : Int32))) else (if ¬ (a3 < 0 ∨ 2000 ≤ a3.toNatClampNeg) then (if (xgi S 1 a3.toNatClampNeg) = (32 : Int32) then (f_WO_whichOf_13 n S a1 a2 (a3 + (1 : Int32)) (1 : Int32) (a5 + (1 : Int32))) else (f_WO_whichOf_13 n S a1 a2 (a3 + (1 : Int32)) (0 : Int32) (a5 + (1 : Int32)))) else none)))) else ((f_JS_charAt S a1 a5).bind fun q14 => if q14 = (32 : Int32) then (if a4 = 0 then (f_WO_whichOf_13 n S a1 (a2 + (1 : Int32)) (xgi S 2 2) (1 : Int32) (a5 + (1 : Int32))) else (if a3 = (xgi S 2 3) then (some a2) else (f_WO_whichOf_13 n S a1 (a2 + (1 : Int32)) (xgi S 2 2) (1 : Int32) (a5 + (1 : Int32))))) else (if a4 = 0 then (f_WO_whichOf_13 n S a1 a2 (a3 + (1 : Int32)) (0 : Int32) (a5 + (1 : Int32))) else (if (xgi S 2 3) ≤ a3 then (f_WO_whichOf_13 n S a1 a2 (a3 + (1 : Int32)) (0 : Int32) (a5 + (1 : Int32))) else (if ¬ (a3 < 0 ∨ 2000 ≤ a3.toNatClampNeg) then (if (xgi S 1 a3.toNatClampNeg) = q14 then (f_WO_whichOf_13 n S a1 a2 (a3 + (1 : Int32)) (1 : Int32) (a5 + (1 : Int32))) else (f_WO_whichOf_13 n S a1 a2 (a3 + (1 : Int32)) (0 : Int32) (a5 + (1 : Int32)))) else none)))))) else none
set_option maxHeartbeats 4000000 in
set_option maxRecDepth 100000 in
theorem k_WO_whichOf_13 (l : Launch) {p : Program} {e : Env} {s : State} {m : MethodId} {args : Array Value} {below : List Frame} {meth : Method} {c : Code} {D : va_G} {lay : Nat → Nat} {cA : Nat → ClassId} {adK adV : Nat → Nat} {s0 : State} (C : xB p s m args meth c R_WO b_WO_whichOf ((Option.some Jvm.ClassFile.FieldType.int)) 7) (E : xE D lay cA adK adV s0 s s.heap) : ∀ (n : Nat) (S : XS) (a1 : Nat) (a2 : Int32) (a3 : Int32) (a4 : Int32) (a5 : Int32) (r : Int32) (_ : f_WO_whichOf_13 n S a1 a2 a3 a4 a5 = some r) (H : Heap) (locs : List Loc) (ls : Array Slot), va_P D xcl (xw lay cA S) H → va_S (xI lay) s.heap H locs → lv_has ls 7 [(0, .ref (lay 2)), (1, .ref (adK a1)), (2, .int a2), (3, .int a3), (4, .int a4), (5, .int a5)] → W p l e rm_WO_whichOf s m args below meth c H locs 0 0 (MQ below (xqi D lay cA r S) args s 0 0 (xI lay)) (F0 m 13 ls []) := by
  obtain ⟨hx, hb, hr, hml, hown, hts, hlk, hnh⟩ := id C
  have hK := E.K
  intro n
  induction n with
  | zero => intro S a1 a2 a3 a4 a5 r h; rw [f_WO_whichOf_13] at h; cases h
  | succ n ih =>
    intro S a1 a2 a3 a4 a5 r h H locs ls hP hS hl
    rw [f_WO_whichOf_13] at h
    refine lv_iload hx hb d_WO_whichOf_13 (lv_at hl 5 rfl) ?_
    refine lv_aload_n hx hb d_WO_whichOf_15 rfl (lv_at hl 1 rfl) ?_
    obtain ⟨hk1, h⟩ := xg h
    obtain ⟨q3, e2, h⟩ := xb h
    refine xc_i (va_runV (As := []) (rest := [.int a5]) ⟨hx, hb, hml, hown, hts⟩ (c_JS_length l D lay cA adK adV s0 S a1 q3 e2) (cwV 0 hts (xT_V wd_463 wd_307 wd_308 wd_9 wd_309) rfl rfl rfl (by decide +kernel) ⟨Nat.le_of_ble_eq_true rfl, Nat.le_of_ble_eq_true rfl⟩) (xpT E hP hS hk1 rfl) rfl rfl hl.1 rfl (lv_room (Nat.le_of_ble_eq_true rfl)) d_WO_whichOf_16 ⟨Nat.le_of_ble_eq_true rfl, Nat.le_of_ble_eq_true rfl⟩) hS (fun H locs hP hS => ?_)
    refine lv_icmp_gt (tgt := 120) hx hb d_WO_whichOf_19 (by decide) (fun c_23 => ?_) (fun c_23 => ?_)
    · have h := xif_t c_23 h
      refine lv_iconst (v := (-1 : Int32)) hx hb d_WO_whichOf_120 (by decide) ?_
      have h9 := Option.some.inj h
      subst h9
      exact W.iret (v := (-1 : Int32)) hx hb hr (fun t ht hW => ⟨⟨(-1 : Int32), (), rfl, rfl, by show va_P D xcl _ t.heap; rw [ht]; exact hP⟩, hS.F ht⟩) hS.2.2 d_WO_whichOf_121
    · have h := xif_f c_23 h
      refine lv_iload hx hb d_WO_whichOf_22 (lv_at hl 5 rfl) ?_
      refine lv_aload_n hx hb d_WO_whichOf_24 rfl (lv_at hl 1 rfl) ?_
      obtain ⟨q5, e4, h⟩ := xb h
      refine xc_i (va_runV (As := []) (rest := [.int a5]) ⟨hx, hb, hml, hown, hts⟩ (c_JS_length l D lay cA adK adV s0 S a1 q5 e4) (cwV 0 hts (xT_V wd_463 wd_307 wd_308 wd_9 wd_309) rfl rfl rfl (by decide +kernel) ⟨Nat.le_of_ble_eq_true rfl, Nat.le_of_ble_eq_true rfl⟩) (xpT E hP hS hk1 rfl) rfl rfl hl.1 rfl (lv_room (Nat.le_of_ble_eq_true rfl)) d_WO_whichOf_25 ⟨Nat.le_of_ble_eq_true rfl, Nat.le_of_ble_eq_true rfl⟩) hS (fun H locs hP hS => ?_)
      refine lv_icmp_ge (tgt := 40) hx hb d_WO_whichOf_28 (by decide) (fun c_22 => ?_) (fun c_22 => ?_)
      · have h := xif_t c_22 h
        refine lv_bipush (v := (32 : Int32)) hx hb d_WO_whichOf_40 (by decide) ?_
        refine lv_istore (lv' := [(6, .int (32 : Int32)), (0, .ref (lay 2)), (1, .ref (adK a1)), (2, .int a2), (3, .int a3), (4, .int a4), (5, .int a5)]) hx hb d_WO_whichOf_42 hl (by decide) rfl (fun ls hl => ?_)
        refine lv_iload hx hb d_WO_whichOf_44 (lv_at hl 0 rfl) ?_
        refine lv_bipush (v := (32 : Int32)) hx hb d_WO_whichOf_46 (by decide) ?_
        refine lv_icmp_eq (tgt := 88) hx hb d_WO_whichOf_48 (by decide) (fun c_12 => ?_) (fun c_12 => ?_)
        · have h := xif_t c_12 h
          refine lv_iload hx hb d_WO_whichOf_88 (lv_at hl 5 rfl) ?_
          refine lv_if_eq (tgt := 103) hx hb d_WO_whichOf_90 (by decide) (fun c_7 => ?_) (fun c_7 => ?_)
          · have h := xif_t c_7 h
            refine lv_iinc (v := a2 + (1 : Int32)) (lv' := [(2, .int (a2 + (1 : Int32))), (6, .int (32 : Int32)), (0, .ref (lay 2)), (1, .ref (adK a1)), (3, .int a3), (4, .int a4), (5, .int a5)]) hx hb d_WO_whichOf_103 hl (k := 3) rfl (by rfl) (by decide) rfl (fun ls hl => ?_)
            refine lv_aload_n hx hb d_WO_whichOf_106 rfl (lv_at hl 2 rfl) ?_
            refine va_get (v := .int (xgi S 2 2)) (C := R_WO) (T := F_WO) (N := 9) hx hb hts i_WO hown hK hP 2 (xw_at (by decide) (xc_2 _ _ _ _)) rfl 2 (by decide) (hts _ wd_34) (fun _ h9 => h9) rfl d_WO_whichOf_107 ?_
            refine lv_istore_n (lv' := [(3, .int (xgi S 2 2)), (2, .int (a2 + (1 : Int32))), (6, .int (32 : Int32)), (0, .ref (lay 2)), (1, .ref (adK a1)), (4, .int a4), (5, .int a5)]) hx hb d_WO_whichOf_110 rfl hl (by decide) rfl (fun ls hl => ?_)
            refine lv_iconst (v := (1 : Int32)) hx hb d_WO_whichOf_111 (by decide) ?_
            refine lv_istore (lv' := [(4, .int (1 : Int32)), (3, .int (xgi S 2 2)), (2, .int (a2 + (1 : Int32))), (6, .int (32 : Int32)), (0, .ref (lay 2)), (1, .ref (adK a1)), (5, .int a5)]) hx hb d_WO_whichOf_112 hl (by decide) rfl (fun ls hl => ?_)
            refine lv_iinc (v := a5 + (1 : Int32)) (lv' := [(5, .int (a5 + (1 : Int32))), (4, .int (1 : Int32)), (3, .int (xgi S 2 2)), (2, .int (a2 + (1 : Int32))), (6, .int (32 : Int32)), (0, .ref (lay 2)), (1, .ref (adK a1))]) hx hb d_WO_whichOf_114 hl (k := 6) rfl (by rfl) (by decide) rfl (fun ls hl => ?_)
            refine lv_goto (tgt := 13) hx hb d_WO_whichOf_117 (by decide) ?_
            exact ih S a1 (a2 + (1 : Int32)) (xgi S 2 2) (1 : Int32) (a5 + (1 : Int32)) _ h H locs ls hP hS (lv_sub hl [5, 6, 3, 2, 1, 0] rfl)
          · have h := xif_f c_7 h
            refine lv_iload_n hx hb d_WO_whichOf_93 rfl (lv_at hl 4 rfl) ?_
            refine lv_aload_n hx hb d_WO_whichOf_94 rfl (lv_at hl 1 rfl) ?_
            refine va_get (v := .int (xgi S 2 3)) (C := R_WO) (T := F_WO) (N := 9) hx hb hts i_WO hown hK hP 2 (xw_at (by decide) (xc_2 _ _ _ _)) rfl 3 (by decide) (hts _ wd_36) (fun _ h9 => h9) rfl d_WO_whichOf_95 ?_
            refine lv_icmp_ne (tgt := 103) hx hb d_WO_whichOf_98 (by decide) (fun c_6 => ?_) (fun c_6 => ?_)
            · have h := xif_f c_6 h
              refine lv_iinc (v := a2 + (1 : Int32)) (lv' := [(2, .int (a2 + (1 : Int32))), (6, .int (32 : Int32)), (0, .ref (lay 2)), (1, .ref (adK a1)), (3, .int a3), (4, .int a4), (5, .int a5)]) hx hb d_WO_whichOf_103 hl (k := 3) rfl (by rfl) (by decide) rfl (fun ls hl => ?_)
              refine lv_aload_n hx hb d_WO_whichOf_106 rfl (lv_at hl 2 rfl) ?_
              refine va_get (v := .int (xgi S 2 2)) (C := R_WO) (T := F_WO) (N := 9) hx hb hts i_WO hown hK hP 2 (xw_at (by decide) (xc_2 _ _ _ _)) rfl 2 (by decide) (hts _ wd_34) (fun _ h9 => h9) rfl d_WO_whichOf_107 ?_
              refine lv_istore_n (lv' := [(3, .int (xgi S 2 2)), (2, .int (a2 + (1 : Int32))), (6, .int (32 : Int32)), (0, .ref (lay 2)), (1, .ref (adK a1)), (4, .int a4), (5, .int a5)]) hx hb d_WO_whichOf_110 rfl hl (by decide) rfl (fun ls hl => ?_)
              refine lv_iconst (v := (1 : Int32)) hx hb d_WO_whichOf_111 (by decide) ?_
              refine lv_istore (lv' := [(4, .int (1 : Int32)), (3, .int (xgi S 2 2)), (2, .int (a2 + (1 : Int32))), (6, .int (32 : Int32)), (0, .ref (lay 2)), (1, .ref (adK a1)), (5, .int a5)]) hx hb d_WO_whichOf_112 hl (by decide) rfl (fun ls hl => ?_)
              refine lv_iinc (v := a5 + (1 : Int32)) (lv' := [(5, .int (a5 + (1 : Int32))), (4, .int (1 : Int32)), (3, .int (xgi S 2 2)), (2, .int (a2 + (1 : Int32))), (6, .int (32 : Int32)), (0, .ref (lay 2)), (1, .ref (adK a1))]) hx hb d_WO_whichOf_114 hl (k := 6) rfl (by rfl) (by decide) rfl (fun ls hl => ?_)
              refine lv_goto (tgt := 13) hx hb d_WO_whichOf_117 (by decide) ?_
              exact ih S a1 (a2 + (1 : Int32)) (xgi S 2 2) (1 : Int32) (a5 + (1 : Int32)) _ h H locs ls hP hS (lv_sub hl [5, 6, 3, 2, 1, 0] rfl)
            · have h := xif_t c_6 h
              refine lv_iload_n hx hb d_WO_whichOf_101 rfl (lv_at hl 3 rfl) ?_
              have h9 := Option.some.inj h
              subst h9
              exact W.iret (v := a2) hx hb hr (fun t ht hW => ⟨⟨a2, (), rfl, rfl, by show va_P D xcl _ t.heap; rw [ht]; exact hP⟩, hS.F ht⟩) hS.2.2 d_WO_whichOf_102
        · have h := xif_f c_12 h
          refine lv_iload hx hb d_WO_whichOf_51 (lv_at hl 5 rfl) ?_
          refine lv_if_eq (tgt := 79) hx hb d_WO_whichOf_53 (by decide) (fun c_11 => ?_) (fun c_11 => ?_)
          · have h := xif_t c_11 h
            refine lv_iconst (v := (0 : Int32)) hx hb d_WO_whichOf_79 (by decide) ?_
            refine lv_istore (lv' := [(4, .int (0 : Int32)), (6, .int (32 : Int32)), (0, .ref (lay 2)), (1, .ref (adK a1)), (2, .int a2), (3, .int a3), (5, .int a5)]) hx hb d_WO_whichOf_80 hl (by decide) rfl (fun ls hl => ?_)
            refine lv_iinc (v := a3 + (1 : Int32)) (lv' := [(3, .int (a3 + (1 : Int32))), (4, .int (0 : Int32)), (6, .int (32 : Int32)), (0, .ref (lay 2)), (1, .ref (adK a1)), (2, .int a2), (5, .int a5)]) hx hb d_WO_whichOf_82 hl (k := 5) rfl (by rfl) (by decide) rfl (fun ls hl => ?_)
            refine lv_goto (tgt := 114) hx hb d_WO_whichOf_85 (by decide) ?_
            refine lv_iinc (v := a5 + (1 : Int32)) (lv' := [(5, .int (a5 + (1 : Int32))), (3, .int (a3 + (1 : Int32))), (4, .int (0 : Int32)), (6, .int (32 : Int32)), (0, .ref (lay 2)), (1, .ref (adK a1)), (2, .int a2)]) hx hb d_WO_whichOf_114 hl (k := 6) rfl (by rfl) (by decide) rfl (fun ls hl => ?_)
            refine lv_goto (tgt := 13) hx hb d_WO_whichOf_117 (by decide) ?_
            exact ih S a1 a2 (a3 + (1 : Int32)) (0 : Int32) (a5 + (1 : Int32)) _ h H locs ls hP hS (lv_sub hl [4, 5, 6, 1, 2, 0] rfl)
          · have h := xif_f c_11 h
            refine lv_iload_n hx hb d_WO_whichOf_56 rfl (lv_at hl 4 rfl) ?_
            refine lv_aload_n hx hb d_WO_whichOf_57 rfl (lv_at hl 1 rfl) ?_
            refine va_get (v := .int (xgi S 2 3)) (C := R_WO) (T := F_WO) (N := 9) hx hb hts i_WO hown hK hP 2 (xw_at (by decide) (xc_2 _ _ _ _)) rfl 3 (by decide) (hts _ wd_36) (fun _ h9 => h9) rfl d_WO_whichOf_58 ?_
            refine lv_icmp_ge (tgt := 79) hx hb d_WO_whichOf_61 (by decide) (fun c_10 => ?_) (fun c_10 => ?_)
            · have h := xif_t c_10 h
              refine lv_iconst (v := (0 : Int32)) hx hb d_WO_whichOf_79 (by decide) ?_
              refine lv_istore (lv' := [(4, .int (0 : Int32)), (6, .int (32 : Int32)), (0, .ref (lay 2)), (1, .ref (adK a1)), (2, .int a2), (3, .int a3), (5, .int a5)]) hx hb d_WO_whichOf_80 hl (by decide) rfl (fun ls hl => ?_)
              refine lv_iinc (v := a3 + (1 : Int32)) (lv' := [(3, .int (a3 + (1 : Int32))), (4, .int (0 : Int32)), (6, .int (32 : Int32)), (0, .ref (lay 2)), (1, .ref (adK a1)), (2, .int a2), (5, .int a5)]) hx hb d_WO_whichOf_82 hl (k := 5) rfl (by rfl) (by decide) rfl (fun ls hl => ?_)
              refine lv_goto (tgt := 114) hx hb d_WO_whichOf_85 (by decide) ?_
              refine lv_iinc (v := a5 + (1 : Int32)) (lv' := [(5, .int (a5 + (1 : Int32))), (3, .int (a3 + (1 : Int32))), (4, .int (0 : Int32)), (6, .int (32 : Int32)), (0, .ref (lay 2)), (1, .ref (adK a1)), (2, .int a2)]) hx hb d_WO_whichOf_114 hl (k := 6) rfl (by rfl) (by decide) rfl (fun ls hl => ?_)
              refine lv_goto (tgt := 13) hx hb d_WO_whichOf_117 (by decide) ?_
              exact ih S a1 a2 (a3 + (1 : Int32)) (0 : Int32) (a5 + (1 : Int32)) _ h H locs ls hP hS (lv_sub hl [4, 5, 6, 1, 2, 0] rfl)
            · have h := xif_f c_10 h
              refine lv_aload_n hx hb d_WO_whichOf_64 rfl (lv_at hl 1 rfl) ?_
              refine va_get (v := .ref (lay 1)) (C := R_WO) (T := F_WO) (N := 9) hx hb hts i_WO hown hK hP 2 (xw_at (by decide) (xc_2 _ _ _ _)) rfl 0 (by decide) (hts _ wd_32) (fun _ h9 => h9) rfl d_WO_whichOf_65 ?_
              refine lv_iload_n hx hb d_WO_whichOf_68 rfl (lv_at hl 4 rfl) ?_
              obtain ⟨hg8, h⟩ := xg h
              refine xal_tx hx hb E hP hg8 d_WO_whichOf_69 ?_
              refine lv_iload hx hb d_WO_whichOf_70 (lv_at hl 0 rfl) ?_
              refine lv_icmp_ne (tgt := 79) hx hb d_WO_whichOf_72 (by decide) (fun c_9 => ?_) (fun c_9 => ?_)
              · have h := xif_f c_9 h
                refine lv_iconst (v := (0 : Int32)) hx hb d_WO_whichOf_79 (by decide) ?_
                refine lv_istore (lv' := [(4, .int (0 : Int32)), (6, .int (32 : Int32)), (0, .ref (lay 2)), (1, .ref (adK a1)), (2, .int a2), (3, .int a3), (5, .int a5)]) hx hb d_WO_whichOf_80 hl (by decide) rfl (fun ls hl => ?_)
                refine lv_iinc (v := a3 + (1 : Int32)) (lv' := [(3, .int (a3 + (1 : Int32))), (4, .int (0 : Int32)), (6, .int (32 : Int32)), (0, .ref (lay 2)), (1, .ref (adK a1)), (2, .int a2), (5, .int a5)]) hx hb d_WO_whichOf_82 hl (k := 5) rfl (by rfl) (by decide) rfl (fun ls hl => ?_)
                refine lv_goto (tgt := 114) hx hb d_WO_whichOf_85 (by decide) ?_
                refine lv_iinc (v := a5 + (1 : Int32)) (lv' := [(5, .int (a5 + (1 : Int32))), (3, .int (a3 + (1 : Int32))), (4, .int (0 : Int32)), (6, .int (32 : Int32)), (0, .ref (lay 2)), (1, .ref (adK a1)), (2, .int a2)]) hx hb d_WO_whichOf_114 hl (k := 6) rfl (by rfl) (by decide) rfl (fun ls hl => ?_)
                refine lv_goto (tgt := 13) hx hb d_WO_whichOf_117 (by decide) ?_
                exact ih S a1 a2 (a3 + (1 : Int32)) (0 : Int32) (a5 + (1 : Int32)) _ h H locs ls hP hS (lv_sub hl [4, 5, 6, 1, 2, 0] rfl)
              · have h := xif_t c_9 h
                refine lv_iconst (v := (1 : Int32)) hx hb d_WO_whichOf_75 (by decide) ?_
                refine lv_goto (tgt := 80) hx hb d_WO_whichOf_76 (by decide) ?_
                refine lv_istore (lv' := [(4, .int (1 : Int32)), (6, .int (32 : Int32)), (0, .ref (lay 2)), (1, .ref (adK a1)), (2, .int a2), (3, .int a3), (5, .int a5)]) hx hb d_WO_whichOf_80 hl (by decide) rfl (fun ls hl => ?_)
                refine lv_iinc (v := a3 + (1 : Int32)) (lv' := [(3, .int (a3 + (1 : Int32))), (4, .int (1 : Int32)), (6, .int (32 : Int32)), (0, .ref (lay 2)), (1, .ref (adK a1)), (2, .int a2), (5, .int a5)]) hx hb d_WO_whichOf_82 hl (k := 5) rfl (by rfl) (by decide) rfl (fun ls hl => ?_)
                refine lv_goto (tgt := 114) hx hb d_WO_whichOf_85 (by decide) ?_
                refine lv_iinc (v := a5 + (1 : Int32)) (lv' := [(5, .int (a5 + (1 : Int32))), (3, .int (a3 + (1 : Int32))), (4, .int (1 : Int32)), (6, .int (32 : Int32)), (0, .ref (lay 2)), (1, .ref (adK a1)), (2, .int a2)]) hx hb d_WO_whichOf_114 hl (k := 6) rfl (by rfl) (by decide) rfl (fun ls hl => ?_)
                refine lv_goto (tgt := 13) hx hb d_WO_whichOf_117 (by decide) ?_
                exact ih S a1 a2 (a3 + (1 : Int32)) (1 : Int32) (a5 + (1 : Int32)) _ h H locs ls hP hS (lv_sub hl [4, 5, 6, 1, 2, 0] rfl)
      · have h := xif_f c_22 h
        refine lv_aload_n hx hb d_WO_whichOf_31 rfl (lv_at hl 1 rfl) ?_
        refine lv_iload hx hb d_WO_whichOf_32 (lv_at hl 5 rfl) ?_
        obtain ⟨q14, e13, h⟩ := xb h
        refine xc_i (va_runV (As := [.int a5]) (rest := []) ⟨hx, hb, hml, hown, hts⟩ (c_JS_charAt l D lay cA adK adV s0 S a1 a5 q14 e13) (cwV 1 hts (xT_V wd_464 wd_465 wd_466 wd_9 wd_467) rfl rfl rfl (by decide +kernel) ⟨Nat.le_of_ble_eq_true rfl, Nat.le_of_ble_eq_true rfl⟩) (xpT E hP hS hk1 rfl) rfl rfl hl.1 rfl (lv_room (Nat.le_of_ble_eq_true rfl)) d_WO_whichOf_34 ⟨Nat.le_of_ble_eq_true rfl, Nat.le_of_ble_eq_true rfl⟩) hS (fun H locs hP hS => ?_)
        refine lv_goto (tgt := 42) hx hb d_WO_whichOf_37 (by decide) ?_
        refine lv_istore (lv' := [(6, .int q14), (0, .ref (lay 2)), (1, .ref (adK a1)), (2, .int a2), (3, .int a3), (4, .int a4), (5, .int a5)]) hx hb d_WO_whichOf_42 hl (by decide) rfl (fun ls hl => ?_)
        refine lv_iload hx hb d_WO_whichOf_44 (lv_at hl 0 rfl) ?_
        refine lv_bipush (v := (32 : Int32)) hx hb d_WO_whichOf_46 (by decide) ?_
        refine lv_icmp_eq (tgt := 88) hx hb d_WO_whichOf_48 (by decide) (fun c_21 => ?_) (fun c_21 => ?_)
        · have h := xif_t c_21 h
          refine lv_iload hx hb d_WO_whichOf_88 (lv_at hl 5 rfl) ?_
          refine lv_if_eq (tgt := 103) hx hb d_WO_whichOf_90 (by decide) (fun c_16 => ?_) (fun c_16 => ?_)
          · have h := xif_t c_16 h
            refine lv_iinc (v := a2 + (1 : Int32)) (lv' := [(2, .int (a2 + (1 : Int32))), (6, .int q14), (0, .ref (lay 2)), (1, .ref (adK a1)), (3, .int a3), (4, .int a4), (5, .int a5)]) hx hb d_WO_whichOf_103 hl (k := 3) rfl (by rfl) (by decide) rfl (fun ls hl => ?_)
            refine lv_aload_n hx hb d_WO_whichOf_106 rfl (lv_at hl 2 rfl) ?_
            refine va_get (v := .int (xgi S 2 2)) (C := R_WO) (T := F_WO) (N := 9) hx hb hts i_WO hown hK hP 2 (xw_at (by decide) (xc_2 _ _ _ _)) rfl 2 (by decide) (hts _ wd_34) (fun _ h9 => h9) rfl d_WO_whichOf_107 ?_
            refine lv_istore_n (lv' := [(3, .int (xgi S 2 2)), (2, .int (a2 + (1 : Int32))), (6, .int q14), (0, .ref (lay 2)), (1, .ref (adK a1)), (4, .int a4), (5, .int a5)]) hx hb d_WO_whichOf_110 rfl hl (by decide) rfl (fun ls hl => ?_)
            refine lv_iconst (v := (1 : Int32)) hx hb d_WO_whichOf_111 (by decide) ?_
            refine lv_istore (lv' := [(4, .int (1 : Int32)), (3, .int (xgi S 2 2)), (2, .int (a2 + (1 : Int32))), (6, .int q14), (0, .ref (lay 2)), (1, .ref (adK a1)), (5, .int a5)]) hx hb d_WO_whichOf_112 hl (by decide) rfl (fun ls hl => ?_)
            refine lv_iinc (v := a5 + (1 : Int32)) (lv' := [(5, .int (a5 + (1 : Int32))), (4, .int (1 : Int32)), (3, .int (xgi S 2 2)), (2, .int (a2 + (1 : Int32))), (6, .int q14), (0, .ref (lay 2)), (1, .ref (adK a1))]) hx hb d_WO_whichOf_114 hl (k := 6) rfl (by rfl) (by decide) rfl (fun ls hl => ?_)
            refine lv_goto (tgt := 13) hx hb d_WO_whichOf_117 (by decide) ?_
            exact ih S a1 (a2 + (1 : Int32)) (xgi S 2 2) (1 : Int32) (a5 + (1 : Int32)) _ h H locs ls hP hS (lv_sub hl [5, 6, 3, 2, 1, 0] rfl)
          · have h := xif_f c_16 h
            refine lv_iload_n hx hb d_WO_whichOf_93 rfl (lv_at hl 4 rfl) ?_
            refine lv_aload_n hx hb d_WO_whichOf_94 rfl (lv_at hl 1 rfl) ?_
            refine va_get (v := .int (xgi S 2 3)) (C := R_WO) (T := F_WO) (N := 9) hx hb hts i_WO hown hK hP 2 (xw_at (by decide) (xc_2 _ _ _ _)) rfl 3 (by decide) (hts _ wd_36) (fun _ h9 => h9) rfl d_WO_whichOf_95 ?_
            refine lv_icmp_ne (tgt := 103) hx hb d_WO_whichOf_98 (by decide) (fun c_15 => ?_) (fun c_15 => ?_)
            · have h := xif_f c_15 h
              refine lv_iinc (v := a2 + (1 : Int32)) (lv' := [(2, .int (a2 + (1 : Int32))), (6, .int q14), (0, .ref (lay 2)), (1, .ref (adK a1)), (3, .int a3), (4, .int a4), (5, .int a5)]) hx hb d_WO_whichOf_103 hl (k := 3) rfl (by rfl) (by decide) rfl (fun ls hl => ?_)
              refine lv_aload_n hx hb d_WO_whichOf_106 rfl (lv_at hl 2 rfl) ?_
              refine va_get (v := .int (xgi S 2 2)) (C := R_WO) (T := F_WO) (N := 9) hx hb hts i_WO hown hK hP 2 (xw_at (by decide) (xc_2 _ _ _ _)) rfl 2 (by decide) (hts _ wd_34) (fun _ h9 => h9) rfl d_WO_whichOf_107 ?_
              refine lv_istore_n (lv' := [(3, .int (xgi S 2 2)), (2, .int (a2 + (1 : Int32))), (6, .int q14), (0, .ref (lay 2)), (1, .ref (adK a1)), (4, .int a4), (5, .int a5)]) hx hb d_WO_whichOf_110 rfl hl (by decide) rfl (fun ls hl => ?_)
              refine lv_iconst (v := (1 : Int32)) hx hb d_WO_whichOf_111 (by decide) ?_
              refine lv_istore (lv' := [(4, .int (1 : Int32)), (3, .int (xgi S 2 2)), (2, .int (a2 + (1 : Int32))), (6, .int q14), (0, .ref (lay 2)), (1, .ref (adK a1)), (5, .int a5)]) hx hb d_WO_whichOf_112 hl (by decide) rfl (fun ls hl => ?_)
              refine lv_iinc (v := a5 + (1 : Int32)) (lv' := [(5, .int (a5 + (1 : Int32))), (4, .int (1 : Int32)), (3, .int (xgi S 2 2)), (2, .int (a2 + (1 : Int32))), (6, .int q14), (0, .ref (lay 2)), (1, .ref (adK a1))]) hx hb d_WO_whichOf_114 hl (k := 6) rfl (by rfl) (by decide) rfl (fun ls hl => ?_)
              refine lv_goto (tgt := 13) hx hb d_WO_whichOf_117 (by decide) ?_
              exact ih S a1 (a2 + (1 : Int32)) (xgi S 2 2) (1 : Int32) (a5 + (1 : Int32)) _ h H locs ls hP hS (lv_sub hl [5, 6, 3, 2, 1, 0] rfl)
            · have h := xif_t c_15 h
              refine lv_iload_n hx hb d_WO_whichOf_101 rfl (lv_at hl 3 rfl) ?_
              have h9 := Option.some.inj h
              subst h9
              exact W.iret (v := a2) hx hb hr (fun t ht hW => ⟨⟨a2, (), rfl, rfl, by show va_P D xcl _ t.heap; rw [ht]; exact hP⟩, hS.F ht⟩) hS.2.2 d_WO_whichOf_102
        · have h := xif_f c_21 h
          refine lv_iload hx hb d_WO_whichOf_51 (lv_at hl 5 rfl) ?_
          refine lv_if_eq (tgt := 79) hx hb d_WO_whichOf_53 (by decide) (fun c_20 => ?_) (fun c_20 => ?_)
          · have h := xif_t c_20 h
            refine lv_iconst (v := (0 : Int32)) hx hb d_WO_whichOf_79 (by decide) ?_
            refine lv_istore (lv' := [(4, .int (0 : Int32)), (6, .int q14), (0, .ref (lay 2)), (1, .ref (adK a1)), (2, .int a2), (3, .int a3), (5, .int a5)]) hx hb d_WO_whichOf_80 hl (by decide) rfl (fun ls hl => ?_)
            refine lv_iinc (v := a3 + (1 : Int32)) (lv' := [(3, .int (a3 + (1 : Int32))), (4, .int (0 : Int32)), (6, .int q14), (0, .ref (lay 2)), (1, .ref (adK a1)), (2, .int a2), (5, .int a5)]) hx hb d_WO_whichOf_82 hl (k := 5) rfl (by rfl) (by decide) rfl (fun ls hl => ?_)
            refine lv_goto (tgt := 114) hx hb d_WO_whichOf_85 (by decide) ?_
            refine lv_iinc (v := a5 + (1 : Int32)) (lv' := [(5, .int (a5 + (1 : Int32))), (3, .int (a3 + (1 : Int32))), (4, .int (0 : Int32)), (6, .int q14), (0, .ref (lay 2)), (1, .ref (adK a1)), (2, .int a2)]) hx hb d_WO_whichOf_114 hl (k := 6) rfl (by rfl) (by decide) rfl (fun ls hl => ?_)
            refine lv_goto (tgt := 13) hx hb d_WO_whichOf_117 (by decide) ?_
            exact ih S a1 a2 (a3 + (1 : Int32)) (0 : Int32) (a5 + (1 : Int32)) _ h H locs ls hP hS (lv_sub hl [4, 5, 6, 1, 2, 0] rfl)
          · have h := xif_f c_20 h
            refine lv_iload_n hx hb d_WO_whichOf_56 rfl (lv_at hl 4 rfl) ?_
            refine lv_aload_n hx hb d_WO_whichOf_57 rfl (lv_at hl 1 rfl) ?_
            refine va_get (v := .int (xgi S 2 3)) (C := R_WO) (T := F_WO) (N := 9) hx hb hts i_WO hown hK hP 2 (xw_at (by decide) (xc_2 _ _ _ _)) rfl 3 (by decide) (hts _ wd_36) (fun _ h9 => h9) rfl d_WO_whichOf_58 ?_
            refine lv_icmp_ge (tgt := 79) hx hb d_WO_whichOf_61 (by decide) (fun c_19 => ?_) (fun c_19 => ?_)
            · have h := xif_t c_19 h
              refine lv_iconst (v := (0 : Int32)) hx hb d_WO_whichOf_79 (by decide) ?_
              refine lv_istore (lv' := [(4, .int (0 : Int32)), (6, .int q14), (0, .ref (lay 2)), (1, .ref (adK a1)), (2, .int a2), (3, .int a3), (5, .int a5)]) hx hb d_WO_whichOf_80 hl (by decide) rfl (fun ls hl => ?_)
              refine lv_iinc (v := a3 + (1 : Int32)) (lv' := [(3, .int (a3 + (1 : Int32))), (4, .int (0 : Int32)), (6, .int q14), (0, .ref (lay 2)), (1, .ref (adK a1)), (2, .int a2), (5, .int a5)]) hx hb d_WO_whichOf_82 hl (k := 5) rfl (by rfl) (by decide) rfl (fun ls hl => ?_)
              refine lv_goto (tgt := 114) hx hb d_WO_whichOf_85 (by decide) ?_
              refine lv_iinc (v := a5 + (1 : Int32)) (lv' := [(5, .int (a5 + (1 : Int32))), (3, .int (a3 + (1 : Int32))), (4, .int (0 : Int32)), (6, .int q14), (0, .ref (lay 2)), (1, .ref (adK a1)), (2, .int a2)]) hx hb d_WO_whichOf_114 hl (k := 6) rfl (by rfl) (by decide) rfl (fun ls hl => ?_)
              refine lv_goto (tgt := 13) hx hb d_WO_whichOf_117 (by decide) ?_
              exact ih S a1 a2 (a3 + (1 : Int32)) (0 : Int32) (a5 + (1 : Int32)) _ h H locs ls hP hS (lv_sub hl [4, 5, 6, 1, 2, 0] rfl)
            · have h := xif_f c_19 h
              refine lv_aload_n hx hb d_WO_whichOf_64 rfl (lv_at hl 1 rfl) ?_
              refine va_get (v := .ref (lay 1)) (C := R_WO) (T := F_WO) (N := 9) hx hb hts i_WO hown hK hP 2 (xw_at (by decide) (xc_2 _ _ _ _)) rfl 0 (by decide) (hts _ wd_32) (fun _ h9 => h9) rfl d_WO_whichOf_65 ?_
              refine lv_iload_n hx hb d_WO_whichOf_68 rfl (lv_at hl 4 rfl) ?_
              obtain ⟨hg17, h⟩ := xg h
              refine xal_tx hx hb E hP hg17 d_WO_whichOf_69 ?_
              refine lv_iload hx hb d_WO_whichOf_70 (lv_at hl 0 rfl) ?_
              refine lv_icmp_ne (tgt := 79) hx hb d_WO_whichOf_72 (by decide) (fun c_18 => ?_) (fun c_18 => ?_)
              · have h := xif_f c_18 h
                refine lv_iconst (v := (0 : Int32)) hx hb d_WO_whichOf_79 (by decide) ?_
                refine lv_istore (lv' := [(4, .int (0 : Int32)), (6, .int q14), (0, .ref (lay 2)), (1, .ref (adK a1)), (2, .int a2), (3, .int a3), (5, .int a5)]) hx hb d_WO_whichOf_80 hl (by decide) rfl (fun ls hl => ?_)
                refine lv_iinc (v := a3 + (1 : Int32)) (lv' := [(3, .int (a3 + (1 : Int32))), (4, .int (0 : Int32)), (6, .int q14), (0, .ref (lay 2)), (1, .ref (adK a1)), (2, .int a2), (5, .int a5)]) hx hb d_WO_whichOf_82 hl (k := 5) rfl (by rfl) (by decide) rfl (fun ls hl => ?_)
                refine lv_goto (tgt := 114) hx hb d_WO_whichOf_85 (by decide) ?_
                refine lv_iinc (v := a5 + (1 : Int32)) (lv' := [(5, .int (a5 + (1 : Int32))), (3, .int (a3 + (1 : Int32))), (4, .int (0 : Int32)), (6, .int q14), (0, .ref (lay 2)), (1, .ref (adK a1)), (2, .int a2)]) hx hb d_WO_whichOf_114 hl (k := 6) rfl (by rfl) (by decide) rfl (fun ls hl => ?_)
                refine lv_goto (tgt := 13) hx hb d_WO_whichOf_117 (by decide) ?_
                exact ih S a1 a2 (a3 + (1 : Int32)) (0 : Int32) (a5 + (1 : Int32)) _ h H locs ls hP hS (lv_sub hl [4, 5, 6, 1, 2, 0] rfl)
              · have h := xif_t c_18 h
                refine lv_iconst (v := (1 : Int32)) hx hb d_WO_whichOf_75 (by decide) ?_
                refine lv_goto (tgt := 80) hx hb d_WO_whichOf_76 (by decide) ?_
                refine lv_istore (lv' := [(4, .int (1 : Int32)), (6, .int q14), (0, .ref (lay 2)), (1, .ref (adK a1)), (2, .int a2), (3, .int a3), (5, .int a5)]) hx hb d_WO_whichOf_80 hl (by decide) rfl (fun ls hl => ?_)
                refine lv_iinc (v := a3 + (1 : Int32)) (lv' := [(3, .int (a3 + (1 : Int32))), (4, .int (1 : Int32)), (6, .int q14), (0, .ref (lay 2)), (1, .ref (adK a1)), (2, .int a2), (5, .int a5)]) hx hb d_WO_whichOf_82 hl (k := 5) rfl (by rfl) (by decide) rfl (fun ls hl => ?_)
                refine lv_goto (tgt := 114) hx hb d_WO_whichOf_85 (by decide) ?_
                refine lv_iinc (v := a5 + (1 : Int32)) (lv' := [(5, .int (a5 + (1 : Int32))), (3, .int (a3 + (1 : Int32))), (4, .int (1 : Int32)), (6, .int q14), (0, .ref (lay 2)), (1, .ref (adK a1)), (2, .int a2)]) hx hb d_WO_whichOf_114 hl (k := 6) rfl (by rfl) (by decide) rfl (fun ls hl => ?_)
                refine lv_goto (tgt := 13) hx hb d_WO_whichOf_117 (by decide) ?_
                exact ih S a1 a2 (a3 + (1 : Int32)) (1 : Int32) (a5 + (1 : Int32)) _ h H locs ls hP hS (lv_sub hl [4, 5, 6, 1, 2, 0] rfl)
def f_WO_whichOf (S : XS) (a1 : Nat) : Option (Int32) :=
  f_WO_whichOf_13 4096 S a1 (0 : Int32) (xgi S 2 2) (1 : Int32) (0 : Int32)
set_option maxHeartbeats 4000000 in
set_option maxRecDepth 100000 in
theorem k_WO_whichOf (l : Launch) {p : Program} {e : Env} {s : State} {m : MethodId} {args : Array Value} {below : List Frame} {meth : Method} {c : Code} {D : va_G} {lay : Nat → Nat} {cA : Nat → ClassId} {adK adV : Nat → Nat} {s0 : State} (C : xB p s m args meth c R_WO b_WO_whichOf ((Option.some Jvm.ClassFile.FieldType.int)) 7) (E : xE D lay cA adK adV s0 s s.heap) : ∀ (S : XS) (a1 : Nat) (r : Int32) (_ : f_WO_whichOf S a1 = some r) (H : Heap) (locs : List Loc) (ls : Array Slot), va_P D xcl (xw lay cA S) H → va_S (xI lay) s.heap H locs → lv_has ls 7 [(0, .ref (lay 2)), (1, .ref (adK a1))] → W p l e rm_WO_whichOf s m args below meth c H locs 0 0 (MQ below (xqi D lay cA r S) args s 0 0 (xI lay)) (F0 m 0 ls []) := by
  obtain ⟨hx, hb, hr, hml, hown, hts, hlk, hnh⟩ := id C
  have hK := E.K
  intro S a1 r h H locs ls hP hS hl
  unfold f_WO_whichOf at h
  refine lv_iconst (v := (0 : Int32)) hx hb d_WO_whichOf_0 (by decide) ?_
  refine lv_istore_n (lv' := [(2, .int (0 : Int32)), (0, .ref (lay 2)), (1, .ref (adK a1))]) hx hb d_WO_whichOf_1 rfl hl (by decide) rfl (fun ls hl => ?_)
  refine lv_aload_n hx hb d_WO_whichOf_2 rfl (lv_at hl 1 rfl) ?_
  refine va_get (v := .int (xgi S 2 2)) (C := R_WO) (T := F_WO) (N := 9) hx hb hts i_WO hown hK hP 2 (xw_at (by decide) (xc_2 _ _ _ _)) rfl 2 (by decide) (hts _ wd_34) (fun _ h9 => h9) rfl d_WO_whichOf_3 ?_
  refine lv_istore_n (lv' := [(3, .int (xgi S 2 2)), (2, .int (0 : Int32)), (0, .ref (lay 2)), (1, .ref (adK a1))]) hx hb d_WO_whichOf_6 rfl hl (by decide) rfl (fun ls hl => ?_)
  refine lv_iconst (v := (1 : Int32)) hx hb d_WO_whichOf_7 (by decide) ?_
  refine lv_istore (lv' := [(4, .int (1 : Int32)), (3, .int (xgi S 2 2)), (2, .int (0 : Int32)), (0, .ref (lay 2)), (1, .ref (adK a1))]) hx hb d_WO_whichOf_8 hl (by decide) rfl (fun ls hl => ?_)
  refine lv_iconst (v := (0 : Int32)) hx hb d_WO_whichOf_10 (by decide) ?_
  refine lv_istore (lv' := [(5, .int (0 : Int32)), (4, .int (1 : Int32)), (3, .int (xgi S 2 2)), (2, .int (0 : Int32)), (0, .ref (lay 2)), (1, .ref (adK a1))]) hx hb d_WO_whichOf_11 hl (by decide) rfl (fun ls hl => ?_)
  exact k_WO_whichOf_13 l C E 4096 S a1 (0 : Int32) (xgi S 2 2) (1 : Int32) (0 : Int32) _ h H locs ls hP hS (lv_sub hl [4, 5, 3, 2, 1, 0] rfl)
theorem c_WO_whichOf (l : Launch) (D : va_G) (lay : Nat → Nat) (cA : Nat → ClassId) (adK adV : Nat → Nat) (s0 : State) (S : XS) (a1 : Nat) (r : Int32) (h : f_WO_whichOf S a1 = some r) : Met l y_WO_whichOf (.code y_WO_whichOf b_WO_whichOf 7 ((Option.some Jvm.ClassFile.FieldType.int)) :: xT) rm_WO_whichOf (xPc D lay cA adK adV s0 S [.ref (lay 2), .ref (adK a1)]) (xqi D lay cA r S) 0 0 (xI lay) := by
  refine Met.ofW (cc := b_WO_whichOf) (maxL := 7) (ret := (Option.some Jvm.ClassFile.FieldType.int)) (by decide +kernel) rfl ?_
  intro p e s m args below meth c s₁ B hml hv
  obtain ⟨rfl, hP, E⟩ := hv
  have C := xB_of B hml
  have hl := lv_entry ([.ref (lay 2), .ref (adK a1)]) (n := 7) (Nat.le_of_ble_eq_true rfl)
  rw [lg_entry_eq]
  generalize (lg_sl ([.ref (lay 2), .ref (adK a1)]) ++ List.replicate (7 - (lg_sl ([.ref (lay 2), .ref (adK a1)])).length) Slot.unset).toArray = ls at hl ⊢
  exact k_WO_whichOf l C E S a1 r h s.heap [] ls hP va_S.rf hl
/-! ConfigTexts$Words.is(Ljava/lang/String;)Z -/
def rm_WO_is : Room := { frames := 5, cells := 0, slots := 0, locals := 111 }
theorem d_WO_is_0 : decode b_WO_is 0 = .ok (.aload_n 0, 1) := by decide +kernel
theorem d_WO_is_1 : decode b_WO_is 1 = .ok (.aload_n 1, 1) := by decide +kernel
theorem d_WO_is_2 : decode b_WO_is 2 = .ok (.invokevirtual 89, 3) := by decide +kernel
theorem d_WO_is_5 : decode b_WO_is 5 = .ok (.ifCond .ne 7, 3) := by decide +kernel
theorem d_WO_is_8 : decode b_WO_is 8 = .ok (.iconst 1, 1) := by decide +kernel
theorem d_WO_is_9 : decode b_WO_is 9 = .ok (.goto 4, 3) := by decide +kernel
theorem d_WO_is_12 : decode b_WO_is 12 = .ok (.iconst 0, 1) := by decide +kernel
theorem d_WO_is_13 : decode b_WO_is 13 = .ok (.ireturn, 1) := by decide +kernel
def f_WO_is (S : XS) (a1 : Nat) : Option (Int32) :=
  (f_WO_whichOf S a1).bind fun q2 => if q2 = 0 then (some (1 : Int32)) else (some (0 : Int32))
set_option maxHeartbeats 4000000 in
set_option maxRecDepth 100000 in
theorem k_WO_is (l : Launch) {p : Program} {e : Env} {s : State} {m : MethodId} {args : Array Value} {below : List Frame} {meth : Method} {c : Code} {D : va_G} {lay : Nat → Nat} {cA : Nat → ClassId} {adK adV : Nat → Nat} {s0 : State} (C : xB p s m args meth c R_WO b_WO_is ((Option.some Jvm.ClassFile.FieldType.boolean)) 2) (E : xE D lay cA adK adV s0 s s.heap) : ∀ (S : XS) (a1 : Nat) (r : Int32) (_ : f_WO_is S a1 = some r) (H : Heap) (locs : List Loc) (ls : Array Slot), va_P D xcl (xw lay cA S) H → va_S (xI lay) s.heap H locs → lv_has ls 2 [(0, .ref (lay 2)), (1, .ref (adK a1))] → W p l e rm_WO_is s m args below meth c H locs 0 0 (MQ below (xqi D lay cA r S) args s 0 0 (xI lay)) (F0 m 0 ls []) := by
  obtain ⟨hx, hb, hr, hml, hown, hts, hlk, hnh⟩ := id C
  have hK := E.K
  intro S a1 r h H locs ls hP hS hl
  unfold f_WO_is at h
  refine lv_aload_n hx hb d_WO_is_0 rfl (lv_at hl 0 rfl) ?_
  refine lv_aload_n hx hb d_WO_is_1 rfl (lv_at hl 1 rfl) ?_
  obtain ⟨q2, e1, h⟩ := xb h
  refine xc_i (va_runV (As := [.ref (adK a1)]) (rest := []) ⟨hx, hb, hml, hown, hts⟩ (c_WO_whichOf l D lay cA adK adV s0 S a1 q2 e1) (cwV 1 hts (xT_V wd_459 wd_460 wd_461 wd_2 wd_462) rfl rfl rfl (by decide +kernel) ⟨Nat.le_of_ble_eq_true rfl, Nat.le_of_ble_eq_true rfl⟩) (xpV E hP hS (by decide) (xc_2 _ _ _ _) rfl) rfl rfl hl.1 rfl (lv_room (Nat.le_of_ble_eq_true rfl)) d_WO_is_2 ⟨Nat.le_of_ble_eq_true rfl, Nat.le_of_ble_eq_true rfl⟩) hS (fun H locs hP hS => ?_)
  refine lv_if_ne (tgt := 12) hx hb d_WO_is_5 (by decide) (fun c_3 => ?_) (fun c_3 => ?_)
  · have h := xif_f c_3 h
    refine lv_iconst (v := (0 : Int32)) hx hb d_WO_is_12 (by decide) ?_
    have h9 := Option.some.inj h
    subst h9
    exact W.zret (v := (0 : Int32)) hx hb hr (by decide) (fun t ht hW => ⟨⟨(0 : Int32), (), rfl, rfl, by show va_P D xcl _ t.heap; rw [ht]; exact hP⟩, hS.F ht⟩) hS.2.2 d_WO_is_13
  · have h := xif_t c_3 h
    refine lv_iconst (v := (1 : Int32)) hx hb d_WO_is_8 (by decide) ?_
    refine lv_goto (tgt := 13) hx hb d_WO_is_9 (by decide) ?_
    have h9 := Option.some.inj h
    subst h9
    exact W.zret (v := (1 : Int32)) hx hb hr (by decide) (fun t ht hW => ⟨⟨(1 : Int32), (), rfl, rfl, by show va_P D xcl _ t.heap; rw [ht]; exact hP⟩, hS.F ht⟩) hS.2.2 d_WO_is_13
theorem c_WO_is (l : Launch) (D : va_G) (lay : Nat → Nat) (cA : Nat → ClassId) (adK adV : Nat → Nat) (s0 : State) (S : XS) (a1 : Nat) (r : Int32) (h : f_WO_is S a1 = some r) : Met l y_WO_is (.code y_WO_is b_WO_is 2 ((Option.some Jvm.ClassFile.FieldType.boolean)) :: xT) rm_WO_is (xPc D lay cA adK adV s0 S [.ref (lay 2), .ref (adK a1)]) (xqi D lay cA r S) 0 0 (xI lay) := by
  refine Met.ofW (cc := b_WO_is) (maxL := 2) (ret := (Option.some Jvm.ClassFile.FieldType.boolean)) (by decide +kernel) rfl ?_
  intro p e s m args below meth c s₁ B hml hv
  obtain ⟨rfl, hP, E⟩ := hv
  have C := xB_of B hml
  have hl := lv_entry ([.ref (lay 2), .ref (adK a1)]) (n := 2) (Nat.le_of_ble_eq_true rfl)
  rw [lg_entry_eq]
  generalize (lg_sl ([.ref (lay 2), .ref (adK a1)]) ++ List.replicate (2 - (lg_sl ([.ref (lay 2), .ref (adK a1)])).length) Slot.unset).toArray = ls at hl ⊢
  exact k_WO_is l C E S a1 r h s.heap [] ls hP va_S.rf hl
/-! ConfigTexts$Words.expect(Ljava/lang/String;)V -/
def rm_WO_expect : Room := { frames := 8, cells := 1, slots := 6, locals := 141 }
theorem d_WO_expect_0 : decode b_WO_expect 0 = .ok (.aload_n 0, 1) := by decide +kernel
theorem d_WO_expect_1 : decode b_WO_expect 1 = .ok (.aload_n 1, 1) := by decide +kernel
theorem d_WO_expect_2 : decode b_WO_expect 2 = .ok (.invokevirtual 93, 3) := by decide +kernel
theorem d_WO_expect_5 : decode b_WO_expect 5 = .ok (.ifCond .ne 8, 3) := by decide +kernel
theorem d_WO_expect_8 : decode b_WO_expect 8 = .ok (.aload_n 0, 1) := by decide +kernel
theorem d_WO_expect_9 : decode b_WO_expect 9 = .ok (.iconst 1, 1) := by decide +kernel
theorem d_WO_expect_10 : decode b_WO_expect 10 = .ok (.invokevirtual 50, 3) := by decide +kernel
theorem d_WO_expect_13 : decode b_WO_expect 13 = .ok (.aload_n 0, 1) := by decide +kernel
theorem d_WO_expect_14 : decode b_WO_expect 14 = .ok (.invokevirtual 37, 3) := by decide +kernel
theorem d_WO_expect_17 : decode b_WO_expect 17 = .ok (.return_, 1) := by decide +kernel
def f_WO_expect (S : XS) (a1 : Nat) : Option ((Unit × XS) ⊕ XS) :=
  (f_WO_is S a1).bind fun q2 => if q2 = 0 then ((f_WO_fail S (1 : Int32)).bind (xT2 fun _ S11 => (f_WO_next S11).bind (xT2 fun _ S16 => some (.inl ((), S16))))) else ((f_WO_next S).bind (xT2 fun _ S6 => some (.inl ((), S6))))
set_option maxHeartbeats 4000000 in
set_option maxRecDepth 100000 in
theorem k_WO_expect (l : Launch) (hq : l.stackTraces = false) {p : Program} {e : Env} {s : State} {m : MethodId} {args : Array Value} {below : List Frame} {meth : Method} {c : Code} {D : va_G} {lay : Nat → Nat} {cA : Nat → ClassId} {adK adV : Nat → Nat} {s0 : State} (C : xB p s m args meth c R_WO b_WO_expect ((Option.none : Option Jvm.ClassFile.FieldType)) 2) (E : xE D lay cA adK adV s0 s s.heap) : ∀ (S : XS) (a1 : Nat) (r : (Unit × XS) ⊕ XS) (_ : f_WO_expect S a1 = some r) (H : Heap) (locs : List Loc) (ls : Array Slot), va_P D xcl (xw lay cA S) H → va_S (xI lay) s.heap H locs → lv_has ls 2 [(0, .ref (lay 2)), (1, .ref (adK a1))] → W p l e rm_WO_expect s m args below meth c H locs 0 0 (XF below (xrv D lay cA r) (xrt D lay cA r) s 0 0 1 6 (xI lay)) (F0 m 0 ls []) := by
  obtain ⟨hx, hb, hr, hml, hown, hts, hlk, hnh⟩ := id C
  have hK := E.K
  intro S a1 r h H locs ls hP hS hl
  unfold f_WO_expect at h
  refine lv_aload_n hx hb d_WO_expect_0 rfl (lv_at hl 0 rfl) ?_
  refine lv_aload_n hx hb d_WO_expect_1 rfl (lv_at hl 1 rfl) ?_
  obtain ⟨q2, e1, h⟩ := xb h
  refine xc_i (va_runV (As := [.ref (adK a1)]) (rest := []) ⟨hx, hb, hml, hown, hts⟩ (c_WO_is l D lay cA adK adV s0 S a1 q2 e1) (cwV 1 hts (xT_V wd_497 wd_456 wd_457 wd_2 wd_458) rfl rfl rfl (by decide +kernel) ⟨Nat.le_of_ble_eq_true rfl, Nat.le_of_ble_eq_true rfl⟩) (xpV E hP hS (by decide) (xc_2 _ _ _ _) rfl) rfl rfl hl.1 rfl (lv_room (Nat.le_of_ble_eq_true rfl)) d_WO_expect_2 ⟨Nat.le_of_ble_eq_true rfl, Nat.le_of_ble_eq_true rfl⟩) hS (fun H locs hP hS => ?_)
  refine lv_if_ne (tgt := 13) hx hb d_WO_expect_5 (by decide) (fun c_18 => ?_) (fun c_18 => ?_)
  · have h := xif_f c_18 h
    refine lv_aload_n hx hb d_WO_expect_13 rfl (lv_at hl 0 rfl) ?_
    obtain ⟨q4, e3, h⟩ := xb h
    refine xk_v (xrunV (As := []) (rest := []) ⟨hx, hb, hml, hown, hts⟩ (c_WO_next l hq D lay cA adK adV s0 S q4 e3) (cwV 0 hts (xT_V wd_284 wd_285 wd_286 wd_2 wd_287) rfl rfl rfl (by decide +kernel) ⟨Nat.le_of_ble_eq_true rfl, Nat.le_of_ble_eq_true rfl⟩) (xpV E hP hS (by decide) (xc_2 _ _ _ _) rfl) rfl rfl hl.1 rfl (lv_room (Nat.le_of_ble_eq_true rfl)) d_WO_expect_14 ⟨Nat.le_of_ble_eq_true rfl, Nat.le_of_ble_eq_true rfl⟩) hS hnh hlk (fun S9 e9 => by subst e9; exact (Option.some.inj h).symm) (fun v5 S6 w7 H locs hP hS => ?_)
    subst w7
    dsimp only [xT2] at h
    have h9 := Option.some.inj h
    subst h9
    exact xret (W.vret hx hb hr (fun t ht hW => ⟨_, rfl, ⟨⟨(), S6, rfl, rfl, by show va_P D xcl _ t.heap; rw [ht]; exact hP⟩, hS.F ht⟩⟩) hS.2.2 d_WO_expect_17)
  · have h := xif_t c_18 h
    refine lv_aload_n hx hb d_WO_expect_8 rfl (lv_at hl 0 rfl) ?_
    refine lv_iconst (v := (1 : Int32)) hx hb d_WO_expect_9 (by decide) ?_
    obtain ⟨q9, e8, h⟩ := xb h
    refine xk_v (xrunV (As := [.int (1 : Int32)]) (rest := []) ⟨hx, hb, hml, hown, hts⟩ (c_WO_fail l hq D lay cA adK adV s0 S (1 : Int32) q9 e8) (cwV 1 hts (xT_V wd_385 wd_386 wd_387 wd_2 wd_388) rfl rfl rfl (by decide +kernel) ⟨Nat.le_of_ble_eq_true rfl, Nat.le_of_ble_eq_true rfl⟩) (xpV E hP hS (by decide) (xc_2 _ _ _ _) rfl) rfl rfl hl.1 rfl (lv_room (Nat.le_of_ble_eq_true rfl)) d_WO_expect_10 ⟨Nat.le_of_ble_eq_true rfl, Nat.le_of_ble_eq_true rfl⟩) hS hnh hlk (fun S9 e9 => by subst e9; exact (Option.some.inj h).symm) (fun v10 S11 w12 H locs hP hS => ?_)
    subst w12
    dsimp only [xT2] at h
    refine lv_aload_n hx hb d_WO_expect_13 rfl (lv_at hl 0 rfl) ?_
    obtain ⟨q14, e13, h⟩ := xb h
    refine xk_v (xrunV (As := []) (rest := []) ⟨hx, hb, hml, hown, hts⟩ (c_WO_next l hq D lay cA adK adV s0 S11 q14 e13) (cwV 0 hts (xT_V wd_284 wd_285 wd_286 wd_2 wd_287) rfl rfl rfl (by decide +kernel) ⟨Nat.le_of_ble_eq_true rfl, Nat.le_of_ble_eq_true rfl⟩) (xpV E hP hS (by decide) (xc_2 _ _ _ _) rfl) rfl rfl hl.1 rfl (lv_room (Nat.le_of_ble_eq_true rfl)) d_WO_expect_14 ⟨Nat.le_of_ble_eq_true rfl, Nat.le_of_ble_eq_true rfl⟩) hS hnh hlk (fun S9 e9 => by subst e9; exact (Option.some.inj h).symm) (fun v15 S16 w17 H locs hP hS => ?_)
    subst w17
    dsimp only [xT2] at h
    have h9 := Option.some.inj h
    subst h9
    exact xret (W.vret hx hb hr (fun t ht hW => ⟨_, rfl, ⟨⟨(), S16, rfl, rfl, by show va_P D xcl _ t.heap; rw [ht]; exact hP⟩, hS.F ht⟩⟩) hS.2.2 d_WO_expect_17)
theorem c_WO_expect (l : Launch) (hq : l.stackTraces = false) (D : va_G) (lay : Nat → Nat) (cA : Nat → ClassId) (adK adV : Nat → Nat) (s0 : State) (S : XS) (a1 : Nat) (r : (Unit × XS) ⊕ XS) (h : f_WO_expect S a1 = some r) : MetX l y_WO_expect (.code y_WO_expect b_WO_expect 2 ((Option.none : Option Jvm.ClassFile.FieldType)) :: xT) rm_WO_expect (xPc D lay cA adK adV s0 S [.ref (lay 2), .ref (adK a1)]) (xrv D lay cA r) (xrt D lay cA r) 0 0 1 6 (xI lay) := by
  refine MetX.ofW (cc := b_WO_expect) (maxL := 2) (ret := (Option.none : Option Jvm.ClassFile.FieldType)) (by decide +kernel) rfl ?_
  intro p e s m args below meth c s₁ B hml hv
  obtain ⟨rfl, hP, E⟩ := hv
  have C := xB_of B hml
  have hl := lv_entry ([.ref (lay 2), .ref (adK a1)]) (n := 2) (Nat.le_of_ble_eq_true rfl)
  rw [lg_entry_eq]
  generalize (lg_sl ([.ref (lay 2), .ref (adK a1)]) ++ List.replicate (2 - (lg_sl ([.ref (lay 2), .ref (adK a1)])).length) Slot.unset).toArray = ls at hl ⊢
  exact k_WO_expect l hq C E S a1 r h s.heap [] ls hP va_S.rf hl
/-! ConfigTexts$Words.expectEnd()V -/
def rm_WO_expectEnd : Room := { frames := 7, cells := 1, slots := 6, locals := 121 }
theorem d_WO_expectEnd_0 : decode b_WO_expectEnd 0 = .ok (.aload_n 0, 1) := by decide +kernel
theorem d_WO_expectEnd_1 : decode b_WO_expectEnd 1 = .ok (.getfield 15, 3) := by decide +kernel
theorem d_WO_expectEnd_4 : decode b_WO_expectEnd 4 = .ok (.ifCond .eq 8, 3) := by decide +kernel
theorem d_WO_expectEnd_7 : decode b_WO_expectEnd 7 = .ok (.aload_n 0, 1) := by decide +kernel
theorem d_WO_expectEnd_8 : decode b_WO_expectEnd 8 = .ok (.iconst 1, 1) := by decide +kernel
theorem d_WO_expectEnd_9 : decode b_WO_expectEnd 9 = .ok (.invokevirtual 50, 3) := by decide +kernel
theorem d_WO_expectEnd_12 : decode b_WO_expectEnd 12 = .ok (.return_, 1) := by decide +kernel
def f_WO_expectEnd (S : XS)  : Option ((Unit × XS) ⊕ XS) :=
  if (xgi S 2 4) = 0 then (some (.inl ((), S))) else ((f_WO_fail S (1 : Int32)).bind (xT2 fun _ S4 => some (.inl ((), S4))))
set_option maxHeartbeats 4000000 in
set_option maxRecDepth 100000 in
theorem k_WO_expectEnd (l : Launch) (hq : l.stackTraces = false) {p : Program} {e : Env} {s : State} {m : MethodId} {args : Array Value} {below : List Frame} {meth : Method} {c : Code} {D : va_G} {lay : Nat → Nat} {cA : Nat → ClassId} {adK adV : Nat → Nat} {s0 : State} (C : xB p s m args meth c R_WO b_WO_expectEnd ((Option.none : Option Jvm.ClassFile.FieldType)) 1) (E : xE D lay cA adK adV s0 s s.heap) : ∀ (S : XS)  (r : (Unit × XS) ⊕ XS) (_ : f_WO_expectEnd S = some r) (H : Heap) (locs : List Loc) (ls : Array Slot), va_P D xcl (xw lay cA S) H → va_S (xI lay) s.heap H locs → lv_has ls 1 [(0, .ref (lay 2))] → W p l e rm_WO_expectEnd s m args below meth c H locs 0 0 (XF below (xrv D lay cA r) (xrt D lay cA r) s 0 0 1 6 (xI lay)) (F0 m 0 ls []) := by
  obtain ⟨hx, hb, hr, hml, hown, hts, hlk, hnh⟩ := id C
  have hK := E.K
  intro S r h H locs ls hP hS hl
  unfold f_WO_expectEnd at h
  refine lv_aload_n hx hb d_WO_expectEnd_0 rfl (lv_at hl 0 rfl) ?_
  refine va_get (v := .int (xgi S 2 4)) (C := R_WO) (T := F_WO) (N := 9) hx hb hts i_WO hown hK hP 2 (xw_at (by decide) (xc_2 _ _ _ _)) rfl 4 (by decide) (hts _ wd_37) (fun _ h9 => h9) rfl d_WO_expectEnd_1 ?_
  refine lv_if_eq (tgt := 12) hx hb d_WO_expectEnd_4 (by decide) (fun c_6 => ?_) (fun c_6 => ?_)
  · have h := xif_t c_6 h
    have h9 := Option.some.inj h
    subst h9
    exact xret (W.vret hx hb hr (fun t ht hW => ⟨_, rfl, ⟨⟨(), S, rfl, rfl, by show va_P D xcl _ t.heap; rw [ht]; exact hP⟩, hS.F ht⟩⟩) hS.2.2 d_WO_expectEnd_12)
  · have h := xif_f c_6 h
    refine lv_aload_n hx hb d_WO_expectEnd_7 rfl (lv_at hl 0 rfl) ?_
    refine lv_iconst (v := (1 : Int32)) hx hb d_WO_expectEnd_8 (by decide) ?_
    obtain ⟨q2, e1, h⟩ := xb h
    refine xk_v (xrunV (As := [.int (1 : Int32)]) (rest := []) ⟨hx, hb, hml, hown, hts⟩ (c_WO_fail l hq D lay cA adK adV s0 S (1 : Int32) q2 e1) (cwV 1 hts (xT_V wd_385 wd_386 wd_387 wd_2 wd_388) rfl rfl rfl (by decide +kernel) ⟨Nat.le_of_ble_eq_true rfl, Nat.le_of_ble_eq_true rfl⟩) (xpV E hP hS (by decide) (xc_2 _ _ _ _) rfl) rfl rfl hl.1 rfl (lv_room (Nat.le_of_ble_eq_true rfl)) d_WO_expectEnd_9 ⟨Nat.le_of_ble_eq_true rfl, Nat.le_of_ble_eq_true rfl⟩) hS hnh hlk (fun S9 e9 => by subst e9; exact (Option.some.inj h).symm) (fun v3 S4 w5 H locs hP hS => ?_)
    subst w5
    dsimp only [xT2] at h
    have h9 := Option.some.inj h
    subst h9
    exact xret (W.vret hx hb hr (fun t ht hW => ⟨_, rfl, ⟨⟨(), S4, rfl, rfl, by show va_P D xcl _ t.heap; rw [ht]; exact hP⟩, hS.F ht⟩⟩) hS.2.2 d_WO_expectEnd_12)
theorem c_WO_expectEnd (l : Launch) (hq : l.stackTraces = false) (D : va_G) (lay : Nat → Nat) (cA : Nat → ClassId) (adK adV : Nat → Nat) (s0 : State) (S : XS)  (r : (Unit × XS) ⊕ XS) (h : f_WO_expectEnd S  = some r) : MetX l y_WO_expectEnd (.code y_WO_expectEnd b_WO_expectEnd 1 ((Option.none : Option Jvm.ClassFile.FieldType)) :: xT) rm_WO_expectEnd (xPc D lay cA adK adV s0 S [.ref (lay 2)]) (xrv D lay cA r) (xrt D lay cA r) 0 0 1 6 (xI lay) := by
  refine MetX.ofW (cc := b_WO_expectEnd) (maxL := 1) (ret := (Option.none : Option Jvm.ClassFile.FieldType)) (by decide +kernel) rfl ?_
  intro p e s m args below meth c s₁ B hml hv
  obtain ⟨rfl, hP, E⟩ := hv
  have C := xB_of B hml
  have hl := lv_entry ([.ref (lay 2)]) (n := 1) (Nat.le_of_ble_eq_true rfl)
  rw [lg_entry_eq]
  generalize (lg_sl ([.ref (lay 2)]) ++ List.replicate (1 - (lg_sl ([.ref (lay 2)])).length) Slot.unset).toArray = ls at hl ⊢
  exact k_WO_expectEnd l hq C E S  r h s.heap [] ls hP va_S.rf hl
/-! ConfigTexts$Words.expectOneOf(Ljava/lang/String;)I -/
def rm_WO_expectOneOf : Room := { frames := 7, cells := 1, slots := 6, locals := 121 }
theorem d_WO_expectOneOf_0 : decode b_WO_expectOneOf 0 = .ok (.aload_n 0, 1) := by decide +kernel
theorem d_WO_expectOneOf_1 : decode b_WO_expectOneOf 1 = .ok (.aload_n 1, 1) := by decide +kernel
theorem d_WO_expectOneOf_2 : decode b_WO_expectOneOf 2 = .ok (.invokevirtual 89, 3) := by decide +kernel
theorem d_WO_expectOneOf_5 : decode b_WO_expectOneOf 5 = .ok (.istore_n 2, 1) := by decide +kernel
theorem d_WO_expectOneOf_6 : decode b_WO_expectOneOf 6 = .ok (.iload_n 2, 1) := by decide +kernel
theorem d_WO_expectOneOf_7 : decode b_WO_expectOneOf 7 = .ok (.iconst (-1), 1) := by decide +kernel
theorem d_WO_expectOneOf_8 : decode b_WO_expectOneOf 8 = .ok (.if_icmp .ne 8, 3) := by decide +kernel
theorem d_WO_expectOneOf_11 : decode b_WO_expectOneOf 11 = .ok (.aload_n 0, 1) := by decide +kernel
theorem d_WO_expectOneOf_12 : decode b_WO_expectOneOf 12 = .ok (.iconst 1, 1) := by decide +kernel
theorem d_WO_expectOneOf_13 : decode b_WO_expectOneOf 13 = .ok (.invokevirtual 50, 3) := by decide +kernel
theorem d_WO_expectOneOf_16 : decode b_WO_expectOneOf 16 = .ok (.iload_n 2, 1) := by decide +kernel
theorem d_WO_expectOneOf_17 : decode b_WO_expectOneOf 17 = .ok (.ireturn, 1) := by decide +kernel
def f_WO_expectOneOf (S : XS) (a1 : Nat) : Option ((Int32 × XS) ⊕ XS) :=
  (f_WO_whichOf S a1).bind fun q2 => if q2 = (-1 : Int32) then ((f_WO_fail S (1 : Int32)).bind (xT2 fun _ S6 => some (.inl (q2, S6)))) else (some (.inl (q2, S)))
set_option maxHeartbeats 4000000 in
set_option maxRecDepth 100000 in
theorem k_WO_expectOneOf (l : Launch) (hq : l.stackTraces = false) {p : Program} {e : Env} {s : State} {m : MethodId} {args : Array Value} {below : List Frame} {meth : Method} {c : Code} {D : va_G} {lay : Nat → Nat} {cA : Nat → ClassId} {adK adV : Nat → Nat} {s0 : State} (C : xB p s m args meth c R_WO b_WO_expectOneOf ((Option.some Jvm.ClassFile.FieldType.int)) 3) (E : xE D lay cA adK adV s0 s s.heap) : ∀ (S : XS) (a1 : Nat) (r : (Int32 × XS) ⊕ XS) (_ : f_WO_expectOneOf S a1 = some r) (H : Heap) (locs : List Loc) (ls : Array Slot), va_P D xcl (xw lay cA S) H → va_S (xI lay) s.heap H locs → lv_has ls 3 [(0, .ref (lay 2)), (1, .ref (adK a1))] → W p l e rm_WO_expectOneOf s m args below meth c H locs 0 0 (XF below (xri D lay cA r) (xrt D lay cA r) s 0 0 1 6 (xI lay)) (F0 m 0 ls []) := by
  obtain ⟨hx, hb, hr, hml, hown, hts, hlk, hnh⟩ := id C
  have hK := E.K
  intro S a1 r h H locs ls hP hS hl
  unfold f_WO_expectOneOf at h
  refine lv_aload_n hx hb d_WO_expectOneOf_0 rfl (lv_at hl 0 rfl) ?_
  refine lv_aload_n hx hb d_WO_expectOneOf_1 rfl (lv_at hl 1 rfl) ?_
  obtain ⟨q2, e1, h⟩ := xb h
  refine xc_i (va_runV (As := [.ref (adK a1)]) (rest := []) ⟨hx, hb, hml, hown, hts⟩ (c_WO_whichOf l D lay cA adK adV s0 S a1 q2 e1) (cwV 1 hts (xT_V wd_459 wd_460 wd_461 wd_2 wd_462) rfl rfl rfl (by decide +kernel) ⟨Nat.le_of_ble_eq_true rfl, Nat.le_of_ble_eq_true rfl⟩) (xpV E hP hS (by decide) (xc_2 _ _ _ _) rfl) rfl rfl hl.1 rfl (lv_room (Nat.le_of_ble_eq_true rfl)) d_WO_expectOneOf_2 ⟨Nat.le_of_ble_eq_true rfl, Nat.le_of_ble_eq_true rfl⟩) hS (fun H locs hP hS => ?_)
  refine lv_istore_n (lv' := [(2, .int q2), (0, .ref (lay 2)), (1, .ref (adK a1))]) hx hb d_WO_expectOneOf_5 rfl hl (by decide) rfl (fun ls hl => ?_)
  refine lv_iload_n hx hb d_WO_expectOneOf_6 rfl (lv_at hl 0 rfl) ?_
  refine lv_iconst (v := (-1 : Int32)) hx hb d_WO_expectOneOf_7 (by decide) ?_
  refine lv_icmp_ne (tgt := 16) hx hb d_WO_expectOneOf_8 (by decide) (fun c_8 => ?_) (fun c_8 => ?_)
  · have h := xif_f c_8 h
    refine lv_iload_n hx hb d_WO_expectOneOf_16 rfl (lv_at hl 0 rfl) ?_
    have h9 := Option.some.inj h
    subst h9
    exact xret (W.iret (v := q2) hx hb hr (fun t ht hW => ⟨_, rfl, ⟨⟨q2, S, rfl, rfl, by show va_P D xcl _ t.heap; rw [ht]; exact hP⟩, hS.F ht⟩⟩) hS.2.2 d_WO_expectOneOf_17)
  · have h := xif_t c_8 h
    refine lv_aload_n hx hb d_WO_expectOneOf_11 rfl (lv_at hl 1 rfl) ?_
    refine lv_iconst (v := (1 : Int32)) hx hb d_WO_expectOneOf_12 (by decide) ?_
    obtain ⟨q4, e3, h⟩ := xb h
    refine xk_v (xrunV (As := [.int (1 : Int32)]) (rest := []) ⟨hx, hb, hml, hown, hts⟩ (c_WO_fail l hq D lay cA adK adV s0 S (1 : Int32) q4 e3) (cwV 1 hts (xT_V wd_385 wd_386 wd_387 wd_2 wd_388) rfl rfl rfl (by decide +kernel) ⟨Nat.le_of_ble_eq_true rfl, Nat.le_of_ble_eq_true rfl⟩) (xpV E hP hS (by decide) (xc_2 _ _ _ _) rfl) rfl rfl hl.1 rfl (lv_room (Nat.le_of_ble_eq_true rfl)) d_WO_expectOneOf_13 ⟨Nat.le_of_ble_eq_true rfl, Nat.le_of_ble_eq_true rfl⟩) hS hnh hlk (fun S9 e9 => by subst e9; exact (Option.some.inj h).symm) (fun v5 S6 w7 H locs hP hS => ?_)
    subst w7
    dsimp only [xT2] at h
    refine lv_iload_n hx hb d_WO_expectOneOf_16 rfl (lv_at hl 0 rfl) ?_
    have h9 := Option.some.inj h
    subst h9
    exact xret (W.iret (v := q2) hx hb hr (fun t ht hW => ⟨_, rfl, ⟨⟨q2, S6, rfl, rfl, by show va_P D xcl _ t.heap; rw [ht]; exact hP⟩, hS.F ht⟩⟩) hS.2.2 d_WO_expectOneOf_17)
theorem c_WO_expectOneOf (l : Launch) (hq : l.stackTraces = false) (D : va_G) (lay : Nat → Nat) (cA : Nat → ClassId) (adK adV : Nat → Nat) (s0 : State) (S : XS) (a1 : Nat) (r : (Int32 × XS) ⊕ XS) (h : f_WO_expectOneOf S a1 = some r) : MetX l y_WO_expectOneOf (.code y_WO_expectOneOf b_WO_expectOneOf 3 ((Option.some Jvm.ClassFile.FieldType.int)) :: xT) rm_WO_expectOneOf (xPc D lay cA adK adV s0 S [.ref (lay 2), .ref (adK a1)]) (xri D lay cA r) (xrt D lay cA r) 0 0 1 6 (xI lay) := by
  refine MetX.ofW (cc := b_WO_expectOneOf) (maxL := 3) (ret := (Option.some Jvm.ClassFile.FieldType.int)) (by decide +kernel) rfl ?_
  intro p e s m args below meth c s₁ B hml hv
  obtain ⟨rfl, hP, E⟩ := hv
  have C := xB_of B hml
  have hl := lv_entry ([.ref (lay 2), .ref (adK a1)]) (n := 3) (Nat.le_of_ble_eq_true rfl)
  rw [lg_entry_eq]
  generalize (lg_sl ([.ref (lay 2), .ref (adK a1)]) ++ List.replicate (3 - (lg_sl ([.ref (lay 2), .ref (adK a1)])).length) Slot.unset).toArray = ls at hl ⊢
  exact k_WO_expectOneOf l hq C E S a1 r h s.heap [] ls hP va_S.rf hl
/-! ConfigTexts$Words.expectName()J -/
def rm_WO_expectName : Room := { frames := 7, cells := 1, slots := 6, locals := 121 }
theorem d_WO_expectName_0 : decode b_WO_expectName 0 = .ok (.aload_n 0, 1) := by decide +kernel
theorem d_WO_expectName_1 : decode b_WO_expectName 1 = .ok (.getfield 15, 3) := by decide +kernel
theorem d_WO_expectName_4 : decode b_WO_expectName 4 = .ok (.iconst 1, 1) := by decide +kernel
theorem d_WO_expectName_5 : decode b_WO_expectName 5 = .ok (.if_icmp .ne 13, 3) := by decide +kernel
theorem d_WO_expectName_8 : decode b_WO_expectName 8 = .ok (.aload_n 0, 1) := by decide +kernel
theorem d_WO_expectName_9 : decode b_WO_expectName 9 = .ok (.ldc 97, 2) := by decide +kernel
theorem d_WO_expectName_11 : decode b_WO_expectName 11 = .ok (.invokevirtual 89, 3) := by decide +kernel
theorem d_WO_expectName_14 : decode b_WO_expectName 14 = .ok (.iconst (-1), 1) := by decide +kernel
theorem d_WO_expectName_15 : decode b_WO_expectName 15 = .ok (.if_icmp .eq 8, 3) := by decide +kernel
theorem d_WO_expectName_18 : decode b_WO_expectName 18 = .ok (.aload_n 0, 1) := by decide +kernel
theorem d_WO_expectName_19 : decode b_WO_expectName 19 = .ok (.iconst 1, 1) := by decide +kernel
theorem d_WO_expectName_20 : decode b_WO_expectName 20 = .ok (.invokevirtual 50, 3) := by decide +kernel
theorem d_WO_expectName_23 : decode b_WO_expectName 23 = .ok (.aload_n 0, 1) := by decide +kernel
theorem d_WO_expectName_24 : decode b_WO_expectName 24 = .ok (.getfield 72, 3) := by decide +kernel
theorem d_WO_expectName_27 : decode b_WO_expectName 27 = .ok (.lreturn, 1) := by decide +kernel
def f_WO_expectName (S : XS)  : Option ((Int64 × XS) ⊕ XS) :=
  if (xgi S 2 4) = (1 : Int32) then ((f_WO_whichOf S 3).bind fun q7 => if q7 = (-1 : Int32) then (some (.inl (xgl S 2 6, S))) else ((f_WO_fail S (1 : Int32)).bind (xT2 fun _ S11 => some (.inl (xgl S11 2 6, S11))))) else ((f_WO_fail S (1 : Int32)).bind (xT2 fun _ S4 => some (.inl (xgl S4 2 6, S4))))
set_option maxHeartbeats 4000000 in
set_option maxRecDepth 100000 in
theorem k_WO_expectName (l : Launch) (hq : l.stackTraces = false) {p : Program} {e : Env} {s : State} {m : MethodId} {args : Array Value} {below : List Frame} {meth : Method} {c : Code} {D : va_G} {lay : Nat → Nat} {cA : Nat → ClassId} {adK adV : Nat → Nat} {s0 : State} (C : xB p s m args meth c R_WO b_WO_expectName ((Option.some Jvm.ClassFile.FieldType.long)) 1) (E : xE D lay cA adK adV s0 s s.heap) : ∀ (S : XS)  (r : (Int64 × XS) ⊕ XS) (_ : f_WO_expectName S = some r) (H : Heap) (locs : List Loc) (ls : Array Slot), va_P D xcl (xw lay cA S) H → va_S (xI lay) s.heap H locs → lv_has ls 1 [(0, .ref (lay 2))] → W p l e rm_WO_expectName s m args below meth c H locs 0 0 (XF below (xrl D lay cA r) (xrt D lay cA r) s 0 0 1 6 (xI lay)) (F0 m 0 ls []) := by
  obtain ⟨hx, hb, hr, hml, hown, hts, hlk, hnh⟩ := id C
  have hK := E.K
  intro S r h H locs ls hP hS hl
  unfold f_WO_expectName at h
  refine lv_aload_n hx hb d_WO_expectName_0 rfl (lv_at hl 0 rfl) ?_
  refine va_get (v := .int (xgi S 2 4)) (C := R_WO) (T := F_WO) (N := 9) hx hb hts i_WO hown hK hP 2 (xw_at (by decide) (xc_2 _ _ _ _)) rfl 4 (by decide) (hts _ wd_37) (fun _ h9 => h9) rfl d_WO_expectName_1 ?_
  refine lv_iconst (v := (1 : Int32)) hx hb d_WO_expectName_4 (by decide) ?_
  refine lv_icmp_ne (tgt := 18) hx hb d_WO_expectName_5 (by decide) (fun c_14 => ?_) (fun c_14 => ?_)
  · have h := xif_f c_14 h
    refine lv_aload_n hx hb d_WO_expectName_18 rfl (lv_at hl 0 rfl) ?_
    refine lv_iconst (v := (1 : Int32)) hx hb d_WO_expectName_19 (by decide) ?_
    obtain ⟨q2, e1, h⟩ := xb h
    refine xk_v (xrunV (As := [.int (1 : Int32)]) (rest := []) ⟨hx, hb, hml, hown, hts⟩ (c_WO_fail l hq D lay cA adK adV s0 S (1 : Int32) q2 e1) (cwV 1 hts (xT_V wd_385 wd_386 wd_387 wd_2 wd_388) rfl rfl rfl (by decide +kernel) ⟨Nat.le_of_ble_eq_true rfl, Nat.le_of_ble_eq_true rfl⟩) (xpV E hP hS (by decide) (xc_2 _ _ _ _) rfl) rfl rfl hl.1 rfl (lv_room (Nat.le_of_ble_eq_true rfl)) d_WO_expectName_20 ⟨Nat.le_of_ble_eq_true rfl, Nat.le_of_ble_eq_true rfl⟩) hS hnh hlk (fun S9 e9 => by subst e9; exact (Option.some.inj h).symm) (fun v3 S4 w5 H locs hP hS => ?_)
    subst w5
    dsimp only [xT2] at h
    refine lv_aload_n hx hb d_WO_expectName_23 rfl (lv_at hl 0 rfl) ?_
    refine va_get (v := .long (xgl S4 2 6)) (C := R_WO) (T := F_WO) (N := 9) hx hb hts i_WO hown hK hP 2 (xw_at (by decide) (xc_2 _ _ _ _)) rfl 6 (by decide) (hts _ wd_39) (fun _ h9 => h9) rfl d_WO_expectName_24 ?_
    have h9 := Option.some.inj h
    subst h9
    exact xret (W.lret (v := xgl S4 2 6) hx hb hr (fun t ht hW => ⟨_, rfl, ⟨⟨xgl S4 2 6, S4, rfl, rfl, by show va_P D xcl _ t.heap; rw [ht]; exact hP⟩, hS.F ht⟩⟩) hS.2.2 d_WO_expectName_27)
  · have h := xif_t c_14 h
    refine lv_aload_n hx hb d_WO_expectName_8 rfl (lv_at hl 0 rfl) ?_
    refine va_ldcS hx hb hown (E.lit (List.mem_of_getElem? (i := 4) rfl : ("ConfigTexts$Words", 97, "partition memory process entry priority period deadline handler stopped semaphore event buffer board port in out errors channel sampling queuing input output frame", 3) ∈ xlits)) d_WO_expectName_9 ?_
    obtain ⟨q7, e6, h⟩ := xb h
    refine xc_i (va_runV (As := [.ref (adK 3)]) (rest := []) ⟨hx, hb, hml, hown, hts⟩ (c_WO_whichOf l D lay cA adK adV s0 S 3 q7 e6) (cwV 1 hts (xT_V wd_459 wd_460 wd_461 wd_2 wd_462) rfl rfl rfl (by decide +kernel) ⟨Nat.le_of_ble_eq_true rfl, Nat.le_of_ble_eq_true rfl⟩) (xpV E hP hS (by decide) (xc_2 _ _ _ _) rfl) rfl rfl hl.1 rfl (lv_room (Nat.le_of_ble_eq_true rfl)) d_WO_expectName_11 ⟨Nat.le_of_ble_eq_true rfl, Nat.le_of_ble_eq_true rfl⟩) hS (fun H locs hP hS => ?_)
    refine lv_iconst (v := (-1 : Int32)) hx hb d_WO_expectName_14 (by decide) ?_
    refine lv_icmp_eq (tgt := 23) hx hb d_WO_expectName_15 (by decide) (fun c_13 => ?_) (fun c_13 => ?_)
    · have h := xif_t c_13 h
      refine lv_aload_n hx hb d_WO_expectName_23 rfl (lv_at hl 0 rfl) ?_
      refine va_get (v := .long (xgl S 2 6)) (C := R_WO) (T := F_WO) (N := 9) hx hb hts i_WO hown hK hP 2 (xw_at (by decide) (xc_2 _ _ _ _)) rfl 6 (by decide) (hts _ wd_39) (fun _ h9 => h9) rfl d_WO_expectName_24 ?_
      have h9 := Option.some.inj h
      subst h9
      exact xret (W.lret (v := xgl S 2 6) hx hb hr (fun t ht hW => ⟨_, rfl, ⟨⟨xgl S 2 6, S, rfl, rfl, by show va_P D xcl _ t.heap; rw [ht]; exact hP⟩, hS.F ht⟩⟩) hS.2.2 d_WO_expectName_27)
    · have h := xif_f c_13 h
      refine lv_aload_n hx hb d_WO_expectName_18 rfl (lv_at hl 0 rfl) ?_
      refine lv_iconst (v := (1 : Int32)) hx hb d_WO_expectName_19 (by decide) ?_
      obtain ⟨q9, e8, h⟩ := xb h
      refine xk_v (xrunV (As := [.int (1 : Int32)]) (rest := []) ⟨hx, hb, hml, hown, hts⟩ (c_WO_fail l hq D lay cA adK adV s0 S (1 : Int32) q9 e8) (cwV 1 hts (xT_V wd_385 wd_386 wd_387 wd_2 wd_388) rfl rfl rfl (by decide +kernel) ⟨Nat.le_of_ble_eq_true rfl, Nat.le_of_ble_eq_true rfl⟩) (xpV E hP hS (by decide) (xc_2 _ _ _ _) rfl) rfl rfl hl.1 rfl (lv_room (Nat.le_of_ble_eq_true rfl)) d_WO_expectName_20 ⟨Nat.le_of_ble_eq_true rfl, Nat.le_of_ble_eq_true rfl⟩) hS hnh hlk (fun S9 e9 => by subst e9; exact (Option.some.inj h).symm) (fun v10 S11 w12 H locs hP hS => ?_)
      subst w12
      dsimp only [xT2] at h
      refine lv_aload_n hx hb d_WO_expectName_23 rfl (lv_at hl 0 rfl) ?_
      refine va_get (v := .long (xgl S11 2 6)) (C := R_WO) (T := F_WO) (N := 9) hx hb hts i_WO hown hK hP 2 (xw_at (by decide) (xc_2 _ _ _ _)) rfl 6 (by decide) (hts _ wd_39) (fun _ h9 => h9) rfl d_WO_expectName_24 ?_
      have h9 := Option.some.inj h
      subst h9
      exact xret (W.lret (v := xgl S11 2 6) hx hb hr (fun t ht hW => ⟨_, rfl, ⟨⟨xgl S11 2 6, S11, rfl, rfl, by show va_P D xcl _ t.heap; rw [ht]; exact hP⟩, hS.F ht⟩⟩) hS.2.2 d_WO_expectName_27)
theorem c_WO_expectName (l : Launch) (hq : l.stackTraces = false) (D : va_G) (lay : Nat → Nat) (cA : Nat → ClassId) (adK adV : Nat → Nat) (s0 : State) (S : XS)  (r : (Int64 × XS) ⊕ XS) (h : f_WO_expectName S  = some r) : MetX l y_WO_expectName (.code y_WO_expectName b_WO_expectName 1 ((Option.some Jvm.ClassFile.FieldType.long)) :: xT) rm_WO_expectName (xPc D lay cA adK adV s0 S [.ref (lay 2)]) (xrl D lay cA r) (xrt D lay cA r) 0 0 1 6 (xI lay) := by
  refine MetX.ofW (cc := b_WO_expectName) (maxL := 1) (ret := (Option.some Jvm.ClassFile.FieldType.long)) (by decide +kernel) rfl ?_
  intro p e s m args below meth c s₁ B hml hv
  obtain ⟨rfl, hP, E⟩ := hv
  have C := xB_of B hml
  have hl := lv_entry ([.ref (lay 2)]) (n := 1) (Nat.le_of_ble_eq_true rfl)
  rw [lg_entry_eq]
  generalize (lg_sl ([.ref (lay 2)]) ++ List.replicate (1 - (lg_sl ([.ref (lay 2)])).length) Slot.unset).toArray = ls at hl ⊢
  exact k_WO_expectName l hq C E S  r h s.heap [] ls hP va_S.rf hl
/-! ConfigTexts$Words.expectNumber(III)I -/
def rm_WO_expectNumber : Room := { frames := 8, cells := 1, slots := 6, locals := 141 }
theorem d_WO_expectNumber_0 : decode b_WO_expectNumber 0 = .ok (.aload_n 0, 1) := by decide +kernel
theorem d_WO_expectNumber_1 : decode b_WO_expectNumber 1 = .ok (.getfield 15, 3) := by decide +kernel
theorem d_WO_expectNumber_4 : decode b_WO_expectNumber 4 = .ok (.iconst 2, 1) := by decide +kernel
theorem d_WO_expectNumber_5 : decode b_WO_expectNumber 5 = .ok (.if_icmp .eq 8, 3) := by decide +kernel
theorem d_WO_expectNumber_8 : decode b_WO_expectNumber 8 = .ok (.aload_n 0, 1) := by decide +kernel
theorem d_WO_expectNumber_9 : decode b_WO_expectNumber 9 = .ok (.iconst 1, 1) := by decide +kernel
theorem d_WO_expectNumber_10 : decode b_WO_expectNumber 10 = .ok (.invokevirtual 50, 3) := by decide +kernel
theorem d_WO_expectNumber_13 : decode b_WO_expectNumber 13 = .ok (.aload_n 0, 1) := by decide +kernel
theorem d_WO_expectNumber_14 : decode b_WO_expectNumber 14 = .ok (.getfield 78, 3) := by decide +kernel
theorem d_WO_expectNumber_17 : decode b_WO_expectNumber 17 = .ok (.istore 4, 2) := by decide +kernel
theorem d_WO_expectNumber_19 : decode b_WO_expectNumber 19 = .ok (.iload 4, 2) := by decide +kernel
theorem d_WO_expectNumber_21 : decode b_WO_expectNumber 21 = .ok (.iload_n 1, 1) := by decide +kernel
theorem d_WO_expectNumber_22 : decode b_WO_expectNumber 22 = .ok (.if_icmp .lt 21, 3) := by decide +kernel
theorem d_WO_expectNumber_25 : decode b_WO_expectNumber 25 = .ok (.iload 4, 2) := by decide +kernel
theorem d_WO_expectNumber_27 : decode b_WO_expectNumber 27 = .ok (.iload_n 2, 1) := by decide +kernel
theorem d_WO_expectNumber_28 : decode b_WO_expectNumber 28 = .ok (.if_icmp .gt 15, 3) := by decide +kernel
theorem d_WO_expectNumber_31 : decode b_WO_expectNumber 31 = .ok (.iload_n 3, 1) := by decide +kernel
theorem d_WO_expectNumber_32 : decode b_WO_expectNumber 32 = .ok (.iconst 1, 1) := by decide +kernel
theorem d_WO_expectNumber_33 : decode b_WO_expectNumber 33 = .ok (.if_icmp .le 15, 3) := by decide +kernel
theorem d_WO_expectNumber_36 : decode b_WO_expectNumber 36 = .ok (.iload 4, 2) := by decide +kernel
theorem d_WO_expectNumber_38 : decode b_WO_expectNumber 38 = .ok (.iload_n 3, 1) := by decide +kernel
theorem d_WO_expectNumber_39 : decode b_WO_expectNumber 39 = .ok (.irem, 1) := by decide +kernel
theorem d_WO_expectNumber_40 : decode b_WO_expectNumber 40 = .ok (.ifCond .eq 8, 3) := by decide +kernel
theorem d_WO_expectNumber_43 : decode b_WO_expectNumber 43 = .ok (.aload_n 0, 1) := by decide +kernel
theorem d_WO_expectNumber_44 : decode b_WO_expectNumber 44 = .ok (.iconst 5, 1) := by decide +kernel
theorem d_WO_expectNumber_45 : decode b_WO_expectNumber 45 = .ok (.invokevirtual 50, 3) := by decide +kernel
theorem d_WO_expectNumber_48 : decode b_WO_expectNumber 48 = .ok (.aload_n 0, 1) := by decide +kernel
theorem d_WO_expectNumber_49 : decode b_WO_expectNumber 49 = .ok (.invokevirtual 37, 3) := by decide +kernel
theorem d_WO_expectNumber_52 : decode b_WO_expectNumber 52 = .ok (.iload 4, 2) := by decide +kernel
theorem d_WO_expectNumber_54 : decode b_WO_expectNumber 54 = .ok (.ireturn, 1) := by decide +kernel
def f_WO_expectNumber_43 (S : XS) (a4 : Int32) : Option ((Int32 × XS) ⊕ XS) :=
  (f_WO_fail S (5 : Int32)).bind (xT2 fun _ S25 => (f_WO_next S25).bind (xT2 fun _ S30 => some (.inl (a4, S30))))
set_option maxHeartbeats 4000000 in
set_option maxRecDepth 100000 in
theorem k_WO_expectNumber_43 (l : Launch) (hq : l.stackTraces = false) {p : Program} {e : Env} {s : State} {m : MethodId} {args : Array Value} {below : List Frame} {meth : Method} {c : Code} {D : va_G} {lay : Nat → Nat} {cA : Nat → ClassId} {adK adV : Nat → Nat} {s0 : State} (C : xB p s m args meth c R_WO b_WO_expectNumber ((Option.some Jvm.ClassFile.FieldType.int)) 5) (E : xE D lay cA adK adV s0 s s.heap) : ∀ (S : XS) (a4 : Int32) (r : (Int32 × XS) ⊕ XS) (_ : f_WO_expectNumber_43 S a4 = some r) (H : Heap) (locs : List Loc) (ls : Array Slot), va_P D xcl (xw lay cA S) H → va_S (xI lay) s.heap H locs → lv_has ls 5 [(0, .ref (lay 2)), (4, .int a4)] → W p l e rm_WO_expectNumber s m args below meth c H locs 0 0 (XF below (xri D lay cA r) (xrt D lay cA r) s 0 0 1 6 (xI lay)) (F0 m 43 ls []) := by
  obtain ⟨hx, hb, hr, hml, hown, hts, hlk, hnh⟩ := id C
  have hK := E.K
  intro S a4 r h H locs ls hP hS hl
  unfold f_WO_expectNumber_43 at h
  refine lv_aload_n hx hb d_WO_expectNumber_43 rfl (lv_at hl 0 rfl) ?_
  refine lv_iconst (v := (5 : Int32)) hx hb d_WO_expectNumber_44 (by decide) ?_
  obtain ⟨q23, e22, h⟩ := xb h
  refine xk_v (xrunV (As := [.int (5 : Int32)]) (rest := []) ⟨hx, hb, hml, hown, hts⟩ (c_WO_fail l hq D lay cA adK adV s0 S (5 : Int32) q23 e22) (cwV 1 hts (xT_V wd_385 wd_386 wd_387 wd_2 wd_388) rfl rfl rfl (by decide +kernel) ⟨Nat.le_of_ble_eq_true rfl, Nat.le_of_ble_eq_true rfl⟩) (xpV E hP hS (by decide) (xc_2 _ _ _ _) rfl) rfl rfl hl.1 rfl (lv_room (Nat.le_of_ble_eq_true rfl)) d_WO_expectNumber_45 ⟨Nat.le_of_ble_eq_true rfl, Nat.le_of_ble_eq_true rfl⟩) hS hnh hlk (fun S9 e9 => by subst e9; exact (Option.some.inj h).symm) (fun v24 S25 w26 H locs hP hS => ?_)
  subst w26
  dsimp only [xT2] at h
  refine lv_aload_n hx hb d_WO_expectNumber_48 rfl (lv_at hl 0 rfl) ?_
  obtain ⟨q28, e27, h⟩ := xb h
  refine xk_v (xrunV (As := []) (rest := []) ⟨hx, hb, hml, hown, hts⟩ (c_WO_next l hq D lay cA adK adV s0 S25 q28 e27) (cwV 0 hts (xT_V wd_284 wd_285 wd_286 wd_2 wd_287) rfl rfl rfl (by decide +kernel) ⟨Nat.le_of_ble_eq_true rfl, Nat.le_of_ble_eq_true rfl⟩) (xpV E hP hS (by decide) (xc_2 _ _ _ _) rfl) rfl rfl hl.1 rfl (lv_room (Nat.le_of_ble_eq_true rfl)) d_WO_expectNumber_49 ⟨Nat.le_of_ble_eq_true rfl, Nat.le_of_ble_eq_true rfl⟩) hS hnh hlk (fun S9 e9 => by subst e9; exact (Option.some.inj h).symm) (fun v29 S30 w31 H locs hP hS => ?_)
  subst w31
  dsimp only [xT2] at h
  refine lv_iload hx hb d_WO_expectNumber_52 (lv_at hl 1 rfl) ?_
  have h9 := Option.some.inj h
  subst h9
  exact xret (W.iret (v := a4) hx hb hr (fun t ht hW => ⟨_, rfl, ⟨⟨a4, S30, rfl, rfl, by show va_P D xcl _ t.heap; rw [ht]; exact hP⟩, hS.F ht⟩⟩) hS.2.2 d_WO_expectNumber_54)
def f_WO_expectNumber_13 (S : XS) (a1 : Int32) (a2 : Int32) (a3 : Int32) : Option ((Int32 × XS) ⊕ XS) :=
  if (xgi S 2 5) < a1 then (f_WO_expectNumber_43 S (xgi S 2 5)) else (if a2 < (xgi S 2 5) then (f_WO_expectNumber_43 S (xgi S 2 5)) else (if a3 ≤ (1 : Int32) then ((f_WO_next S).bind (xT2 fun _ S10 => some (.inl (xgi S 2 5, S10)))) else (if ¬ a3 = 0 then (if ((xgi S 2 5) - (xgi S 2 5) / a3 * a3) = 0 then ((f_WO_next S).bind (xT2 fun _ S16 => some (.inl (xgi S 2 5, S16)))) else (f_WO_expectNumber_43 S (xgi S 2 5))) else none)))
set_option maxHeartbeats 4000000 in
set_option maxRecDepth 100000 in
theorem k_WO_expectNumber_13 (l : Launch) (hq : l.stackTraces = false) {p : Program} {e : Env} {s : State} {m : MethodId} {args : Array Value} {below : List Frame} {meth : Method} {c : Code} {D : va_G} {lay : Nat → Nat} {cA : Nat → ClassId} {adK adV : Nat → Nat} {s0 : State} (C : xB p s m args meth c R_WO b_WO_expectNumber ((Option.some Jvm.ClassFile.FieldType.int)) 5) (E : xE D lay cA adK adV s0 s s.heap) : ∀ (S : XS) (a1 : Int32) (a2 : Int32) (a3 : Int32) (r : (Int32 × XS) ⊕ XS) (_ : f_WO_expectNumber_13 S a1 a2 a3 = some r) (H : Heap) (locs : List Loc) (ls : Array Slot), va_P D xcl (xw lay cA S) H → va_S (xI lay) s.heap H locs → lv_has ls 5 [(0, .ref (lay 2)), (1, .int a1), (2, .int a2), (3, .int a3)] → W p l e rm_WO_expectNumber s m args below meth c H locs 0 0 (XF below (xri D lay cA r) (xrt D lay cA r) s 0 0 1 6 (xI lay)) (F0 m 13 ls []) := by
  obtain ⟨hx, hb, hr, hml, hown, hts, hlk, hnh⟩ := id C
  have hK := E.K
  intro S a1 a2 a3 r h H locs ls hP hS hl
  unfold f_WO_expectNumber_13 at h
  refine lv_aload_n hx hb d_WO_expectNumber_13 rfl (lv_at hl 0 rfl) ?_
  refine va_get (v := .int (xgi S 2 5)) (C := R_WO) (T := F_WO) (N := 9) hx hb hts i_WO hown hK hP 2 (xw_at (by decide) (xc_2 _ _ _ _)) rfl 5 (by decide) (hts _ wd_38) (fun _ h9 => h9) rfl d_WO_expectNumber_14 ?_
  refine lv_istore (lv' := [(4, .int (xgi S 2 5)), (0, .ref (lay 2)), (1, .int a1), (2, .int a2), (3, .int a3)]) hx hb d_WO_expectNumber_17 hl (by decide) rfl (fun ls hl => ?_)
  refine lv_iload hx hb d_WO_expectNumber_19 (lv_at hl 0 rfl) ?_
  refine lv_iload_n hx hb d_WO_expectNumber_21 rfl (lv_at hl 2 rfl) ?_
  refine lv_icmp_lt (tgt := 43) hx hb d_WO_expectNumber_22 (by decide) (fun c_21 => ?_) (fun c_21 => ?_)
  · have h := xif_t c_21 h
    exact k_WO_expectNumber_43 l hq C E S (xgi S 2 5) _ h H locs ls hP hS (lv_sub hl [1, 0] rfl)
  · have h := xif_f c_21 h
    refine lv_iload hx hb d_WO_expectNumber_25 (lv_at hl 0 rfl) ?_
    refine lv_iload_n hx hb d_WO_expectNumber_27 rfl (lv_at hl 3 rfl) ?_
    refine lv_icmp_gt (tgt := 43) hx hb d_WO_expectNumber_28 (by decide) (fun c_20 => ?_) (fun c_20 => ?_)
    · have h := xif_t c_20 h
      exact k_WO_expectNumber_43 l hq C E S (xgi S 2 5) _ h H locs ls hP hS (lv_sub hl [1, 0] rfl)
    · have h := xif_f c_20 h
      refine lv_iload_n hx hb d_WO_expectNumber_31 rfl (lv_at hl 4 rfl) ?_
      refine lv_iconst (v := (1 : Int32)) hx hb d_WO_expectNumber_32 (by decide) ?_
      refine lv_icmp_le (tgt := 48) hx hb d_WO_expectNumber_33 (by decide) (fun c_19 => ?_) (fun c_19 => ?_)
      · have h := xif_t c_19 h
        refine lv_aload_n hx hb d_WO_expectNumber_48 rfl (lv_at hl 1 rfl) ?_
        obtain ⟨q8, e7, h⟩ := xb h
        refine xk_v (xrunV (As := []) (rest := []) ⟨hx, hb, hml, hown, hts⟩ (c_WO_next l hq D lay cA adK adV s0 S q8 e7) (cwV 0 hts (xT_V wd_284 wd_285 wd_286 wd_2 wd_287) rfl rfl rfl (by decide +kernel) ⟨Nat.le_of_ble_eq_true rfl, Nat.le_of_ble_eq_true rfl⟩) (xpV E hP hS (by decide) (xc_2 _ _ _ _) rfl) rfl rfl hl.1 rfl (lv_room (Nat.le_of_ble_eq_true rfl)) d_WO_expectNumber_49 ⟨Nat.le_of_ble_eq_true rfl, Nat.le_of_ble_eq_true rfl⟩) hS hnh hlk (fun S9 e9 => by subst e9; exact (Option.some.inj h).symm) (fun v9 S10 w11 H locs hP hS => ?_)
        subst w11
        dsimp only [xT2] at h
        refine lv_iload hx hb d_WO_expectNumber_52 (lv_at hl 0 rfl) ?_
        have h9 := Option.some.inj h
        subst h9
        exact xret (W.iret (v := xgi S 2 5) hx hb hr (fun t ht hW => ⟨_, rfl, ⟨⟨xgi S 2 5, S10, rfl, rfl, by show va_P D xcl _ t.heap; rw [ht]; exact hP⟩, hS.F ht⟩⟩) hS.2.2 d_WO_expectNumber_54)
      · have h := xif_f c_19 h
        refine lv_iload hx hb d_WO_expectNumber_36 (lv_at hl 0 rfl) ?_
        refine lv_iload_n hx hb d_WO_expectNumber_38 rfl (lv_at hl 4 rfl) ?_
        obtain ⟨hg12, h⟩ := xg h
        refine lv_irem hx hb d_WO_expectNumber_39 hg12 ?_
        refine lv_if_eq (tgt := 48) hx hb d_WO_expectNumber_40 (by decide) (fun c_18 => ?_) (fun c_18 => ?_)
        · have h := xif_t c_18 h
          refine lv_aload_n hx hb d_WO_expectNumber_48 rfl (lv_at hl 1 rfl) ?_
          obtain ⟨q14, e13, h⟩ := xb h
          refine xk_v (xrunV (As := []) (rest := []) ⟨hx, hb, hml, hown, hts⟩ (c_WO_next l hq D lay cA adK adV s0 S q14 e13) (cwV 0 hts (xT_V wd_284 wd_285 wd_286 wd_2 wd_287) rfl rfl rfl (by decide +kernel) ⟨Nat.le_of_ble_eq_true rfl, Nat.le_of_ble_eq_true rfl⟩) (xpV E hP hS (by decide) (xc_2 _ _ _ _) rfl) rfl rfl hl.1 rfl (lv_room (Nat.le_of_ble_eq_true rfl)) d_WO_expectNumber_49 ⟨Nat.le_of_ble_eq_true rfl, Nat.le_of_ble_eq_true rfl⟩) hS hnh hlk (fun S9 e9 => by subst e9; exact (Option.some.inj h).symm) (fun v15 S16 w17 H locs hP hS => ?_)
          subst w17
          dsimp only [xT2] at h
          refine lv_iload hx hb d_WO_expectNumber_52 (lv_at hl 0 rfl) ?_
          have h9 := Option.some.inj h
          subst h9
          exact xret (W.iret (v := xgi S 2 5) hx hb hr (fun t ht hW => ⟨_, rfl, ⟨⟨xgi S 2 5, S16, rfl, rfl, by show va_P D xcl _ t.heap; rw [ht]; exact hP⟩, hS.F ht⟩⟩) hS.2.2 d_WO_expectNumber_54)
        · have h := xif_f c_18 h
          exact k_WO_expectNumber_43 l hq C E S (xgi S 2 5) _ h H locs ls hP hS (lv_sub hl [1, 0] rfl)
def f_WO_expectNumber (S : XS) (a1 : Int32) (a2 : Int32) (a3 : Int32) : Option ((Int32 × XS) ⊕ XS) :=
  if (xgi S 2 4) = (2 : Int32) then (f_WO_expectNumber_13 S a1 a2 a3) else ((f_WO_fail S (1 : Int32)).bind (xT2 fun _ S4 => f_WO_expectNumber_13 S4 a1 a2 a3))
set_option maxHeartbeats 4000000 in
set_option maxRecDepth 100000 in
theorem k_WO_expectNumber (l : Launch) (hq : l.stackTraces = false) {p : Program} {e : Env} {s : State} {m : MethodId} {args : Array Value} {below : List Frame} {meth : Method} {c : Code} {D : va_G} {lay : Nat → Nat} {cA : Nat → ClassId} {adK adV : Nat → Nat} {s0 : State} (C : xB p s m args meth c R_WO b_WO_expectNumber ((Option.some Jvm.ClassFile.FieldType.int)) 5) (E : xE D lay cA adK adV s0 s s.heap) : ∀ (S : XS) (a1 : Int32) (a2 : Int32) (a3 : Int32) (r : (Int32 × XS) ⊕ XS) (_ : f_WO_expectNumber S a1 a2 a3 = some r) (H : Heap) (locs : List Loc) (ls : Array Slot), va_P D xcl (xw lay cA S) H → va_S (xI lay) s.heap H locs → lv_has ls 5 [(0, .ref (lay 2)), (1, .int a1), (2, .int a2), (3, .int a3)] → W p l e rm_WO_expectNumber s m args below meth c H locs 0 0 (XF below (xri D lay cA r) (xrt D lay cA r) s 0 0 1 6 (xI lay)) (F0 m 0 ls []) := by
  obtain ⟨hx, hb, hr, hml, hown, hts, hlk, hnh⟩ := id C
  have hK := E.K
  intro S a1 a2 a3 r h H locs ls hP hS hl
  unfold f_WO_expectNumber at h
  refine lv_aload_n hx hb d_WO_expectNumber_0 rfl (lv_at hl 0 rfl) ?_
  refine va_get (v := .int (xgi S 2 4)) (C := R_WO) (T := F_WO) (N := 9) hx hb hts i_WO hown hK hP 2 (xw_at (by decide) (xc_2 _ _ _ _)) rfl 4 (by decide) (hts _ wd_37) (fun _ h9 => h9) rfl d_WO_expectNumber_1 ?_
  refine lv_iconst (v := (2 : Int32)) hx hb d_WO_expectNumber_4 (by decide) ?_
  refine lv_icmp_eq (tgt := 13) hx hb d_WO_expectNumber_5 (by decide) (fun c_6 => ?_) (fun c_6 => ?_)
  · have h := xif_t c_6 h
    exact k_WO_expectNumber_13 l hq C E S a1 a2 a3 _ h H locs ls hP hS hl
  · have h := xif_f c_6 h
    refine lv_aload_n hx hb d_WO_expectNumber_8 rfl (lv_at hl 0 rfl) ?_
    refine lv_iconst (v := (1 : Int32)) hx hb d_WO_expectNumber_9 (by decide) ?_
    obtain ⟨q2, e1, h⟩ := xb h
    refine xk_v (xrunV (As := [.int (1 : Int32)]) (rest := []) ⟨hx, hb, hml, hown, hts⟩ (c_WO_fail l hq D lay cA adK adV s0 S (1 : Int32) q2 e1) (cwV 1 hts (xT_V wd_385 wd_386 wd_387 wd_2 wd_388) rfl rfl rfl (by decide +kernel) ⟨Nat.le_of_ble_eq_true rfl, Nat.le_of_ble_eq_true rfl⟩) (xpV E hP hS (by decide) (xc_2 _ _ _ _) rfl) rfl rfl hl.1 rfl (lv_room (Nat.le_of_ble_eq_true rfl)) d_WO_expectNumber_10 ⟨Nat.le_of_ble_eq_true rfl, Nat.le_of_ble_eq_true rfl⟩) hS hnh hlk (fun S9 e9 => by subst e9; exact (Option.some.inj h).symm) (fun v3 S4 w5 H locs hP hS => ?_)
    subst w5
    dsimp only [xT2] at h
    exact k_WO_expectNumber_13 l hq C E S4 a1 a2 a3 _ h H locs ls hP hS hl
theorem c_WO_expectNumber (l : Launch) (hq : l.stackTraces = false) (D : va_G) (lay : Nat → Nat) (cA : Nat → ClassId) (adK adV : Nat → Nat) (s0 : State) (S : XS) (a1 : Int32) (a2 : Int32) (a3 : Int32) (r : (Int32 × XS) ⊕ XS) (h : f_WO_expectNumber S a1 a2 a3 = some r) : MetX l y_WO_expectNumber (.code y_WO_expectNumber b_WO_expectNumber 5 ((Option.some Jvm.ClassFile.FieldType.int)) :: xT) rm_WO_expectNumber (xPc D lay cA adK adV s0 S [.ref (lay 2), .int a1, .int a2, .int a3]) (xri D lay cA r) (xrt D lay cA r) 0 0 1 6 (xI lay) := by
  refine MetX.ofW (cc := b_WO_expectNumber) (maxL := 5) (ret := (Option.some Jvm.ClassFile.FieldType.int)) (by decide +kernel) rfl ?_
  intro p e s m args below meth c s₁ B hml hv
  obtain ⟨rfl, hP, E⟩ := hv
  have C := xB_of B hml
  have hl := lv_entry ([.ref (lay 2), .int a1, .int a2, .int a3]) (n := 5) (Nat.le_of_ble_eq_true rfl)
  rw [lg_entry_eq]
  generalize (lg_sl ([.ref (lay 2), .int a1, .int a2, .int a3]) ++ List.replicate (5 - (lg_sl ([.ref (lay 2), .int a1, .int a2, .int a3])).length) Slot.unset).toArray = ls at hl ⊢
  exact k_WO_expectNumber l hq C E S a1 a2 a3 r h s.heap [] ls hP va_S.rf hl
