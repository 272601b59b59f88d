/-! ConfigTextsModel.thrown()I -/
def rm_MO_thrown : Room := { frames := 0, cells := 0, slots := 0, locals := 0 }
theorem d_MO_thrown_0 : decode b_MO_thrown 0 = .ok (.aload_n 0, 1) := by decide +kernel
theorem d_MO_thrown_1 : decode b_MO_thrown 1 = .ok (.getfield 158, 3) := by decide +kernel
theorem d_MO_thrown_4 : decode b_MO_thrown 4 = .ok (.ireturn, 1) := by decide +kernel
def f_MO_thrown (S : XS)  : Option (Int32) :=
  some (xgi S 0 0)
set_option maxHeartbeats 4000000 in
set_option maxRecDepth 100000 in
theorem k_MO_thrown (l : Launch) {p : Program} {e : Env} {s : State} {m : MethodId} {args : Array Value} {below : List Frame} {meth : Method} {c : Code} {D : va_G} {lay : Nat → Nat} {cA : Nat → ClassId} (C : xB p s m args meth c R_MO b_MO_thrown ((Option.some Jvm.ClassFile.FieldType.int)) 1) (E : mE D lay cA s s.heap) : ∀ (S : XS)  (r : Int32) (_ : f_MO_thrown S = some r) (H : Heap) (locs : List Loc) (ls : Array Slot), va_P D xcl (mw lay cA S) H → va_S (mI lay) s.heap H locs → lv_has ls 1 [(0, .ref (lay 0))] → W p l e rm_MO_thrown s m args below meth c H locs 0 0 (MQ below (mqi D lay cA r S) args s 0 0 (mI lay)) (F0 m 0 ls []) := by
  obtain ⟨hx, hb, hr, hml, hown, hts, hlk, hnh⟩ := id C
  have hK := E.K
  intro S r h H locs ls hP hS hl
  unfold f_MO_thrown at h
  refine lv_aload_n hx hb d_MO_thrown_0 rfl (lv_at hl 0 rfl) ?_
  refine va_get (v := .int (xgi S 0 0)) (C := R_MO) (T := F_MO) (N := 41) hx hb hts i_MO hown hK hP 0 (mw_at (by decide) (mc_0 _ _ _ _)) rfl 0 (by decide) (hts _ wd_700) (fun _ h9 => h9) rfl d_MO_thrown_1 ?_
  have h9 := Option.some.inj h
  subst h9
  exact W.iret (v := xgi S 0 0) hx hb hr (fun t ht hW => ⟨⟨xgi S 0 0, (), rfl, rfl, by show va_P D xcl _ t.heap; rw [ht]; exact hP⟩, hS.F ht⟩) hS.2.2 d_MO_thrown_4
theorem c_MO_thrown (l : Launch) (D : va_G) (lay : Nat → Nat) (cA : Nat → ClassId) (S : XS)  (r : Int32) (h : f_MO_thrown S  = some r) : Met l y_MO_thrown (.code y_MO_thrown b_MO_thrown 1 ((Option.some Jvm.ClassFile.FieldType.int)) :: xT) rm_MO_thrown (mPc D lay cA S [.ref (lay 0)]) (mqi D lay cA r S) 0 0 (mI lay) := by
  refine Met.ofW (cc := b_MO_thrown) (maxL := 1) (ret := (Option.some Jvm.ClassFile.FieldType.int)) (by decide +kernel) rfl ?_
  intro p e s m args below meth c s₁ B hml hv
  obtain ⟨rfl, hP, E⟩ := hv
  have C := xB_of B hml
  have hl := lv_entry ([.ref (lay 0)]) (n := 1) (Nat.le_of_ble_eq_true rfl)
  rw [lg_entry_eq]
  generalize (lg_sl ([.ref (lay 0)]) ++ List.replicate (1 - (lg_sl ([.ref (lay 0)])).length) Slot.unset).toArray = ls at hl ⊢
  exact k_MO_thrown l C E S  r h s.heap [] ls hP va_S.rf hl
/-! ConfigTextsModel.put(JI)Z -/
def rm_MO_put : Room := { frames := 0, cells := 0, slots := 0, locals := 0 }
theorem d_MO_put_0 : decode b_MO_put 0 = .ok (.aload_n 0, 1) := by decide +kernel
theorem d_MO_put_1 : decode b_MO_put 1 = .ok (.iconst 0, 1) := by decide +kernel
theorem d_MO_put_2 : decode b_MO_put 2 = .ok (.putfield 158, 3) := by decide +kernel
theorem d_MO_put_5 : decode b_MO_put 5 = .ok (.iload_n 3, 1) := by decide +kernel
theorem d_MO_put_6 : decode b_MO_put 6 = .ok (.ifCond .lt 21, 3) := by decide +kernel
theorem d_MO_put_9 : decode b_MO_put 9 = .ok (.iload_n 3, 1) := by decide +kernel
theorem d_MO_put_10 : decode b_MO_put 10 = .ok (.bipush 8, 2) := by decide +kernel
theorem d_MO_put_12 : decode b_MO_put 12 = .ok (.if_icmp .gt 15, 3) := by decide +kernel
theorem d_MO_put_15 : decode b_MO_put 15 = .ok (.aload_n 0, 1) := by decide +kernel
theorem d_MO_put_16 : decode b_MO_put 16 = .ok (.getfield 161, 3) := by decide +kernel
theorem d_MO_put_19 : decode b_MO_put 19 = .ok (.iload_n 3, 1) := by decide +kernel
theorem d_MO_put_20 : decode b_MO_put 20 = .ok (.iadd, 1) := by decide +kernel
theorem d_MO_put_21 : decode b_MO_put 21 = .ok (.sipush 2000, 3) := by decide +kernel
theorem d_MO_put_24 : decode b_MO_put 24 = .ok (.if_icmp .le 5, 3) := by decide +kernel
theorem d_MO_put_27 : decode b_MO_put 27 = .ok (.iconst 0, 1) := by decide +kernel
theorem d_MO_put_28 : decode b_MO_put 28 = .ok (.ireturn, 1) := by decide +kernel
theorem d_MO_put_29 : decode b_MO_put 29 = .ok (.iload_n 3, 1) := by decide +kernel
theorem d_MO_put_30 : decode b_MO_put 30 = .ok (.iconst 1, 1) := by decide +kernel
theorem d_MO_put_31 : decode b_MO_put 31 = .ok (.isub, 1) := by decide +kernel
theorem d_MO_put_32 : decode b_MO_put 32 = .ok (.istore 4, 2) := by decide +kernel
theorem d_MO_put_34 : decode b_MO_put 34 = .ok (.iload 4, 2) := by decide +kernel
theorem d_MO_put_36 : decode b_MO_put 36 = .ok (.ifCond .lt 37, 3) := by decide +kernel
theorem d_MO_put_39 : decode b_MO_put 39 = .ok (.aload_n 0, 1) := by decide +kernel
theorem d_MO_put_40 : decode b_MO_put 40 = .ok (.getfield 85, 3) := by decide +kernel
theorem d_MO_put_43 : decode b_MO_put 43 = .ok (.aload_n 0, 1) := by decide +kernel
theorem d_MO_put_44 : decode b_MO_put 44 = .ok (.getfield 161, 3) := by decide +kernel
theorem d_MO_put_47 : decode b_MO_put 47 = .ok (.lload_n 1, 1) := by decide +kernel
theorem d_MO_put_48 : decode b_MO_put 48 = .ok (.bipush 8, 2) := by decide +kernel
theorem d_MO_put_50 : decode b_MO_put 50 = .ok (.iload 4, 2) := by decide +kernel
theorem d_MO_put_52 : decode b_MO_put 52 = .ok (.imul, 1) := by decide +kernel
theorem d_MO_put_53 : decode b_MO_put 53 = .ok (.lshr, 1) := by decide +kernel
theorem d_MO_put_54 : decode b_MO_put 54 = .ok (.l2i, 1) := by decide +kernel
theorem d_MO_put_55 : decode b_MO_put 55 = .ok (.i2b, 1) := by decide +kernel
theorem d_MO_put_56 : decode b_MO_put 56 = .ok (.bastore, 1) := by decide +kernel
theorem d_MO_put_57 : decode b_MO_put 57 = .ok (.aload_n 0, 1) := by decide +kernel
theorem d_MO_put_58 : decode b_MO_put 58 = .ok (.dup, 1) := by decide +kernel
theorem d_MO_put_59 : decode b_MO_put 59 = .ok (.getfield 161, 3) := by decide +kernel
theorem d_MO_put_62 : decode b_MO_put 62 = .ok (.iconst 1, 1) := by decide +kernel
theorem d_MO_put_63 : decode b_MO_put 63 = .ok (.iadd, 1) := by decide +kernel
theorem d_MO_put_64 : decode b_MO_put 64 = .ok (.putfield 161, 3) := by decide +kernel
theorem d_MO_put_67 : decode b_MO_put 67 = .ok (.iinc 4 (-1), 3) := by decide +kernel
theorem d_MO_put_70 : decode b_MO_put 70 = .ok (.goto (-36), 3) := by decide +kernel
theorem d_MO_put_73 : decode b_MO_put 73 = .ok (.iconst 1, 1) := by decide +kernel
theorem d_MO_put_74 : decode b_MO_put 74 = .ok (.ireturn, 1) := by decide +kernel
def f_MO_put_34 : Nat → XS → Int64 → Int32 → Option (Int32 × XS)
  | 0, _, _, _ => none
  | n + 1, S, a1, a4 =>
    if a4 < 0 then (some ((1 : Int32), S)) else (if ¬ ((xgi S 0 5) < 0 ∨ 2000 ≤ (xgi S 0 5).toNatClampNeg) then (f_MO_put_34 n (xpi (xpi S 4 (xgi S 0 5).toNatClampNeg (vp_nar .byte (((a1 >>> (((8 : Int32) * a4).toInt64 &&& 63)).toInt32).toInt8.toInt32))) 0 5 ((xgi (xpi S 4 (xgi S 0 5).toNatClampNeg (vp_nar .byte (((a1 >>> (((8 : Int32) * a4).toInt64 &&& 63)).toInt32).toInt8.toInt32))) 0 5) + (1 : Int32))) a1 (a4 + (-1 : Int32))) else none)
set_option maxHeartbeats 4000000 in
set_option maxRecDepth 100000 in
theorem k_MO_put_34 (l : Launch) {p : Program} {e : Env} {s : State} {m : MethodId} {args : Array Value} {below : List Frame} {meth : Method} {c : Code} {D : va_G} {lay : Nat → Nat} {cA : Nat → ClassId} (C : xB p s m args meth c R_MO b_MO_put ((Option.some Jvm.ClassFile.FieldType.boolean)) 5) (E : mE D lay cA s s.heap) : ∀ (n : Nat) (S : XS) (a1 : Int64) (a4 : Int32) (r : Int32 × XS) (_ : f_MO_put_34 n S a1 a4 = some r) (H : Heap) (locs : List Loc) (ls : Array Slot), va_P D xcl (mw lay cA S) H → va_S (mI lay) s.heap H locs → lv_has ls 5 [(0, .ref (lay 0)), (1, .long a1), (4, .int a4)] → W p l e rm_MO_put s m args below meth c H locs 0 0 (MQ below (mqi D lay cA r.1 r.2) args s 0 0 (mI lay)) (F0 m 34 ls []) := by
  obtain ⟨hx, hb, hr, hml, hown, hts, hlk, hnh⟩ := id C
  have hK := E.K
  intro n
  induction n with
  | zero => intro S a1 a4 r h; rw [f_MO_put_34] at h; cases h
  | succ n ih =>
    intro S a1 a4 r h H locs ls hP hS hl
    rw [f_MO_put_34] at h
    refine lv_iload hx hb d_MO_put_34 (lv_at hl 2 rfl) ?_
    refine lv_if_lt (tgt := 73) hx hb d_MO_put_36 (by decide) (fun c_5 => ?_) (fun c_5 => ?_)
    · have h := xif_t c_5 h
      refine lv_iconst (v := (1 : Int32)) hx hb d_MO_put_73 (by decide) ?_
      have h9 := Option.some.inj h
      subst h9
      exact W.zret (v := (1 : Int32)) hx hb hr (by decide) (fun t ht hW => ⟨⟨(1 : Int32), (), rfl, rfl, by show va_P D xcl _ t.heap; rw [ht]; exact hP⟩, hS.F ht⟩) hS.2.2 d_MO_put_74
    · have h := xif_f c_5 h
      refine lv_aload_n hx hb d_MO_put_39 rfl (lv_at hl 0 rfl) ?_
      refine va_get (v := .ref (lay 4)) (C := R_MO) (T := F_MO) (N := 41) hx hb hts i_MO hown hK hP 0 (mw_at (by decide) (mc_0 _ _ _ _)) rfl 4 (by decide) (hts _ wd_704) (fun _ h9 => h9) rfl d_MO_put_40 ?_
      refine lv_aload_n hx hb d_MO_put_43 rfl (lv_at hl 0 rfl) ?_
      refine va_get (v := .int (xgi S 0 5)) (C := R_MO) (T := F_MO) (N := 41) hx hb hts i_MO hown hK hP 0 (mw_at (by decide) (mc_0 _ _ _ _)) rfl 5 (by decide) (hts _ wd_705) (fun _ h9 => h9) rfl d_MO_put_44 ?_
      refine lv_lload_n hx hb d_MO_put_47 rfl (lv_at hl 1 rfl) ?_
      refine lv_bipush (v := (8 : Int32)) hx hb d_MO_put_48 (by decide) ?_
      refine lv_iload hx hb d_MO_put_50 (lv_at hl 2 rfl) ?_
      refine lv_imul hx hb d_MO_put_52 ?_
      refine lv_lshr (v := a1 >>> (((8 : Int32) * a4).toInt64 &&& 63)) hx hb d_MO_put_53 rfl ?_
      refine lv_l2i (v := (a1 >>> (((8 : Int32) * a4).toInt64 &&& 63)).toInt32) hx hb d_MO_put_54 rfl ?_
      refine lv_i2b (v := ((a1 >>> (((8 : Int32) * a4).toInt64 &&& 63)).toInt32).toInt8.toInt32) hx hb d_MO_put_55 rfl ?_
      obtain ⟨hg4, h⟩ := xg h
      refine mas_4 hx hb E hP hS hg4 d_MO_put_56 (fun H locs hP hS => ?_)
      refine lv_aload_n hx hb d_MO_put_57 rfl (lv_at hl 0 rfl) ?_
      refine lv_dup hx hb d_MO_put_58 rfl ?_
      refine va_get (v := .int (xgi (xpi S 4 (xgi S 0 5).toNatClampNeg (vp_nar .byte (((a1 >>> (((8 : Int32) * a4).toInt64 &&& 63)).toInt32).toInt8.toInt32))) 0 5)) (C := R_MO) (T := F_MO) (N := 41) hx hb hts i_MO hown hK hP 0 (mw_at (by decide) (mc_0 _ _ _ _)) rfl 5 (by decide) (hts _ wd_705) (fun _ h9 => h9) rfl d_MO_put_59 ?_
      refine lv_iconst (v := (1 : Int32)) hx hb d_MO_put_62 (by decide) ?_
      refine lv_iadd hx hb d_MO_put_63 ?_
      refine mput_5 hx hb hts hown E hP hS (hts _ wd_705) d_MO_put_64 (fun H locs hP hS => ?_)
      refine lv_iinc (v := a4 + (-1 : Int32)) (lv' := [(4, .int (a4 + (-1 : Int32))), (0, .ref (lay 0)), (1, .long a1)]) hx hb d_MO_put_67 hl (k := 2) rfl (by rfl) (by decide) rfl (fun ls hl => ?_)
      refine lv_goto (tgt := 34) hx hb d_MO_put_70 (by decide) ?_
      exact ih (xpi (xpi S 4 (xgi S 0 5).toNatClampNeg (vp_nar .byte (((a1 >>> (((8 : Int32) * a4).toInt64 &&& 63)).toInt32).toInt8.toInt32))) 0 5 ((xgi (xpi S 4 (xgi S 0 5).toNatClampNeg (vp_nar .byte (((a1 >>> (((8 : Int32) * a4).toInt64 &&& 63)).toInt32).toInt8.toInt32))) 0 5) + (1 : Int32))) a1 (a4 + (-1 : Int32)) _ h H locs ls hP hS (lv_sub hl [1, 2, 0] rfl)
def f_MO_put (S : XS) (a1 : Int64) (a3 : Int32) : Option (Int32 × XS) :=
  if a3 < 0 then (some ((0 : Int32), xpi S 0 0 (0 : Int32))) else (if (8 : Int32) < a3 then (some ((0 : Int32), xpi S 0 0 (0 : Int32))) else (if ((xgi (xpi S 0 0 (0 : Int32)) 0 5) + a3) ≤ (2000 : Int32) then (f_MO_put_34 4096 (xpi S 0 0 (0 : Int32)) a1 (a3 - (1 : Int32))) else (some ((0 : Int32), xpi S 0 0 (0 : Int32)))))
set_option maxHeartbeats 4000000 in
set_option maxRecDepth 100000 in
theorem k_MO_put (l : Launch) {p : Program} {e : Env} {s : State} {m : MethodId} {args : Array Value} {below : List Frame} {meth : Method} {c : Code} {D : va_G} {lay : Nat → Nat} {cA : Nat → ClassId} (C : xB p s m args meth c R_MO b_MO_put ((Option.some Jvm.ClassFile.FieldType.boolean)) 5) (E : mE D lay cA s s.heap) : ∀ (S : XS) (a1 : Int64) (a3 : Int32) (r : Int32 × XS) (_ : f_MO_put S a1 a3 = some r) (H : Heap) (locs : List Loc) (ls : Array Slot), va_P D xcl (mw lay cA S) H → va_S (mI lay) s.heap H locs → lv_has ls 5 [(0, .ref (lay 0)), (1, .long a1), (3, .int a3)] → W p l e rm_MO_put s m args below meth c H locs 0 0 (MQ below (mqi D lay cA r.1 r.2) args s 0 0 (mI lay)) (F0 m 0 ls []) := by
  obtain ⟨hx, hb, hr, hml, hown, hts, hlk, hnh⟩ := id C
  have hK := E.K
  intro S a1 a3 r h H locs ls hP hS hl
  unfold f_MO_put at h
  refine lv_aload_n hx hb d_MO_put_0 rfl (lv_at hl 0 rfl) ?_
  refine lv_iconst (v := (0 : Int32)) hx hb d_MO_put_1 (by decide) ?_
  refine mput_0 hx hb hts hown E hP hS (hts _ wd_700) d_MO_put_2 (fun H locs hP hS => ?_)
  refine lv_iload_n hx hb d_MO_put_5 rfl (lv_at hl 2 rfl) ?_
  refine lv_if_lt (tgt := 27) hx hb d_MO_put_6 (by decide) (fun c_3 => ?_) (fun c_3 => ?_)
  · have h := xif_t c_3 h
    refine lv_iconst (v := (0 : Int32)) hx hb d_MO_put_27 (by decide) ?_
    have h9 := Option.some.inj h
    subst h9
    exact W.zret (v := (0 : Int32)) hx hb hr (by decide) (fun t ht hW => ⟨⟨(0 : Int32), (), rfl, rfl, by show va_P D xcl _ t.heap; rw [ht]; exact hP⟩, hS.F ht⟩) hS.2.2 d_MO_put_28
  · have h := xif_f c_3 h
    refine lv_iload_n hx hb d_MO_put_9 rfl (lv_at hl 2 rfl) ?_
    refine lv_bipush (v := (8 : Int32)) hx hb d_MO_put_10 (by decide) ?_
    refine lv_icmp_gt (tgt := 27) hx hb d_MO_put_12 (by decide) (fun c_2 => ?_) (fun c_2 => ?_)
    · have h := xif_t c_2 h
      refine lv_iconst (v := (0 : Int32)) hx hb d_MO_put_27 (by decide) ?_
      have h9 := Option.some.inj h
      subst h9
      exact W.zret (v := (0 : Int32)) hx hb hr (by decide) (fun t ht hW => ⟨⟨(0 : Int32), (), rfl, rfl, by show va_P D xcl _ t.heap; rw [ht]; exact hP⟩, hS.F ht⟩) hS.2.2 d_MO_put_28
    · have h := xif_f c_2 h
      refine lv_aload_n hx hb d_MO_put_15 rfl (lv_at hl 0 rfl) ?_
      refine va_get (v := .int (xgi (xpi S 0 0 (0 : Int32)) 0 5)) (C := R_MO) (T := F_MO) (N := 41) hx hb hts i_MO hown hK hP 0 (mw_at (by decide) (mc_0 _ _ _ _)) rfl 5 (by decide) (hts _ wd_705) (fun _ h9 => h9) rfl d_MO_put_16 ?_
      refine lv_iload_n hx hb d_MO_put_19 rfl (lv_at hl 2 rfl) ?_
      refine lv_iadd hx hb d_MO_put_20 ?_
      refine lv_sipush (v := (2000 : Int32)) hx hb d_MO_put_21 (by decide) ?_
      refine lv_icmp_le (tgt := 29) hx hb d_MO_put_24 (by decide) (fun c_1 => ?_) (fun c_1 => ?_)
      · have h := xif_t c_1 h
        refine lv_iload_n hx hb d_MO_put_29 rfl (lv_at hl 2 rfl) ?_
        refine lv_iconst (v := (1 : Int32)) hx hb d_MO_put_30 (by decide) ?_
        refine lv_isub hx hb d_MO_put_31 ?_
        refine lv_istore (lv' := [(4, .int (a3 - (1 : Int32))), (0, .ref (lay 0)), (1, .long a1), (3, .int a3)]) hx hb d_MO_put_32 hl (by decide) rfl (fun ls hl => ?_)
        exact k_MO_put_34 l C E 4096 (xpi S 0 0 (0 : Int32)) a1 (a3 - (1 : Int32)) _ h H locs ls hP hS (lv_sub hl [1, 2, 0] rfl)
      · have h := xif_f c_1 h
        refine lv_iconst (v := (0 : Int32)) hx hb d_MO_put_27 (by decide) ?_
        have h9 := Option.some.inj h
        subst h9
        exact W.zret (v := (0 : Int32)) hx hb hr (by decide) (fun t ht hW => ⟨⟨(0 : Int32), (), rfl, rfl, by show va_P D xcl _ t.heap; rw [ht]; exact hP⟩, hS.F ht⟩) hS.2.2 d_MO_put_28
theorem c_MO_put (l : Launch) (D : va_G) (lay : Nat → Nat) (cA : Nat → ClassId) (S : XS) (a1 : Int64) (a3 : Int32) (r : Int32 × XS) (h : f_MO_put S a1 a3 = some r) : Met l y_MO_put (.code y_MO_put b_MO_put 5 ((Option.some Jvm.ClassFile.FieldType.boolean)) :: xT) rm_MO_put (mPc D lay cA S [.ref (lay 0), .long a1, .int a3]) (mqi D lay cA r.1 r.2) 0 0 (mI lay) := by
  refine Met.ofW (cc := b_MO_put) (maxL := 5) (ret := (Option.some Jvm.ClassFile.FieldType.boolean)) (by decide +kernel) rfl ?_
  intro p e s m args below meth c s₁ B hml hv
  obtain ⟨rfl, hP, E⟩ := hv
  have C := xB_of B hml
  have hl := lv_entry ([.ref (lay 0), .long a1, .int a3]) (n := 5) (Nat.le_of_ble_eq_true rfl)
  rw [lg_entry_eq]
  generalize (lg_sl ([.ref (lay 0), .long a1, .int a3]) ++ List.replicate (5 - (lg_sl ([.ref (lay 0), .long a1, .int a3])).length) Slot.unset).toArray = ls at hl ⊢
  exact k_MO_put l C E S a1 a3 r h s.heap [] ls hP va_S.rf hl
/-! ConfigTextsModel.fail(II)V -/
def rm_MO_fail : Room := { frames := 0, cells := 0, slots := 0, locals := 0 }
theorem d_MO_fail_0 : decode b_MO_fail 0 = .ok (.aload_n 0, 1) := by decide +kernel
theorem d_MO_fail_1 : decode b_MO_fail 1 = .ok (.getfield 164, 3) := by decide +kernel
theorem d_MO_fail_4 : decode b_MO_fail 4 = .ok (.ifCond .ne 13, 3) := by decide +kernel
theorem d_MO_fail_7 : decode b_MO_fail 7 = .ok (.aload_n 0, 1) := by decide +kernel
theorem d_MO_fail_8 : decode b_MO_fail 8 = .ok (.iload_n 1, 1) := by decide +kernel
theorem d_MO_fail_9 : decode b_MO_fail 9 = .ok (.putfield 164, 3) := by decide +kernel
theorem d_MO_fail_12 : decode b_MO_fail 12 = .ok (.aload_n 0, 1) := by decide +kernel
theorem d_MO_fail_13 : decode b_MO_fail 13 = .ok (.iload_n 2, 1) := by decide +kernel
theorem d_MO_fail_14 : decode b_MO_fail 14 = .ok (.putfield 89, 3) := by decide +kernel
theorem d_MO_fail_17 : decode b_MO_fail 17 = .ok (.return_, 1) := by decide +kernel
def f_MO_fail (S : XS) (a1 : Int32) (a2 : Int32) : Option (XS) :=
  if (xgi S 0 11) = 0 then (some (xpi (xpi S 0 11 a1) 0 12 a2)) else (some S)
set_option maxHeartbeats 4000000 in
set_option maxRecDepth 100000 in
theorem k_MO_fail (l : Launch) {p : Program} {e : Env} {s : State} {m : MethodId} {args : Array Value} {below : List Frame} {meth : Method} {c : Code} {D : va_G} {lay : Nat → Nat} {cA : Nat → ClassId} (C : xB p s m args meth c R_MO b_MO_fail ((Option.none : Option Jvm.ClassFile.FieldType)) 3) (E : mE D lay cA s s.heap) : ∀ (S : XS) (a1 : Int32) (a2 : Int32) (r : XS) (_ : f_MO_fail S a1 a2 = some r) (H : Heap) (locs : List Loc) (ls : Array Slot), va_P D xcl (mw lay cA S) H → va_S (mI lay) s.heap H locs → lv_has ls 3 [(0, .ref (lay 0)), (1, .int a1), (2, .int a2)] → W p l e rm_MO_fail s m args below meth c H locs 0 0 (MQ below (mqv D lay cA r) args s 0 0 (mI lay)) (F0 m 0 ls []) := by
  obtain ⟨hx, hb, hr, hml, hown, hts, hlk, hnh⟩ := id C
  have hK := E.K
  intro S a1 a2 r h H locs ls hP hS hl
  unfold f_MO_fail at h
  refine lv_aload_n hx hb d_MO_fail_0 rfl (lv_at hl 0 rfl) ?_
  refine va_get (v := .int (xgi S 0 11)) (C := R_MO) (T := F_MO) (N := 41) hx hb hts i_MO hown hK hP 0 (mw_at (by decide) (mc_0 _ _ _ _)) rfl 11 (by decide) (hts _ wd_711) (fun _ h9 => h9) rfl d_MO_fail_1 ?_
  refine lv_if_ne (tgt := 17) hx hb d_MO_fail_4 (by decide) (fun c_1 => ?_) (fun c_1 => ?_)
  · have h := xif_f c_1 h
    have h9 := Option.some.inj h
    subst h9
    exact W.vret hx hb hr (fun t ht hW => ⟨⟨(), rfl, trivial, by show va_P D xcl _ t.heap; rw [ht]; exact hP⟩, hS.F ht⟩) hS.2.2 d_MO_fail_17
  · have h := xif_t c_1 h
    refine lv_aload_n hx hb d_MO_fail_7 rfl (lv_at hl 0 rfl) ?_
    refine lv_iload_n hx hb d_MO_fail_8 rfl (lv_at hl 1 rfl) ?_
    refine mput_11 hx hb hts hown E hP hS (hts _ wd_711) d_MO_fail_9 (fun H locs hP hS => ?_)
    refine lv_aload_n hx hb d_MO_fail_12 rfl (lv_at hl 0 rfl) ?_
    refine lv_iload_n hx hb d_MO_fail_13 rfl (lv_at hl 2 rfl) ?_
    refine mput_12 hx hb hts hown E hP hS (hts _ wd_712) d_MO_fail_14 (fun H locs hP hS => ?_)
    have h9 := Option.some.inj h
    subst h9
    exact W.vret hx hb hr (fun t ht hW => ⟨⟨(), rfl, trivial, by show va_P D xcl _ t.heap; rw [ht]; exact hP⟩, hS.F ht⟩) hS.2.2 d_MO_fail_17
theorem c_MO_fail (l : Launch) (D : va_G) (lay : Nat → Nat) (cA : Nat → ClassId) (S : XS) (a1 : Int32) (a2 : Int32) (r : XS) (h : f_MO_fail S a1 a2 = some r) : Met l y_MO_fail (.code y_MO_fail b_MO_fail 3 ((Option.none : Option Jvm.ClassFile.FieldType)) :: xT) rm_MO_fail (mPc D lay cA S [.ref (lay 0), .int a1, .int a2]) (mqv D lay cA r) 0 0 (mI lay) := by
  refine Met.ofW (cc := b_MO_fail) (maxL := 3) (ret := (Option.none : Option Jvm.ClassFile.FieldType)) (by decide +kernel) rfl ?_
  intro p e s m args below meth c s₁ B hml hv
  obtain ⟨rfl, hP, E⟩ := hv
  have C := xB_of B hml
  have hl := lv_entry ([.ref (lay 0), .int a1, .int a2]) (n := 3) (Nat.le_of_ble_eq_true rfl)
  rw [lg_entry_eq]
  generalize (lg_sl ([.ref (lay 0), .int a1, .int a2]) ++ List.replicate (3 - (lg_sl ([.ref (lay 0), .int a1, .int a2])).length) Slot.unset).toArray = ls at hl ⊢
  exact k_MO_fail l C E S a1 a2 r h s.heap [] ls hP va_S.rf hl
/-! ConfigTextsModel.good()Z -/
def rm_MO_good : Room := { frames := 0, cells := 0, slots := 0, locals := 0 }
theorem d_MO_good_0 : decode b_MO_good 0 = .ok (.aload_n 0, 1) := by decide +kernel
theorem d_MO_good_1 : decode b_MO_good 1 = .ok (.getfield 164, 3) := by decide +kernel
theorem d_MO_good_4 : decode b_MO_good 4 = .ok (.ifCond .ne 7, 3) := by decide +kernel
theorem d_MO_good_7 : decode b_MO_good 7 = .ok (.iconst 1, 1) := by decide +kernel
theorem d_MO_good_8 : decode b_MO_good 8 = .ok (.goto 4, 3) := by decide +kernel
theorem d_MO_good_11 : decode b_MO_good 11 = .ok (.iconst 0, 1) := by decide +kernel
theorem d_MO_good_12 : decode b_MO_good 12 = .ok (.ireturn, 1) := by decide +kernel
def f_MO_good (S : XS)  : Option (Int32) :=
  if (xgi S 0 11) = 0 then (some (1 : Int32)) else (some (0 : Int32))
set_option maxHeartbeats 4000000 in
set_option maxRecDepth 100000 in
theorem k_MO_good (l : Launch) {p : Program} {e : Env} {s : State} {m : MethodId} {args : Array Value} {below : List Frame} {meth : Method} {c : Code} {D : va_G} {lay : Nat → Nat} {cA : Nat → ClassId} (C : xB p s m args meth c R_MO b_MO_good ((Option.some Jvm.ClassFile.FieldType.boolean)) 1) (E : mE D lay cA s s.heap) : ∀ (S : XS)  (r : Int32) (_ : f_MO_good S = some r) (H : Heap) (locs : List Loc) (ls : Array Slot), va_P D xcl (mw lay cA S) H → va_S (mI lay) s.heap H locs → lv_has ls 1 [(0, .ref (lay 0))] → W p l e rm_MO_good s m args below meth c H locs 0 0 (MQ below (mqi D lay cA r S) args s 0 0 (mI lay)) (F0 m 0 ls []) := by
  obtain ⟨hx, hb, hr, hml, hown, hts, hlk, hnh⟩ := id C
  have hK := E.K
  intro S r h H locs ls hP hS hl
  unfold f_MO_good at h
  refine lv_aload_n hx hb d_MO_good_0 rfl (lv_at hl 0 rfl) ?_
  refine va_get (v := .int (xgi S 0 11)) (C := R_MO) (T := F_MO) (N := 41) hx hb hts i_MO hown hK hP 0 (mw_at (by decide) (mc_0 _ _ _ _)) rfl 11 (by decide) (hts _ wd_711) (fun _ h9 => h9) rfl d_MO_good_1 ?_
  refine lv_if_ne (tgt := 11) hx hb d_MO_good_4 (by decide) (fun c_1 => ?_) (fun c_1 => ?_)
  · have h := xif_f c_1 h
    refine lv_iconst (v := (0 : Int32)) hx hb d_MO_good_11 (by decide) ?_
    have h9 := Option.some.inj h
    subst h9
    exact W.zret (v := (0 : Int32)) hx hb hr (by decide) (fun t ht hW => ⟨⟨(0 : Int32), (), rfl, rfl, by show va_P D xcl _ t.heap; rw [ht]; exact hP⟩, hS.F ht⟩) hS.2.2 d_MO_good_12
  · have h := xif_t c_1 h
    refine lv_iconst (v := (1 : Int32)) hx hb d_MO_good_7 (by decide) ?_
    refine lv_goto (tgt := 12) hx hb d_MO_good_8 (by decide) ?_
    have h9 := Option.some.inj h
    subst h9
    exact W.zret (v := (1 : Int32)) hx hb hr (by decide) (fun t ht hW => ⟨⟨(1 : Int32), (), rfl, rfl, by show va_P D xcl _ t.heap; rw [ht]; exact hP⟩, hS.F ht⟩) hS.2.2 d_MO_good_12
theorem c_MO_good (l : Launch) (D : va_G) (lay : Nat → Nat) (cA : Nat → ClassId) (S : XS)  (r : Int32) (h : f_MO_good S  = some r) : Met l y_MO_good (.code y_MO_good b_MO_good 1 ((Option.some Jvm.ClassFile.FieldType.boolean)) :: xT) rm_MO_good (mPc D lay cA S [.ref (lay 0)]) (mqi D lay cA r S) 0 0 (mI lay) := by
  refine Met.ofW (cc := b_MO_good) (maxL := 1) (ret := (Option.some Jvm.ClassFile.FieldType.boolean)) (by decide +kernel) rfl ?_
  intro p e s m args below meth c s₁ B hml hv
  obtain ⟨rfl, hP, E⟩ := hv
  have C := xB_of B hml
  have hl := lv_entry ([.ref (lay 0)]) (n := 1) (Nat.le_of_ble_eq_true rfl)
  rw [lg_entry_eq]
  generalize (lg_sl ([.ref (lay 0)]) ++ List.replicate (1 - (lg_sl ([.ref (lay 0)])).length) Slot.unset).toArray = ls at hl ⊢
  exact k_MO_good l C E S  r h s.heap [] ls hP va_S.rf hl
/-! ConfigTextsModel.see(I)I -/
def rm_MO_see : Room := { frames := 0, cells := 0, slots := 0, locals := 0 }
theorem d_MO_see_0 : decode b_MO_see 0 = .ok (.iload_n 1, 1) := by decide +kernel
theorem d_MO_see_1 : decode b_MO_see 1 = .ok (.aload_n 0, 1) := by decide +kernel
theorem d_MO_see_2 : decode b_MO_see 2 = .ok (.getfield 161, 3) := by decide +kernel
theorem d_MO_see_5 : decode b_MO_see 5 = .ok (.if_icmp .ge 16, 3) := by decide +kernel
theorem d_MO_see_8 : decode b_MO_see 8 = .ok (.aload_n 0, 1) := by decide +kernel
theorem d_MO_see_9 : decode b_MO_see 9 = .ok (.getfield 85, 3) := by decide +kernel
theorem d_MO_see_12 : decode b_MO_see 12 = .ok (.iload_n 1, 1) := by decide +kernel
theorem d_MO_see_13 : decode b_MO_see 13 = .ok (.baload, 1) := by decide +kernel
theorem d_MO_see_14 : decode b_MO_see 14 = .ok (.sipush 255, 3) := by decide +kernel
theorem d_MO_see_17 : decode b_MO_see 17 = .ok (.iand, 1) := by decide +kernel
theorem d_MO_see_18 : decode b_MO_see 18 = .ok (.goto 4, 3) := by decide +kernel
theorem d_MO_see_21 : decode b_MO_see 21 = .ok (.iconst (-1), 1) := by decide +kernel
theorem d_MO_see_22 : decode b_MO_see 22 = .ok (.ireturn, 1) := by decide +kernel
def f_MO_see (S : XS) (a1 : Int32) : Option (Int32) :=
  if (xgi S 0 5) ≤ a1 then (some (-1 : Int32)) else (if ¬ (a1 < 0 ∨ 2000 ≤ a1.toNatClampNeg) then (some ((xgi S 4 a1.toNatClampNeg) &&& (255 : Int32))) else none)
set_option maxHeartbeats 4000000 in
set_option maxRecDepth 100000 in
theorem k_MO_see (l : Launch) {p : Program} {e : Env} {s : State} {m : MethodId} {args : Array Value} {below : List Frame} {meth : Method} {c : Code} {D : va_G} {lay : Nat → Nat} {cA : Nat → ClassId} (C : xB p s m args meth c R_MO b_MO_see ((Option.some Jvm.ClassFile.FieldType.int)) 2) (E : mE D lay cA s s.heap) : ∀ (S : XS) (a1 : Int32) (r : Int32) (_ : f_MO_see S a1 = some r) (H : Heap) (locs : List Loc) (ls : Array Slot), va_P D xcl (mw lay cA S) H → va_S (mI lay) s.heap H locs → lv_has ls 2 [(0, .ref (lay 0)), (1, .int a1)] → W p l e rm_MO_see s m args below meth c H locs 0 0 (MQ below (mqi D lay cA r S) args s 0 0 (mI lay)) (F0 m 0 ls []) := by
  obtain ⟨hx, hb, hr, hml, hown, hts, hlk, hnh⟩ := id C
  have hK := E.K
  intro S a1 r h H locs ls hP hS hl
  unfold f_MO_see at h
  refine lv_iload_n hx hb d_MO_see_0 rfl (lv_at hl 1 rfl) ?_
  refine lv_aload_n hx hb d_MO_see_1 rfl (lv_at hl 0 rfl) ?_
  refine va_get (v := .int (xgi S 0 5)) (C := R_MO) (T := F_MO) (N := 41) hx hb hts i_MO hown hK hP 0 (mw_at (by decide) (mc_0 _ _ _ _)) rfl 5 (by decide) (hts _ wd_705) (fun _ h9 => h9) rfl d_MO_see_2 ?_
  refine lv_icmp_ge (tgt := 21) hx hb d_MO_see_5 (by decide) (fun c_2 => ?_) (fun c_2 => ?_)
  · have h := xif_t c_2 h
    refine lv_iconst (v := (-1 : Int32)) hx hb d_MO_see_21 (by decide) ?_
    have h9 := Option.some.inj h
    subst h9
    exact W.iret (v := (-1 : Int32)) hx hb hr (fun t ht hW => ⟨⟨(-1 : Int32), (), rfl, rfl, by show va_P D xcl _ t.heap; rw [ht]; exact hP⟩, hS.F ht⟩) hS.2.2 d_MO_see_22
  · have h := xif_f c_2 h
    refine lv_aload_n hx hb d_MO_see_8 rfl (lv_at hl 0 rfl) ?_
    refine va_get (v := .ref (lay 4)) (C := R_MO) (T := F_MO) (N := 41) hx hb hts i_MO hown hK hP 0 (mw_at (by decide) (mc_0 _ _ _ _)) rfl 4 (by decide) (hts _ wd_704) (fun _ h9 => h9) rfl d_MO_see_9 ?_
    refine lv_iload_n hx hb d_MO_see_12 rfl (lv_at hl 1 rfl) ?_
    obtain ⟨hg1, h⟩ := xg h
    refine mal_4 hx hb E hP hg1 d_MO_see_13 ?_
    refine lv_sipush (v := (255 : Int32)) hx hb d_MO_see_14 (by decide) ?_
    refine lv_iand hx hb d_MO_see_17 ?_
    refine lv_goto (tgt := 22) hx hb d_MO_see_18 (by decide) ?_
    have h9 := Option.some.inj h
    subst h9
    exact W.iret (v := (xgi S 4 a1.toNatClampNeg) &&& (255 : Int32)) hx hb hr (fun t ht hW => ⟨⟨(xgi S 4 a1.toNatClampNeg) &&& (255 : Int32), (), rfl, rfl, by show va_P D xcl _ t.heap; rw [ht]; exact hP⟩, hS.F ht⟩) hS.2.2 d_MO_see_22
theorem c_MO_see (l : Launch) (D : va_G) (lay : Nat → Nat) (cA : Nat → ClassId) (S : XS) (a1 : Int32) (r : Int32) (h : f_MO_see S a1 = some r) : Met l y_MO_see (.code y_MO_see b_MO_see 2 ((Option.some Jvm.ClassFile.FieldType.int)) :: xT) rm_MO_see (mPc D lay cA S [.ref (lay 0), .int a1]) (mqi D lay cA r S) 0 0 (mI lay) := by
  refine Met.ofW (cc := b_MO_see) (maxL := 2) (ret := (Option.some Jvm.ClassFile.FieldType.int)) (by decide +kernel) rfl ?_
  intro p e s m args below meth c s₁ B hml hv
  obtain ⟨rfl, hP, E⟩ := hv
  have C := xB_of B hml
  have hl := lv_entry ([.ref (lay 0), .int a1]) (n := 2) (Nat.le_of_ble_eq_true rfl)
  rw [lg_entry_eq]
  generalize (lg_sl ([.ref (lay 0), .int a1]) ++ List.replicate (2 - (lg_sl ([.ref (lay 0), .int a1])).length) Slot.unset).toArray = ls at hl ⊢
  exact k_MO_see l C E S a1 r h s.heap [] ls hP va_S.rf hl
/-! ConfigTextsModel.isLetter(I)Z -/
def rm_MO_isLetter : Room := { frames := 0, cells := 0, slots := 0, locals := 0 }
theorem d_MO_isLetter_0 : decode b_MO_isLetter 0 = .ok (.iload_n 0, 1) := by decide +kernel
theorem d_MO_isLetter_1 : decode b_MO_isLetter 1 = .ok (.bipush 97, 2) := by decide +kernel
theorem d_MO_isLetter_3 : decode b_MO_isLetter 3 = .ok (.if_icmp .lt 13, 3) := by decide +kernel
theorem d_MO_isLetter_6 : decode b_MO_isLetter 6 = .ok (.iload_n 0, 1) := by decide +kernel
theorem d_MO_isLetter_7 : decode b_MO_isLetter 7 = .ok (.bipush 122, 2) := by decide +kernel
theorem d_MO_isLetter_9 : decode b_MO_isLetter 9 = .ok (.if_icmp .gt 7, 3) := by decide +kernel
theorem d_MO_isLetter_12 : decode b_MO_isLetter 12 = .ok (.iconst 1, 1) := by decide +kernel
theorem d_MO_isLetter_13 : decode b_MO_isLetter 13 = .ok (.goto 4, 3) := by decide +kernel
theorem d_MO_isLetter_16 : decode b_MO_isLetter 16 = .ok (.iconst 0, 1) := by decide +kernel
theorem d_MO_isLetter_17 : decode b_MO_isLetter 17 = .ok (.ireturn, 1) := by decide +kernel
def f_MO_isLetter (S : XS) (a0 : Int32) : Option (Int32) :=
  if a0 < (97 : Int32) then (some (0 : Int32)) else (if (122 : Int32) < a0 then (some (0 : Int32)) else (some (1 : Int32)))
set_option maxHeartbeats 4000000 in
set_option maxRecDepth 100000 in
theorem k_MO_isLetter (l : Launch) {p : Program} {e : Env} {s : State} {m : MethodId} {args : Array Value} {below : List Frame} {meth : Method} {c : Code} {D : va_G} {lay : Nat → Nat} {cA : Nat → ClassId} (C : xB p s m args meth c R_MO b_MO_isLetter ((Option.some Jvm.ClassFile.FieldType.boolean)) 1) (E : mE D lay cA s s.heap) : ∀ (S : XS) (a0 : Int32) (r : Int32) (_ : f_MO_isLetter S a0 = some r) (H : Heap) (locs : List Loc) (ls : Array Slot), va_P D xcl (mw lay cA S) H → va_S (mI lay) s.heap H locs → lv_has ls 1 [(0, .int a0)] → W p l e rm_MO_isLetter s m args below meth c H locs 0 0 (MQ below (mqi D lay cA r S) args s 0 0 (mI lay)) (F0 m 0 ls []) := by
  obtain ⟨hx, hb, hr, hml, hown, hts, hlk, hnh⟩ := id C
  have hK := E.K
  intro S a0 r h H locs ls hP hS hl
  unfold f_MO_isLetter at h
  refine lv_iload_n hx hb d_MO_isLetter_0 rfl (lv_at hl 0 rfl) ?_
  refine lv_bipush (v := (97 : Int32)) hx hb d_MO_isLetter_1 (by decide) ?_
  refine lv_icmp_lt (tgt := 16) hx hb d_MO_isLetter_3 (by decide) (fun c_2 => ?_) (fun c_2 => ?_)
  · have h := xif_t c_2 h
    refine lv_iconst (v := (0 : Int32)) hx hb d_MO_isLetter_16 (by decide) ?_
    have h9 := Option.some.inj h
    subst h9
    exact W.zret (v := (0 : Int32)) hx hb hr (by decide) (fun t ht hW => ⟨⟨(0 : Int32), (), rfl, rfl, by show va_P D xcl _ t.heap; rw [ht]; exact hP⟩, hS.F ht⟩) hS.2.2 d_MO_isLetter_17
  · have h := xif_f c_2 h
    refine lv_iload_n hx hb d_MO_isLetter_6 rfl (lv_at hl 0 rfl) ?_
    refine lv_bipush (v := (122 : Int32)) hx hb d_MO_isLetter_7 (by decide) ?_
    refine lv_icmp_gt (tgt := 16) hx hb d_MO_isLetter_9 (by decide) (fun c_1 => ?_) (fun c_1 => ?_)
    · have h := xif_t c_1 h
      refine lv_iconst (v := (0 : Int32)) hx hb d_MO_isLetter_16 (by decide) ?_
      have h9 := Option.some.inj h
      subst h9
      exact W.zret (v := (0 : Int32)) hx hb hr (by decide) (fun t ht hW => ⟨⟨(0 : Int32), (), rfl, rfl, by show va_P D xcl _ t.heap; rw [ht]; exact hP⟩, hS.F ht⟩) hS.2.2 d_MO_isLetter_17
    · have h := xif_f c_1 h
      refine lv_iconst (v := (1 : Int32)) hx hb d_MO_isLetter_12 (by decide) ?_
      refine lv_goto (tgt := 17) hx hb d_MO_isLetter_13 (by decide) ?_
      have h9 := Option.some.inj h
      subst h9
      exact W.zret (v := (1 : Int32)) hx hb hr (by decide) (fun t ht hW => ⟨⟨(1 : Int32), (), rfl, rfl, by show va_P D xcl _ t.heap; rw [ht]; exact hP⟩, hS.F ht⟩) hS.2.2 d_MO_isLetter_17
theorem c_MO_isLetter (l : Launch) (D : va_G) (lay : Nat → Nat) (cA : Nat → ClassId) (S : XS) (a0 : Int32) (r : Int32) (h : f_MO_isLetter S a0 = some r) : Met l y_MO_isLetter (.code y_MO_isLetter b_MO_isLetter 1 ((Option.some Jvm.ClassFile.FieldType.boolean)) :: xT) rm_MO_isLetter (mPc D lay cA S [.int a0]) (mqi D lay cA r S) 0 0 (mI lay) := by
  refine Met.ofW (cc := b_MO_isLetter) (maxL := 1) (ret := (Option.some Jvm.ClassFile.FieldType.boolean)) (by decide +kernel) rfl ?_
  intro p e s m args below meth c s₁ B hml hv
  obtain ⟨rfl, hP, E⟩ := hv
  have C := xB_of B hml
  have hl := lv_entry ([.int a0]) (n := 1) (Nat.le_of_ble_eq_true rfl)
  rw [lg_entry_eq]
  generalize (lg_sl ([.int a0]) ++ List.replicate (1 - (lg_sl ([.int a0])).length) Slot.unset).toArray = ls at hl ⊢
  exact k_MO_isLetter l C E S a0 r h s.heap [] ls hP va_S.rf hl
/-! ConfigTextsModel.isDigit(I)Z -/
def rm_MO_isDigit : Room := { frames := 0, cells := 0, slots := 0, locals := 0 }
theorem d_MO_isDigit_0 : decode b_MO_isDigit 0 = .ok (.iload_n 0, 1) := by decide +kernel
theorem d_MO_isDigit_1 : decode b_MO_isDigit 1 = .ok (.bipush 48, 2) := by decide +kernel
theorem d_MO_isDigit_3 : decode b_MO_isDigit 3 = .ok (.if_icmp .lt 13, 3) := by decide +kernel
theorem d_MO_isDigit_6 : decode b_MO_isDigit 6 = .ok (.iload_n 0, 1) := by decide +kernel
theorem d_MO_isDigit_7 : decode b_MO_isDigit 7 = .ok (.bipush 57, 2) := by decide +kernel
theorem d_MO_isDigit_9 : decode b_MO_isDigit 9 = .ok (.if_icmp .gt 7, 3) := by decide +kernel
theorem d_MO_isDigit_12 : decode b_MO_isDigit 12 = .ok (.iconst 1, 1) := by decide +kernel
theorem d_MO_isDigit_13 : decode b_MO_isDigit 13 = .ok (.goto 4, 3) := by decide +kernel
theorem d_MO_isDigit_16 : decode b_MO_isDigit 16 = .ok (.iconst 0, 1) := by decide +kernel
theorem d_MO_isDigit_17 : decode b_MO_isDigit 17 = .ok (.ireturn, 1) := by decide +kernel
def f_MO_isDigit (S : XS) (a0 : Int32) : Option (Int32) :=
  if a0 < (48 : Int32) then (some (0 : Int32)) else (if (57 : Int32) < a0 then (some (0 : Int32)) else (some (1 : Int32)))
set_option maxHeartbeats 4000000 in
set_option maxRecDepth 100000 in
theorem k_MO_isDigit (l : Launch) {p : Program} {e : Env} {s : State} {m : MethodId} {args : Array Value} {below : List Frame} {meth : Method} {c : Code} {D : va_G} {lay : Nat → Nat} {cA : Nat → ClassId} (C : xB p s m args meth c R_MO b_MO_isDigit ((Option.some Jvm.ClassFile.FieldType.boolean)) 1) (E : mE D lay cA s s.heap) : ∀ (S : XS) (a0 : Int32) (r : Int32) (_ : f_MO_isDigit S a0 = some r) (H : Heap) (locs : List Loc) (ls : Array Slot), va_P D xcl (mw lay cA S) H → va_S (mI lay) s.heap H locs → lv_has ls 1 [(0, .int a0)] → W p l e rm_MO_isDigit s m args below meth c H locs 0 0 (MQ below (mqi D lay cA r S) args s 0 0 (mI lay)) (F0 m 0 ls []) := by
  obtain ⟨hx, hb, hr, hml, hown, hts, hlk, hnh⟩ := id C
  have hK := E.K
  intro S a0 r h H locs ls hP hS hl
  unfold f_MO_isDigit at h
  refine lv_iload_n hx hb d_MO_isDigit_0 rfl (lv_at hl 0 rfl) ?_
  refine lv_bipush (v := (48 : Int32)) hx hb d_MO_isDigit_1 (by decide) ?_
  refine lv_icmp_lt (tgt := 16) hx hb d_MO_isDigit_3 (by decide) (fun c_2 => ?_) (fun c_2 => ?_)
  · have h := xif_t c_2 h
    refine lv_iconst (v := (0 : Int32)) hx hb d_MO_isDigit_16 (by decide) ?_
    have h9 := Option.some.inj h
    subst h9
    exact W.zret (v := (0 : Int32)) hx hb hr (by decide) (fun t ht hW => ⟨⟨(0 : Int32), (), rfl, rfl, by show va_P D xcl _ t.heap; rw [ht]; exact hP⟩, hS.F ht⟩) hS.2.2 d_MO_isDigit_17
  · have h := xif_f c_2 h
    refine lv_iload_n hx hb d_MO_isDigit_6 rfl (lv_at hl 0 rfl) ?_
    refine lv_bipush (v := (57 : Int32)) hx hb d_MO_isDigit_7 (by decide) ?_
    refine lv_icmp_gt (tgt := 16) hx hb d_MO_isDigit_9 (by decide) (fun c_1 => ?_) (fun c_1 => ?_)
    · have h := xif_t c_1 h
      refine lv_iconst (v := (0 : Int32)) hx hb d_MO_isDigit_16 (by decide) ?_
      have h9 := Option.some.inj h
      subst h9
      exact W.zret (v := (0 : Int32)) hx hb hr (by decide) (fun t ht hW => ⟨⟨(0 : Int32), (), rfl, rfl, by show va_P D xcl _ t.heap; rw [ht]; exact hP⟩, hS.F ht⟩) hS.2.2 d_MO_isDigit_17
    · have h := xif_f c_1 h
      refine lv_iconst (v := (1 : Int32)) hx hb d_MO_isDigit_12 (by decide) ?_
      refine lv_goto (tgt := 17) hx hb d_MO_isDigit_13 (by decide) ?_
      have h9 := Option.some.inj h
      subst h9
      exact W.zret (v := (1 : Int32)) hx hb hr (by decide) (fun t ht hW => ⟨⟨(1 : Int32), (), rfl, rfl, by show va_P D xcl _ t.heap; rw [ht]; exact hP⟩, hS.F ht⟩) hS.2.2 d_MO_isDigit_17
theorem c_MO_isDigit (l : Launch) (D : va_G) (lay : Nat → Nat) (cA : Nat → ClassId) (S : XS) (a0 : Int32) (r : Int32) (h : f_MO_isDigit S a0 = some r) : Met l y_MO_isDigit (.code y_MO_isDigit b_MO_isDigit 1 ((Option.some Jvm.ClassFile.FieldType.boolean)) :: xT) rm_MO_isDigit (mPc D lay cA S [.int a0]) (mqi D lay cA r S) 0 0 (mI lay) := by
  refine Met.ofW (cc := b_MO_isDigit) (maxL := 1) (ret := (Option.some Jvm.ClassFile.FieldType.boolean)) (by decide +kernel) rfl ?_
  intro p e s m args below meth c s₁ B hml hv
  obtain ⟨rfl, hP, E⟩ := hv
  have C := xB_of B hml
  have hl := lv_entry ([.int a0]) (n := 1) (Nat.le_of_ble_eq_true rfl)
  rw [lg_entry_eq]
  generalize (lg_sl ([.int a0]) ++ List.replicate (1 - (lg_sl ([.int a0])).length) Slot.unset).toArray = ls at hl ⊢
  exact k_MO_isDigit l C E S a0 r h s.heap [] ls hP va_S.rf hl
/-! ConfigTextsModel.wordOf(J)I -/
def rm_MO_wordOf : Room := { frames := 0, cells := 0, slots := 0, locals := 0 }
theorem d_MO_wordOf_0 : decode b_MO_wordOf 0 = .ok (.iconst 0, 1) := by decide +kernel
theorem d_MO_wordOf_1 : decode b_MO_wordOf 1 = .ok (.istore_n 3, 1) := by decide +kernel
theorem d_MO_wordOf_2 : decode b_MO_wordOf 2 = .ok (.iload_n 3, 1) := by decide +kernel
theorem d_MO_wordOf_3 : decode b_MO_wordOf 3 = .ok (.bipush 23, 2) := by decide +kernel
theorem d_MO_wordOf_5 : decode b_MO_wordOf 5 = .ok (.if_icmp .ge 22, 3) := by decide +kernel
theorem d_MO_wordOf_8 : decode b_MO_wordOf 8 = .ok (.aload_n 0, 1) := by decide +kernel
theorem d_MO_wordOf_9 : decode b_MO_wordOf 9 = .ok (.getfield 53, 3) := by decide +kernel
theorem d_MO_wordOf_12 : decode b_MO_wordOf 12 = .ok (.iload_n 3, 1) := by decide +kernel
theorem d_MO_wordOf_13 : decode b_MO_wordOf 13 = .ok (.laload, 1) := by decide +kernel
theorem d_MO_wordOf_14 : decode b_MO_wordOf 14 = .ok (.lload_n 1, 1) := by decide +kernel
theorem d_MO_wordOf_15 : decode b_MO_wordOf 15 = .ok (.lcmp, 1) := by decide +kernel
theorem d_MO_wordOf_16 : decode b_MO_wordOf 16 = .ok (.ifCond .ne 5, 3) := by decide +kernel
theorem d_MO_wordOf_19 : decode b_MO_wordOf 19 = .ok (.iload_n 3, 1) := by decide +kernel
theorem d_MO_wordOf_20 : decode b_MO_wordOf 20 = .ok (.ireturn, 1) := by decide +kernel
theorem d_MO_wordOf_21 : decode b_MO_wordOf 21 = .ok (.iinc 3 1, 3) := by decide +kernel
theorem d_MO_wordOf_24 : decode b_MO_wordOf 24 = .ok (.goto (-22), 3) := by decide +kernel
theorem d_MO_wordOf_27 : decode b_MO_wordOf 27 = .ok (.iconst (-1), 1) := by decide +kernel
theorem d_MO_wordOf_28 : decode b_MO_wordOf 28 = .ok (.ireturn, 1) := by decide +kernel
def f_MO_wordOf_2 : Nat → XS → Int64 → Int32 → Option (Int32)
  | 0, _, _, _ => none
  | n + 1, S, a1, a3 =>
    if (23 : Int32) ≤ a3 then (some (-1 : Int32)) else (if ¬ (a3 < 0 ∨ 23 ≤ a3.toNatClampNeg) then (if (lg_cmp (xgl S 1 a3.toNatClampNeg) a1) = 0 then (some a3) else (f_MO_wordOf_2 n S a1 (a3 + (1 : Int32)))) else none)
set_option maxHeartbeats 4000000 in
set_option maxRecDepth 100000 in
theorem k_MO_wordOf_2 (l : Launch) {p : Program} {e : Env} {s : State} {m : MethodId} {args : Array Value} {below : List Frame} {meth : Method} {c : Code} {D : va_G} {lay : Nat → Nat} {cA : Nat → ClassId} (C : xB p s m args meth c R_MO b_MO_wordOf ((Option.some Jvm.ClassFile.FieldType.int)) 4) (E : mE D lay cA s s.heap) : ∀ (n : Nat) (S : XS) (a1 : Int64) (a3 : Int32) (r : Int32) (_ : f_MO_wordOf_2 n S a1 a3 = some r) (H : Heap) (locs : List Loc) (ls : Array Slot), va_P D xcl (mw lay cA S) H → va_S (mI lay) s.heap H locs → lv_has ls 4 [(0, .ref (lay 0)), (1, .long a1), (3, .int a3)] → W p l e rm_MO_wordOf s m args below meth c H locs 0 0 (MQ below (mqi D lay cA r S) args s 0 0 (mI lay)) (F0 m 2 ls []) := by
  obtain ⟨hx, hb, hr, hml, hown, hts, hlk, hnh⟩ := id C
  have hK := E.K
  intro n
  induction n with
  | zero => intro S a1 a3 r h; rw [f_MO_wordOf_2] at h; cases h
  | succ n ih =>
    intro S a1 a3 r h H locs ls hP hS hl
    rw [f_MO_wordOf_2] at h
    refine lv_iload_n hx hb d_MO_wordOf_2 rfl (lv_at hl 2 rfl) ?_
    refine lv_bipush (v := (23 : Int32)) hx hb d_MO_wordOf_3 (by decide) ?_
    refine lv_icmp_ge (tgt := 27) hx hb d_MO_wordOf_5 (by decide) (fun c_3 => ?_) (fun c_3 => ?_)
    · have h := xif_t c_3 h
      refine lv_iconst (v := (-1 : Int32)) hx hb d_MO_wordOf_27 (by decide) ?_
      have h9 := Option.some.inj h
      subst h9
      exact W.iret (v := (-1 : Int32)) hx hb hr (fun t ht hW => ⟨⟨(-1 : Int32), (), rfl, rfl, by show va_P D xcl _ t.heap; rw [ht]; exact hP⟩, hS.F ht⟩) hS.2.2 d_MO_wordOf_28
    · have h := xif_f c_3 h
      refine lv_aload_n hx hb d_MO_wordOf_8 rfl (lv_at hl 0 rfl) ?_
      refine va_get (v := .ref (lay 1)) (C := R_MO) (T := F_MO) (N := 41) hx hb hts i_MO hown hK hP 0 (mw_at (by decide) (mc_0 _ _ _ _)) rfl 1 (by decide) (hts _ wd_701) (fun _ h9 => h9) rfl d_MO_wordOf_9 ?_
      refine lv_iload_n hx hb d_MO_wordOf_12 rfl (lv_at hl 2 rfl) ?_
      obtain ⟨hg1, h⟩ := xg h
      refine mal_1 hx hb E hP hg1 d_MO_wordOf_13 ?_
      refine lv_lload_n hx hb d_MO_wordOf_14 rfl (lv_at hl 1 rfl) ?_
      refine W.lcmp hx hb d_MO_wordOf_15 ?_
      refine lv_if_ne (tgt := 21) hx hb d_MO_wordOf_16 (by decide) (fun c_2 => ?_) (fun c_2 => ?_)
      · have h := xif_f c_2 h
        refine lv_iinc (v := a3 + (1 : Int32)) (lv' := [(3, .int (a3 + (1 : Int32))), (0, .ref (lay 0)), (1, .long a1)]) hx hb d_MO_wordOf_21 hl (k := 2) rfl (by rfl) (by decide) rfl (fun ls hl => ?_)
        refine lv_goto (tgt := 2) hx hb d_MO_wordOf_24 (by decide) ?_
        exact ih S a1 (a3 + (1 : Int32)) _ h H locs ls hP hS (lv_sub hl [1, 2, 0] rfl)
      · have h := xif_t c_2 h
        refine lv_iload_n hx hb d_MO_wordOf_19 rfl (lv_at hl 2 rfl) ?_
        have h9 := Option.some.inj h
        subst h9
        exact W.iret (v := a3) hx hb hr (fun t ht hW => ⟨⟨a3, (), rfl, rfl, by show va_P D xcl _ t.heap; rw [ht]; exact hP⟩, hS.F ht⟩) hS.2.2 d_MO_wordOf_20
def f_MO_wordOf (S : XS) (a1 : Int64) : Option (Int32) :=
  f_MO_wordOf_2 4096 S a1 (0 : Int32)
set_option maxHeartbeats 4000000 in
set_option maxRecDepth 100000 in
theorem k_MO_wordOf (l : Launch) {p : Program} {e : Env} {s : State} {m : MethodId} {args : Array Value} {below : List Frame} {meth : Method} {c : Code} {D : va_G} {lay : Nat → Nat} {cA : Nat → ClassId} (C : xB p s m args meth c R_MO b_MO_wordOf ((Option.some Jvm.ClassFile.FieldType.int)) 4) (E : mE D lay cA s s.heap) : ∀ (S : XS) (a1 : Int64) (r : Int32) (_ : f_MO_wordOf S a1 = some r) (H : Heap) (locs : List Loc) (ls : Array Slot), va_P D xcl (mw lay cA S) H → va_S (mI lay) s.heap H locs → lv_has ls 4 [(0, .ref (lay 0)), (1, .long a1)] → W p l e rm_MO_wordOf s m args below meth c H locs 0 0 (MQ below (mqi D lay cA r S) args s 0 0 (mI lay)) (F0 m 0 ls []) := by
  obtain ⟨hx, hb, hr, hml, hown, hts, hlk, hnh⟩ := id C
  have hK := E.K
  intro S a1 r h H locs ls hP hS hl
  unfold f_MO_wordOf at h
  refine lv_iconst (v := (0 : Int32)) hx hb d_MO_wordOf_0 (by decide) ?_
  refine lv_istore_n (lv' := [(3, .int (0 : Int32)), (0, .ref (lay 0)), (1, .long a1)]) hx hb d_MO_wordOf_1 rfl hl (by decide) rfl (fun ls hl => ?_)
  exact k_MO_wordOf_2 l C E 4096 S a1 (0 : Int32) _ h H locs ls hP hS (lv_sub hl [1, 2, 0] rfl)
theorem c_MO_wordOf (l : Launch) (D : va_G) (lay : Nat → Nat) (cA : Nat → ClassId) (S : XS) (a1 : Int64) (r : Int32) (h : f_MO_wordOf S a1 = some r) : Met l y_MO_wordOf (.code y_MO_wordOf b_MO_wordOf 4 ((Option.some Jvm.ClassFile.FieldType.int)) :: xT) rm_MO_wordOf (mPc D lay cA S [.ref (lay 0), .long a1]) (mqi D lay cA r S) 0 0 (mI lay) := by
  refine Met.ofW (cc := b_MO_wordOf) (maxL := 4) (ret := (Option.some Jvm.ClassFile.FieldType.int)) (by decide +kernel) rfl ?_
  intro p e s m args below meth c s₁ B hml hv
  obtain ⟨rfl, hP, E⟩ := hv
  have C := xB_of B hml
  have hl := lv_entry ([.ref (lay 0), .long a1]) (n := 4) (Nat.le_of_ble_eq_true rfl)
  rw [lg_entry_eq]
  generalize (lg_sl ([.ref (lay 0), .long a1]) ++ List.replicate (4 - (lg_sl ([.ref (lay 0), .long a1])).length) Slot.unset).toArray = ls at hl ⊢
  exact k_MO_wordOf l C E S a1 r h s.heap [] ls hP va_S.rf hl
/-! ConfigTextsModel.readName()V -/
def rm_MO_readName : Room := { frames := 1, cells := 0, slots := 0, locals := 23 }
theorem d_MO_readName_0 : decode b_MO_readName 0 = .ok (.aload_n 0, 1) := by decide +kernel
theorem d_MO_readName_1 : decode b_MO_readName 1 = .ok (.lconst 0, 1) := by decide +kernel
theorem d_MO_readName_2 : decode b_MO_readName 2 = .ok (.putfield 167, 3) := by decide +kernel
theorem d_MO_readName_5 : decode b_MO_readName 5 = .ok (.aload_n 0, 1) := by decide +kernel
theorem d_MO_readName_6 : decode b_MO_readName 6 = .ok (.aload_n 0, 1) := by decide +kernel
theorem d_MO_readName_7 : decode b_MO_readName 7 = .ok (.getfield 171, 3) := by decide +kernel
theorem d_MO_readName_10 : decode b_MO_readName 10 = .ok (.invokevirtual 174, 3) := by decide +kernel
theorem d_MO_readName_13 : decode b_MO_readName 13 = .ok (.invokestatic 178, 3) := by decide +kernel
theorem d_MO_readName_16 : decode b_MO_readName 16 = .ok (.ifCond .ne 17, 3) := by decide +kernel
theorem d_MO_readName_19 : decode b_MO_readName 19 = .ok (.aload_n 0, 1) := by decide +kernel
theorem d_MO_readName_20 : decode b_MO_readName 20 = .ok (.aload_n 0, 1) := by decide +kernel
theorem d_MO_readName_21 : decode b_MO_readName 21 = .ok (.getfield 171, 3) := by decide +kernel
theorem d_MO_readName_24 : decode b_MO_readName 24 = .ok (.invokevirtual 174, 3) := by decide +kernel
theorem d_MO_readName_27 : decode b_MO_readName 27 = .ok (.invokestatic 182, 3) := by decide +kernel
theorem d_MO_readName_30 : decode b_MO_readName 30 = .ok (.ifCond .eq 83, 3) := by decide +kernel
theorem d_MO_readName_33 : decode b_MO_readName 33 = .ok (.aload_n 0, 1) := by decide +kernel
theorem d_MO_readName_34 : decode b_MO_readName 34 = .ok (.aload_n 0, 1) := by decide +kernel
theorem d_MO_readName_35 : decode b_MO_readName 35 = .ok (.getfield 171, 3) := by decide +kernel
theorem d_MO_readName_38 : decode b_MO_readName 38 = .ok (.invokevirtual 174, 3) := by decide +kernel
theorem d_MO_readName_41 : decode b_MO_readName 41 = .ok (.istore_n 1, 1) := by decide +kernel
theorem d_MO_readName_42 : decode b_MO_readName 42 = .ok (.aload_n 0, 1) := by decide +kernel
theorem d_MO_readName_43 : decode b_MO_readName 43 = .ok (.aload_n 0, 1) := by decide +kernel
theorem d_MO_readName_44 : decode b_MO_readName 44 = .ok (.getfield 171, 3) := by decide +kernel
theorem d_MO_readName_47 : decode b_MO_readName 47 = .ok (.aload_n 0, 1) := by decide +kernel
theorem d_MO_readName_48 : decode b_MO_readName 48 = .ok (.getfield 185, 3) := by decide +kernel
theorem d_MO_readName_51 : decode b_MO_readName 51 = .ok (.isub, 1) := by decide +kernel
theorem d_MO_readName_52 : decode b_MO_readName 52 = .ok (.bipush 12, 2) := by decide +kernel
theorem d_MO_readName_54 : decode b_MO_readName 54 = .ok (.if_icmp .ge 39, 3) := by decide +kernel
theorem d_MO_readName_57 : decode b_MO_readName 57 = .ok (.ldc2_w 188, 3) := by decide +kernel
theorem d_MO_readName_60 : decode b_MO_readName 60 = .ok (.aload_n 0, 1) := by decide +kernel
theorem d_MO_readName_61 : decode b_MO_readName 61 = .ok (.getfield 167, 3) := by decide +kernel
theorem d_MO_readName_64 : decode b_MO_readName 64 = .ok (.lmul, 1) := by decide +kernel
theorem d_MO_readName_65 : decode b_MO_readName 65 = .ok (.iload_n 1, 1) := by decide +kernel
theorem d_MO_readName_66 : decode b_MO_readName 66 = .ok (.invokestatic 178, 3) := by decide +kernel
theorem d_MO_readName_69 : decode b_MO_readName 69 = .ok (.ifCond .eq 12, 3) := by decide +kernel
theorem d_MO_readName_72 : decode b_MO_readName 72 = .ok (.iload_n 1, 1) := by decide +kernel
theorem d_MO_readName_73 : decode b_MO_readName 73 = .ok (.bipush 97, 2) := by decide +kernel
theorem d_MO_readName_75 : decode b_MO_readName 75 = .ok (.isub, 1) := by decide +kernel
theorem d_MO_readName_76 : decode b_MO_readName 76 = .ok (.iconst 1, 1) := by decide +kernel
theorem d_MO_readName_77 : decode b_MO_readName 77 = .ok (.iadd, 1) := by decide +kernel
theorem d_MO_readName_78 : decode b_MO_readName 78 = .ok (.goto 10, 3) := by decide +kernel
theorem d_MO_readName_81 : decode b_MO_readName 81 = .ok (.iload_n 1, 1) := by decide +kernel
theorem d_MO_readName_82 : decode b_MO_readName 82 = .ok (.bipush 48, 2) := by decide +kernel
theorem d_MO_readName_84 : decode b_MO_readName 84 = .ok (.isub, 1) := by decide +kernel
theorem d_MO_readName_85 : decode b_MO_readName 85 = .ok (.bipush 27, 2) := by decide +kernel
theorem d_MO_readName_87 : decode b_MO_readName 87 = .ok (.iadd, 1) := by decide +kernel
theorem d_MO_readName_88 : decode b_MO_readName 88 = .ok (.i2l, 1) := by decide +kernel
theorem d_MO_readName_89 : decode b_MO_readName 89 = .ok (.ladd, 1) := by decide +kernel
theorem d_MO_readName_90 : decode b_MO_readName 90 = .ok (.goto 7, 3) := by decide +kernel
theorem d_MO_readName_93 : decode b_MO_readName 93 = .ok (.aload_n 0, 1) := by decide +kernel
theorem d_MO_readName_94 : decode b_MO_readName 94 = .ok (.getfield 167, 3) := by decide +kernel
theorem d_MO_readName_97 : decode b_MO_readName 97 = .ok (.putfield 167, 3) := by decide +kernel
theorem d_MO_readName_100 : decode b_MO_readName 100 = .ok (.aload_n 0, 1) := by decide +kernel
theorem d_MO_readName_101 : decode b_MO_readName 101 = .ok (.dup, 1) := by decide +kernel
theorem d_MO_readName_102 : decode b_MO_readName 102 = .ok (.getfield 171, 3) := by decide +kernel
theorem d_MO_readName_105 : decode b_MO_readName 105 = .ok (.iconst 1, 1) := by decide +kernel
theorem d_MO_readName_106 : decode b_MO_readName 106 = .ok (.iadd, 1) := by decide +kernel
theorem d_MO_readName_107 : decode b_MO_readName 107 = .ok (.putfield 171, 3) := by decide +kernel
theorem d_MO_readName_110 : decode b_MO_readName 110 = .ok (.goto (-105), 3) := by decide +kernel
theorem d_MO_readName_113 : decode b_MO_readName 113 = .ok (.aload_n 0, 1) := by decide +kernel
theorem d_MO_readName_114 : decode b_MO_readName 114 = .ok (.aload_n 0, 1) := by decide +kernel
theorem d_MO_readName_115 : decode b_MO_readName 115 = .ok (.getfield 171, 3) := by decide +kernel
theorem d_MO_readName_118 : decode b_MO_readName 118 = .ok (.aload_n 0, 1) := by decide +kernel
theorem d_MO_readName_119 : decode b_MO_readName 119 = .ok (.getfield 185, 3) := by decide +kernel
theorem d_MO_readName_122 : decode b_MO_readName 122 = .ok (.isub, 1) := by decide +kernel
theorem d_MO_readName_123 : decode b_MO_readName 123 = .ok (.bipush 12, 2) := by decide +kernel
theorem d_MO_readName_125 : decode b_MO_readName 125 = .ok (.if_icmp .le 7, 3) := by decide +kernel
theorem d_MO_readName_128 : decode b_MO_readName 128 = .ok (.iconst (-1), 1) := by decide +kernel
theorem d_MO_readName_129 : decode b_MO_readName 129 = .ok (.goto 11, 3) := by decide +kernel
theorem d_MO_readName_132 : decode b_MO_readName 132 = .ok (.aload_n 0, 1) := by decide +kernel
theorem d_MO_readName_133 : decode b_MO_readName 133 = .ok (.aload_n 0, 1) := by decide +kernel
theorem d_MO_readName_134 : decode b_MO_readName 134 = .ok (.getfield 167, 3) := by decide +kernel
theorem d_MO_readName_137 : decode b_MO_readName 137 = .ok (.invokevirtual 190, 3) := by decide +kernel
theorem d_MO_readName_140 : decode b_MO_readName 140 = .ok (.putfield 194, 3) := by decide +kernel
theorem d_MO_readName_143 : decode b_MO_readName 143 = .ok (.aload_n 0, 1) := by decide +kernel
theorem d_MO_readName_144 : decode b_MO_readName 144 = .ok (.aload_n 0, 1) := by decide +kernel
theorem d_MO_readName_145 : decode b_MO_readName 145 = .ok (.getfield 171, 3) := by decide +kernel
theorem d_MO_readName_148 : decode b_MO_readName 148 = .ok (.aload_n 0, 1) := by decide +kernel
theorem d_MO_readName_149 : decode b_MO_readName 149 = .ok (.getfield 185, 3) := by decide +kernel
theorem d_MO_readName_152 : decode b_MO_readName 152 = .ok (.isub, 1) := by decide +kernel
theorem d_MO_readName_153 : decode b_MO_readName 153 = .ok (.bipush 12, 2) := by decide +kernel
theorem d_MO_readName_155 : decode b_MO_readName 155 = .ok (.if_icmp .le 7, 3) := by decide +kernel
theorem d_MO_readName_158 : decode b_MO_readName 158 = .ok (.iconst 5, 1) := by decide +kernel
theorem d_MO_readName_159 : decode b_MO_readName 159 = .ok (.goto 16, 3) := by decide +kernel
theorem d_MO_readName_162 : decode b_MO_readName 162 = .ok (.aload_n 0, 1) := by decide +kernel
theorem d_MO_readName_163 : decode b_MO_readName 163 = .ok (.getfield 194, 3) := by decide +kernel
theorem d_MO_readName_166 : decode b_MO_readName 166 = .ok (.iconst (-1), 1) := by decide +kernel
theorem d_MO_readName_167 : decode b_MO_readName 167 = .ok (.if_icmp .ne 7, 3) := by decide +kernel
theorem d_MO_readName_170 : decode b_MO_readName 170 = .ok (.iconst 1, 1) := by decide +kernel
theorem d_MO_readName_171 : decode b_MO_readName 171 = .ok (.goto 4, 3) := by decide +kernel
theorem d_MO_readName_174 : decode b_MO_readName 174 = .ok (.iconst 2, 1) := by decide +kernel
theorem d_MO_readName_175 : decode b_MO_readName 175 = .ok (.putfield 197, 3) := by decide +kernel
theorem d_MO_readName_178 : decode b_MO_readName 178 = .ok (.return_, 1) := by decide +kernel
def f_MO_readName_140 (S : XS) (t0 : Int32) : Option (XS) :=
  if ((xgi (xpi S 0 9 t0) 0 7) - (xgi (xpi S 0 9 t0) 0 6)) ≤ (12 : Int32) then (if (xgi (xpi S 0 9 t0) 0 9) = (-1 : Int32) then (some (xpi (xpi S 0 9 t0) 0 8 (1 : Int32))) else (some (xpi (xpi S 0 9 t0) 0 8 (2 : Int32)))) else (some (xpi (xpi S 0 9 t0) 0 8 (5 : Int32)))
set_option maxHeartbeats 4000000 in
set_option maxRecDepth 100000 in
theorem k_MO_readName_140 (l : Launch) {p : Program} {e : Env} {s : State} {m : MethodId} {args : Array Value} {below : List Frame} {meth : Method} {c : Code} {D : va_G} {lay : Nat → Nat} {cA : Nat → ClassId} (C : xB p s m args meth c R_MO b_MO_readName ((Option.none : Option Jvm.ClassFile.FieldType)) 2) (E : mE D lay cA s s.heap) : ∀ (S : XS) (t0 : Int32) (r : XS) (_ : f_MO_readName_140 S t0 = some r) (H : Heap) (locs : List Loc) (ls : Array Slot), va_P D xcl (mw lay cA S) H → va_S (mI lay) s.heap H locs → lv_has ls 2 [(0, .ref (lay 0))] → W p l e rm_MO_readName s m args below meth c H locs 0 0 (MQ below (mqv D lay cA r) args s 0 0 (mI lay)) (F0 m 140 ls [.int t0, .ref (lay 0)]) := by
  obtain ⟨hx, hb, hr, hml, hown, hts, hlk, hnh⟩ := id C
  have hK := E.K
  intro S t0 r h H locs ls hP hS hl
  unfold f_MO_readName_140 at h
  refine mput_9 hx hb hts hown E hP hS (hts _ wd_709) d_MO_readName_140 (fun H locs hP hS => ?_)
  refine lv_aload_n hx hb d_MO_readName_143 rfl (lv_at hl 0 rfl) ?_
  refine lv_aload_n hx hb d_MO_readName_144 rfl (lv_at hl 0 rfl) ?_
  refine va_get (v := .int (xgi (xpi S 0 9 t0) 0 7)) (C := R_MO) (T := F_MO) (N := 41) hx hb hts i_MO hown hK hP 0 (mw_at (by decide) (mc_0 _ _ _ _)) rfl 7 (by decide) (hts _ wd_707) (fun _ h9 => h9) rfl d_MO_readName_145 ?_
  refine lv_aload_n hx hb d_MO_readName_148 rfl (lv_at hl 0 rfl) ?_
  refine va_get (v := .int (xgi (xpi S 0 9 t0) 0 6)) (C := R_MO) (T := F_MO) (N := 41) hx hb hts i_MO hown hK hP 0 (mw_at (by decide) (mc_0 _ _ _ _)) rfl 6 (by decide) (hts _ wd_706) (fun _ h9 => h9) rfl d_MO_readName_149 ?_
  refine lv_isub hx hb d_MO_readName_152 ?_
  refine lv_bipush (v := (12 : Int32)) hx hb d_MO_readName_153 (by decide) ?_
  refine lv_icmp_le (tgt := 162) hx hb d_MO_readName_155 (by decide) (fun c_27 => ?_) (fun c_27 => ?_)
  · have h := xif_t c_27 h
    refine lv_aload_n hx hb d_MO_readName_162 rfl (lv_at hl 0 rfl) ?_
    refine va_get (v := .int (xgi (xpi S 0 9 t0) 0 9)) (C := R_MO) (T := F_MO) (N := 41) hx hb hts i_MO hown hK hP 0 (mw_at (by decide) (mc_0 _ _ _ _)) rfl 9 (by decide) (hts _ wd_709) (fun _ h9 => h9) rfl d_MO_readName_163 ?_
    refine lv_iconst (v := (-1 : Int32)) hx hb d_MO_readName_166 (by decide) ?_
    refine lv_icmp_ne (tgt := 174) hx hb d_MO_readName_167 (by decide) (fun c_26 => ?_) (fun c_26 => ?_)
    · have h := xif_f c_26 h
      refine lv_iconst (v := (2 : Int32)) hx hb d_MO_readName_174 (by decide) ?_
      refine mput_8 hx hb hts hown E hP hS (hts _ wd_708) d_MO_readName_175 (fun H locs hP hS => ?_)
      have h9 := Option.some.inj h
      subst h9
      exact W.vret hx hb hr (fun t ht hW => ⟨⟨(), rfl, trivial, by show va_P D xcl _ t.heap; rw [ht]; exact hP⟩, hS.F ht⟩) hS.2.2 d_MO_readName_178
    · have h := xif_t c_26 h
      refine lv_iconst (v := (1 : Int32)) hx hb d_MO_readName_170 (by decide) ?_
      refine lv_goto (tgt := 175) hx hb d_MO_readName_171 (by decide) ?_
      refine mput_8 hx hb hts hown E hP hS (hts _ wd_708) d_MO_readName_175 (fun H locs hP hS => ?_)
      have h9 := Option.some.inj h
      subst h9
      exact W.vret hx hb hr (fun t ht hW => ⟨⟨(), rfl, trivial, by show va_P D xcl _ t.heap; rw [ht]; exact hP⟩, hS.F ht⟩) hS.2.2 d_MO_readName_178
  · have h := xif_f c_27 h
    refine lv_iconst (v := (5 : Int32)) hx hb d_MO_readName_158 (by decide) ?_
    refine lv_goto (tgt := 175) hx hb d_MO_readName_159 (by decide) ?_
    refine mput_8 hx hb hts hown E hP hS (hts _ wd_708) d_MO_readName_175 (fun H locs hP hS => ?_)
    have h9 := Option.some.inj h
    subst h9
    exact W.vret hx hb hr (fun t ht hW => ⟨⟨(), rfl, trivial, by show va_P D xcl _ t.heap; rw [ht]; exact hP⟩, hS.F ht⟩) hS.2.2 d_MO_readName_178
def f_MO_readName_5 : Nat → XS → Option (XS)
  | 0, _ => none
  | n + 1, S =>
    (f_MO_see S (xgi S 0 7)).bind fun q2 => (f_MO_isLetter S q2).bind fun q4 => if q4 = 0 then ((f_MO_see S (xgi S 0 7)).bind fun q12 => (f_MO_isDigit S q12).bind fun q14 => if q14 = 0 then (if ((xgi S 0 7) - (xgi S 0 6)) ≤ (12 : Int32) then ((f_MO_wordOf S (xgl S 0 10)).bind fun q16 => f_MO_readName_140 S q16) else (f_MO_readName_140 S (-1 : Int32))) else ((f_MO_see S (xgi S 0 7)).bind fun q19 => if (12 : Int32) ≤ ((xgi S 0 7) - (xgi S 0 6)) then (f_MO_readName_5 n (xpi (xpl S 0 10 (xgl S 0 10)) 0 7 ((xgi (xpl S 0 10 (xgl S 0 10)) 0 7) + (1 : Int32)))) else ((f_MO_isLetter S q19).bind fun q21 => if q21 = 0 then (f_MO_readName_5 n (xpi (xpl S 0 10 (((37 : Int64) * (xgl S 0 10)) + (((q19 - (48 : Int32)) + (27 : Int32)).toInt64))) 0 7 ((xgi (xpl S 0 10 (((37 : Int64) * (xgl S 0 10)) + (((q19 - (48 : Int32)) + (27 : Int32)).toInt64))) 0 7) + (1 : Int32)))) else (f_MO_readName_5 n (xpi (xpl S 0 10 (((37 : Int64) * (xgl S 0 10)) + (((q19 - (97 : Int32)) + (1 : Int32)).toInt64))) 0 7 ((xgi (xpl S 0 10 (((37 : Int64) * (xgl S 0 10)) + (((q19 - (97 : Int32)) + (1 : Int32)).toInt64))) 0 7) + (1 : Int32))))))) else ((f_MO_see S (xgi S 0 7)).bind fun q6 => if (12 : Int32) ≤ ((xgi S 0 7) - (xgi S 0 6)) then (f_MO_readName_5 n (xpi (xpl S 0 10 (xgl S 0 10)) 0 7 ((xgi (xpl S 0 10 (xgl S 0 10)) 0 7) + (1 : Int32)))) else ((f_MO_isLetter S q6).bind fun q8 => if q8 = 0 then (f_MO_readName_5 n (xpi (xpl S 0 10 (((37 : Int64) * (xgl S 0 10)) + (((q6 - (48 : Int32)) + (27 : Int32)).toInt64))) 0 7 ((xgi (xpl S 0 10 (((37 : Int64) * (xgl S 0 10)) + (((q6 - (48 : Int32)) + (27 : Int32)).toInt64))) 0 7) + (1 : Int32)))) else (f_MO_readName_5 n (xpi (xpl S 0 10 (((37 : Int64) * (xgl S 0 10)) + (((q6 - (97 : Int32)) + (1 : Int32)).toInt64))) 0 7 ((xgi (xpl S 0 10 (((37 : Int64) * (xgl S 0 10)) + (((q6 - (97 : Int32)) + (1 : Int32)).toInt64))) 0 7) + (1 : Int32))))))
set_option maxHeartbeats 4000000 in
set_option maxRecDepth 100000 in
theorem k_MO_readName_5 (l : Launch) {p : Program} {e : Env} {s : State} {m : MethodId} {args : Array Value} {below : List Frame} {meth : Method} {c : Code} {D : va_G} {lay : Nat → Nat} {cA : Nat → ClassId} (C : xB p s m args meth c R_MO b_MO_readName ((Option.none : Option Jvm.ClassFile.FieldType)) 2) (E : mE D lay cA s s.heap) : ∀ (n : Nat) (S : XS)  (r : XS) (_ : f_MO_readName_5 n S = some r) (H : Heap) (locs : List Loc) (ls : Array Slot), va_P D xcl (mw lay cA S) H → va_S (mI lay) s.heap H locs → lv_has ls 2 [(0, .ref (lay 0))] → W p l e rm_MO_readName s m args below meth c H locs 0 0 (MQ below (mqv D lay cA r) args s 0 0 (mI lay)) (F0 m 5 ls []) := by
  obtain ⟨hx, hb, hr, hml, hown, hts, hlk, hnh⟩ := id C
  have hK := E.K
  intro n
  induction n with
  | zero => intro S r h; rw [f_MO_readName_5] at h; cases h
  | succ n ih =>
    intro S r h H locs ls hP hS hl
    rw [f_MO_readName_5] at h
    refine lv_aload_n hx hb d_MO_readName_5 rfl (lv_at hl 0 rfl) ?_
    refine lv_aload_n hx hb d_MO_readName_6 rfl (lv_at hl 0 rfl) ?_
    refine va_get (v := .int (xgi S 0 7)) (C := R_MO) (T := F_MO) (N := 41) hx hb hts i_MO hown hK hP 0 (mw_at (by decide) (mc_0 _ _ _ _)) rfl 7 (by decide) (hts _ wd_707) (fun _ h9 => h9) rfl d_MO_readName_7 ?_
    obtain ⟨q2, e1, h⟩ := xb h
    refine mc_i (va_runV (As := [.int (xgi S 0 7)]) (rest := []) ⟨hx, hb, hml, hown, hts⟩ (c_MO_see l D lay cA S (xgi S 0 7) q2 e1) (cwV 1 hts (xT_V wd_845 wd_847 wp_22 wd_7 wd_848) rfl rfl rfl (by decide +kernel) ⟨Nat.le_of_ble_eq_true rfl, Nat.le_of_ble_eq_true rfl⟩) (mpV E hP hS (by decide) (mc_0 _ _ _ _) rfl) rfl rfl hl.1 rfl (lv_room (Nat.le_of_ble_eq_true rfl)) d_MO_readName_10 ⟨Nat.le_of_ble_eq_true rfl, Nat.le_of_ble_eq_true rfl⟩) hS (fun H locs hP hS => ?_)
    obtain ⟨q4, e3, h⟩ := xb h
    refine mc_i (va_runS (As := [.int q2]) (rest := []) ⟨hx, hb, hml, hown, hts⟩ (c_MO_isLetter l D lay cA S q2 q4 e3) ⟨callB_of 1 hts (xT_I wd_851) rfl rfl rfl (hts _ wd_7) (hts _ wd_849) (by decide +kernel) ⟨Nat.le_of_ble_eq_true rfl, Nat.le_of_ble_eq_true rfl⟩, hts _ wd_850⟩ (mpS E hP hS) rfl rfl hl.1 rfl (lv_room (Nat.le_of_ble_eq_true rfl)) d_MO_readName_13 ⟨Nat.le_of_ble_eq_true rfl, Nat.le_of_ble_eq_true rfl⟩) hS (fun H locs hP hS => ?_)
    refine lv_if_ne (tgt := 33) hx hb d_MO_readName_16 (by decide) (fun c_25 => ?_) (fun c_25 => ?_)
    · have h := xif_f c_25 h
      refine lv_aload_n hx hb d_MO_readName_33 rfl (lv_at hl 0 rfl) ?_
      refine lv_aload_n hx hb d_MO_readName_34 rfl (lv_at hl 0 rfl) ?_
      refine va_get (v := .int (xgi S 0 7)) (C := R_MO) (T := F_MO) (N := 41) hx hb hts i_MO hown hK hP 0 (mw_at (by decide) (mc_0 _ _ _ _)) rfl 7 (by decide) (hts _ wd_707) (fun _ h9 => h9) rfl d_MO_readName_35 ?_
      obtain ⟨q6, e5, h⟩ := xb h
      refine mc_i (va_runV (As := [.int (xgi S 0 7)]) (rest := []) ⟨hx, hb, hml, hown, hts⟩ (c_MO_see l D lay cA S (xgi S 0 7) q6 e5) (cwV 1 hts (xT_V wd_845 wd_847 wp_22 wd_7 wd_848) rfl rfl rfl (by decide +kernel) ⟨Nat.le_of_ble_eq_true rfl, Nat.le_of_ble_eq_true rfl⟩) (mpV E hP hS (by decide) (mc_0 _ _ _ _) rfl) rfl rfl hl.1 rfl (lv_room (Nat.le_of_ble_eq_true rfl)) d_MO_readName_38 ⟨Nat.le_of_ble_eq_true rfl, Nat.le_of_ble_eq_true rfl⟩) hS (fun H locs hP hS => ?_)
      refine lv_istore_n (lv' := [(1, .int q6), (0, .ref (lay 0))]) hx hb d_MO_readName_41 rfl hl (by decide) rfl (fun ls hl => ?_)
      refine lv_aload_n hx hb d_MO_readName_42 rfl (lv_at hl 1 rfl) ?_
      refine lv_aload_n hx hb d_MO_readName_43 rfl (lv_at hl 1 rfl) ?_
      refine va_get (v := .int (xgi S 0 7)) (C := R_MO) (T := F_MO) (N := 41) hx hb hts i_MO hown hK hP 0 (mw_at (by decide) (mc_0 _ _ _ _)) rfl 7 (by decide) (hts _ wd_707) (fun _ h9 => h9) rfl d_MO_readName_44 ?_
      refine lv_aload_n hx hb d_MO_readName_47 rfl (lv_at hl 1 rfl) ?_
      refine va_get (v := .int (xgi S 0 6)) (C := R_MO) (T := F_MO) (N := 41) hx hb hts i_MO hown hK hP 0 (mw_at (by decide) (mc_0 _ _ _ _)) rfl 6 (by decide) (hts _ wd_706) (fun _ h9 => h9) rfl d_MO_readName_48 ?_
      refine lv_isub hx hb d_MO_readName_51 ?_
      refine lv_bipush (v := (12 : Int32)) hx hb d_MO_readName_52 (by decide) ?_
      refine lv_icmp_ge (tgt := 93) hx hb d_MO_readName_54 (by decide) (fun c_10 => ?_) (fun c_10 => ?_)
      · have h := xif_t c_10 h
        refine lv_aload_n hx hb d_MO_readName_93 rfl (lv_at hl 1 rfl) ?_
        refine va_get (v := .long (xgl S 0 10)) (C := R_MO) (T := F_MO) (N := 41) hx hb hts i_MO hown hK hP 0 (mw_at (by decide) (mc_0 _ _ _ _)) rfl 10 (by decide) (hts _ wd_710) (fun _ h9 => h9) rfl d_MO_readName_94 ?_
        refine mput_10 hx hb hts hown E hP hS (hts _ wd_710) d_MO_readName_97 (fun H locs hP hS => ?_)
        refine lv_aload_n hx hb d_MO_readName_100 rfl (lv_at hl 1 rfl) ?_
        refine lv_dup hx hb d_MO_readName_101 rfl ?_
        refine va_get (v := .int (xgi (xpl S 0 10 (xgl S 0 10)) 0 7)) (C := R_MO) (T := F_MO) (N := 41) hx hb hts i_MO hown hK hP 0 (mw_at (by decide) (mc_0 _ _ _ _)) rfl 7 (by decide) (hts _ wd_707) (fun _ h9 => h9) rfl d_MO_readName_102 ?_
        refine lv_iconst (v := (1 : Int32)) hx hb d_MO_readName_105 (by decide) ?_
        refine lv_iadd hx hb d_MO_readName_106 ?_
        refine mput_7 hx hb hts hown E hP hS (hts _ wd_707) d_MO_readName_107 (fun H locs hP hS => ?_)
        refine lv_goto (tgt := 5) hx hb d_MO_readName_110 (by decide) ?_
        exact ih (xpi (xpl S 0 10 (xgl S 0 10)) 0 7 ((xgi (xpl S 0 10 (xgl S 0 10)) 0 7) + (1 : Int32)))  _ h H locs ls hP hS (lv_sub hl [1] rfl)
      · have h := xif_f c_10 h
        refine lv_ldc2 (v := (37 : Int64)) hx hb hown (hts _ wd_859) d_MO_readName_57 ?_
        refine lv_aload_n hx hb d_MO_readName_60 rfl (lv_at hl 1 rfl) ?_
        refine va_get (v := .long (xgl S 0 10)) (C := R_MO) (T := F_MO) (N := 41) hx hb hts i_MO hown hK hP 0 (mw_at (by decide) (mc_0 _ _ _ _)) rfl 10 (by decide) (hts _ wd_710) (fun _ h9 => h9) rfl d_MO_readName_61 ?_
        refine lv_lmul hx hb d_MO_readName_64 ?_
        refine lv_iload_n hx hb d_MO_readName_65 rfl (lv_at hl 0 rfl) ?_
        obtain ⟨q8, e7, h⟩ := xb h
        refine mc_i (va_runS (As := [.int q6]) (rest := [.long ((37 : Int64) * (xgl S 0 10)), .ref (lay 0)]) ⟨hx, hb, hml, hown, hts⟩ (c_MO_isLetter l D lay cA S q6 q8 e7) ⟨callB_of 1 hts (xT_I wd_851) rfl rfl rfl (hts _ wd_7) (hts _ wd_849) (by decide +kernel) ⟨Nat.le_of_ble_eq_true rfl, Nat.le_of_ble_eq_true rfl⟩, hts _ wd_850⟩ (mpS E hP hS) rfl rfl hl.1 rfl (lv_room (Nat.le_of_ble_eq_true rfl)) d_MO_readName_66 ⟨Nat.le_of_ble_eq_true rfl, Nat.le_of_ble_eq_true rfl⟩) hS (fun H locs hP hS => ?_)
        refine lv_if_eq (tgt := 81) hx hb d_MO_readName_69 (by decide) (fun c_9 => ?_) (fun c_9 => ?_)
        · have h := xif_t c_9 h
          refine lv_iload_n hx hb d_MO_readName_81 rfl (lv_at hl 0 rfl) ?_
          refine lv_bipush (v := (48 : Int32)) hx hb d_MO_readName_82 (by decide) ?_
          refine lv_isub hx hb d_MO_readName_84 ?_
          refine lv_bipush (v := (27 : Int32)) hx hb d_MO_readName_85 (by decide) ?_
          refine lv_iadd hx hb d_MO_readName_87 ?_
          refine lv_i2l (v := ((q6 - (48 : Int32)) + (27 : Int32)).toInt64) hx hb d_MO_readName_88 rfl ?_
          refine lv_ladd hx hb d_MO_readName_89 ?_
          refine lv_goto (tgt := 97) hx hb d_MO_readName_90 (by decide) ?_
          refine mput_10 hx hb hts hown E hP hS (hts _ wd_710) d_MO_readName_97 (fun H locs hP hS => ?_)
          refine lv_aload_n hx hb d_MO_readName_100 rfl (lv_at hl 1 rfl) ?_
          refine lv_dup hx hb d_MO_readName_101 rfl ?_
          refine va_get (v := .int (xgi (xpl S 0 10 (((37 : Int64) * (xgl S 0 10)) + (((q6 - (48 : Int32)) + (27 : Int32)).toInt64))) 0 7)) (C := R_MO) (T := F_MO) (N := 41) hx hb hts i_MO hown hK hP 0 (mw_at (by decide) (mc_0 _ _ _ _)) rfl 7 (by decide) (hts _ wd_707) (fun _ h9 => h9) rfl d_MO_readName_102 ?_
          refine lv_iconst (v := (1 : Int32)) hx hb d_MO_readName_105 (by decide) ?_
          refine lv_iadd hx hb d_MO_readName_106 ?_
          refine mput_7 hx hb hts hown E hP hS (hts _ wd_707) d_MO_readName_107 (fun H locs hP hS => ?_)
          refine lv_goto (tgt := 5) hx hb d_MO_readName_110 (by decide) ?_
          exact ih (xpi (xpl S 0 10 (((37 : Int64) * (xgl S 0 10)) + (((q6 - (48 : Int32)) + (27 : Int32)).toInt64))) 0 7 ((xgi (xpl S 0 10 (((37 : Int64) * (xgl S 0 10)) + (((q6 - (48 : Int32)) + (27 : Int32)).toInt64))) 0 7) + (1 : Int32)))  _ h H locs ls hP hS (lv_sub hl [1] rfl)
        · have h := xif_f c_9 h
          refine lv_iload_n hx hb d_MO_readName_72 rfl (lv_at hl 0 rfl) ?_
          refine lv_bipush (v := (97 : Int32)) hx hb d_MO_readName_73 (by decide) ?_
          refine lv_isub hx hb d_MO_readName_75 ?_
          refine lv_iconst (v := (1 : Int32)) hx hb d_MO_readName_76 (by decide) ?_
          refine lv_iadd hx hb d_MO_readName_77 ?_
          refine lv_goto (tgt := 88) hx hb d_MO_readName_78 (by decide) ?_
          refine lv_i2l (v := ((q6 - (97 : Int32)) + (1 : Int32)).toInt64) hx hb d_MO_readName_88 rfl ?_
          refine lv_ladd hx hb d_MO_readName_89 ?_
          refine lv_goto (tgt := 97) hx hb d_MO_readName_90 (by decide) ?_
          refine mput_10 hx hb hts hown E hP hS (hts _ wd_710) d_MO_readName_97 (fun H locs hP hS => ?_)
          refine lv_aload_n hx hb d_MO_readName_100 rfl (lv_at hl 1 rfl) ?_
          refine lv_dup hx hb d_MO_readName_101 rfl ?_
          refine va_get (v := .int (xgi (xpl S 0 10 (((37 : Int64) * (xgl S 0 10)) + (((q6 - (97 : Int32)) + (1 : Int32)).toInt64))) 0 7)) (C := R_MO) (T := F_MO) (N := 41) hx hb hts i_MO hown hK hP 0 (mw_at (by decide) (mc_0 _ _ _ _)) rfl 7 (by decide) (hts _ wd_707) (fun _ h9 => h9) rfl d_MO_readName_102 ?_
          refine lv_iconst (v := (1 : Int32)) hx hb d_MO_readName_105 (by decide) ?_
          refine lv_iadd hx hb d_MO_readName_106 ?_
          refine mput_7 hx hb hts hown E hP hS (hts _ wd_707) d_MO_readName_107 (fun H locs hP hS => ?_)
          refine lv_goto (tgt := 5) hx hb d_MO_readName_110 (by decide) ?_
          exact ih (xpi (xpl S 0 10 (((37 : Int64) * (xgl S 0 10)) + (((q6 - (97 : Int32)) + (1 : Int32)).toInt64))) 0 7 ((xgi (xpl S 0 10 (((37 : Int64) * (xgl S 0 10)) + (((q6 - (97 : Int32)) + (1 : Int32)).toInt64))) 0 7) + (1 : Int32)))  _ h H locs ls hP hS (lv_sub hl [1] rfl)
    · have h := xif_t c_25 h
      refine lv_aload_n hx hb d_MO_readName_19 rfl (lv_at hl 0 rfl) ?_
      refine lv_aload_n hx hb d_MO_readName_20 rfl (lv_at hl 0 rfl) ?_
      refine va_get (v := .int (xgi S 0 7)) (C := R_MO) (T := F_MO) (N := 41) hx hb hts i_MO hown hK hP 0 (mw_at (by decide) (mc_0 _ _ _ _)) rfl 7 (by decide) (hts _ wd_707) (fun _ h9 => h9) rfl d_MO_readName_21 ?_
      obtain ⟨q12, e11, h⟩ := xb h
      refine mc_i (va_runV (As := [.int (xgi S 0 7)]) (rest := []) ⟨hx, hb, hml, hown, hts⟩ (c_MO_see l D lay cA S (xgi S 0 7) q12 e11) (cwV 1 hts (xT_V wd_845 wd_847 wp_22 wd_7 wd_848) rfl rfl rfl (by decide +kernel) ⟨Nat.le_of_ble_eq_true rfl, Nat.le_of_ble_eq_true rfl⟩) (mpV E hP hS (by decide) (mc_0 _ _ _ _) rfl) rfl rfl hl.1 rfl (lv_room (Nat.le_of_ble_eq_true rfl)) d_MO_readName_24 ⟨Nat.le_of_ble_eq_true rfl, Nat.le_of_ble_eq_true rfl⟩) hS (fun H locs hP hS => ?_)
      obtain ⟨q14, e13, h⟩ := xb h
      refine mc_i (va_runS (As := [.int q12]) (rest := []) ⟨hx, hb, hml, hown, hts⟩ (c_MO_isDigit l D lay cA S q12 q14 e13) ⟨callB_of 1 hts (xT_I wd_858) rfl rfl rfl (hts _ wd_7) (hts _ wd_856) (by decide +kernel) ⟨Nat.le_of_ble_eq_true rfl, Nat.le_of_ble_eq_true rfl⟩, hts _ wd_857⟩ (mpS E hP hS) rfl rfl hl.1 rfl (lv_room (Nat.le_of_ble_eq_true rfl)) d_MO_readName_27 ⟨Nat.le_of_ble_eq_true rfl, Nat.le_of_ble_eq_true rfl⟩) hS (fun H locs hP hS => ?_)
      refine lv_if_eq (tgt := 113) hx hb d_MO_readName_30 (by decide) (fun c_24 => ?_) (fun c_24 => ?_)
      · have h := xif_t c_24 h
        refine lv_aload_n hx hb d_MO_readName_113 rfl (lv_at hl 0 rfl) ?_
        refine lv_aload_n hx hb d_MO_readName_114 rfl (lv_at hl 0 rfl) ?_
        refine va_get (v := .int (xgi S 0 7)) (C := R_MO) (T := F_MO) (N := 41) hx hb hts i_MO hown hK hP 0 (mw_at (by decide) (mc_0 _ _ _ _)) rfl 7 (by decide) (hts _ wd_707) (fun _ h9 => h9) rfl d_MO_readName_115 ?_
        refine lv_aload_n hx hb d_MO_readName_118 rfl (lv_at hl 0 rfl) ?_
        refine va_get (v := .int (xgi S 0 6)) (C := R_MO) (T := F_MO) (N := 41) hx hb hts i_MO hown hK hP 0 (mw_at (by decide) (mc_0 _ _ _ _)) rfl 6 (by decide) (hts _ wd_706) (fun _ h9 => h9) rfl d_MO_readName_119 ?_
        refine lv_isub hx hb d_MO_readName_122 ?_
        refine lv_bipush (v := (12 : Int32)) hx hb d_MO_readName_123 (by decide) ?_
        refine lv_icmp_le (tgt := 132) hx hb d_MO_readName_125 (by decide) (fun c_17 => ?_) (fun c_17 => ?_)
        · have h := xif_t c_17 h
          refine lv_aload_n hx hb d_MO_readName_132 rfl (lv_at hl 0 rfl) ?_
          refine lv_aload_n hx hb d_MO_readName_133 rfl (lv_at hl 0 rfl) ?_
          refine va_get (v := .long (xgl S 0 10)) (C := R_MO) (T := F_MO) (N := 41) hx hb hts i_MO hown hK hP 0 (mw_at (by decide) (mc_0 _ _ _ _)) rfl 10 (by decide) (hts _ wd_710) (fun _ h9 => h9) rfl d_MO_readName_134 ?_
          obtain ⟨q16, e15, h⟩ := xb h
          refine mc_i (va_runV (As := [.long (xgl S 0 10)]) (rest := [.ref (lay 0)]) ⟨hx, hb, hml, hown, hts⟩ (c_MO_wordOf l D lay cA S (xgl S 0 10) q16 e15) (cwV 1 hts (xT_V wd_860 wd_862 wp_24 wd_7 wd_863) rfl rfl rfl (by decide +kernel) ⟨Nat.le_of_ble_eq_true rfl, Nat.le_of_ble_eq_true rfl⟩) (mpV E hP hS (by decide) (mc_0 _ _ _ _) rfl) rfl rfl hl.1 rfl (lv_room (Nat.le_of_ble_eq_true rfl)) d_MO_readName_137 ⟨Nat.le_of_ble_eq_true rfl, Nat.le_of_ble_eq_true rfl⟩) hS (fun H locs hP hS => ?_)
          exact k_MO_readName_140 l C E S q16 _ h H locs ls hP hS hl
        · have h := xif_f c_17 h
          refine lv_iconst (v := (-1 : Int32)) hx hb d_MO_readName_128 (by decide) ?_
          refine lv_goto (tgt := 140) hx hb d_MO_readName_129 (by decide) ?_
          exact k_MO_readName_140 l C E S (-1 : Int32) _ h H locs ls hP hS hl
      · have h := xif_f c_24 h
        refine lv_aload_n hx hb d_MO_readName_33 rfl (lv_at hl 0 rfl) ?_
        refine lv_aload_n hx hb d_MO_readName_34 rfl (lv_at hl 0 rfl) ?_
        refine va_get (v := .int (xgi S 0 7)) (C := R_MO) (T := F_MO) (N := 41) hx hb hts i_MO hown hK hP 0 (mw_at (by decide) (mc_0 _ _ _ _)) rfl 7 (by decide) (hts _ wd_707) (fun _ h9 => h9) rfl d_MO_readName_35 ?_
        obtain ⟨q19, e18, h⟩ := xb h
        refine mc_i (va_runV (As := [.int (xgi S 0 7)]) (rest := []) ⟨hx, hb, hml, hown, hts⟩ (c_MO_see l D lay cA S (xgi S 0 7) q19 e18) (cwV 1 hts (xT_V wd_845 wd_847 wp_22 wd_7 wd_848) rfl rfl rfl (by decide +kernel) ⟨Nat.le_of_ble_eq_true rfl, Nat.le_of_ble_eq_true rfl⟩) (mpV E hP hS (by decide) (mc_0 _ _ _ _) rfl) rfl rfl hl.1 rfl (lv_room (Nat.le_of_ble_eq_true rfl)) d_MO_readName_38 ⟨Nat.le_of_ble_eq_true rfl, Nat.le_of_ble_eq_true rfl⟩) hS (fun H locs hP hS => ?_)
        refine lv_istore_n (lv' := [(1, .int q19), (0, .ref (lay 0))]) hx hb d_MO_readName_41 rfl hl (by decide) rfl (fun ls hl => ?_)
        refine lv_aload_n hx hb d_MO_readName_42 rfl (lv_at hl 1 rfl) ?_
        refine lv_aload_n hx hb d_MO_readName_43 rfl (lv_at hl 1 rfl) ?_
        refine va_get (v := .int (xgi S 0 7)) (C := R_MO) (T := F_MO) (N := 41) hx hb hts i_MO hown hK hP 0 (mw_at (by decide) (mc_0 _ _ _ _)) rfl 7 (by decide) (hts _ wd_707) (fun _ h9 => h9) rfl d_MO_readName_44 ?_
        refine lv_aload_n hx hb d_MO_readName_47 rfl (lv_at hl 1 rfl) ?_
        refine va_get (v := .int (xgi S 0 6)) (C := R_MO) (T := F_MO) (N := 41) hx hb hts i_MO hown hK hP 0 (mw_at (by decide) (mc_0 _ _ _ _)) rfl 6 (by decide) (hts _ wd_706) (fun _ h9 => h9) rfl d_MO_readName_48 ?_
        refine lv_isub hx hb d_MO_readName_51 ?_
        refine lv_bipush (v := (12 : Int32)) hx hb d_MO_readName_52 (by decide) ?_
        refine lv_icmp_ge (tgt := 93) hx hb d_MO_readName_54 (by decide) (fun c_23 => ?_) (fun c_23 => ?_)
        · have h := xif_t c_23 h
          refine lv_aload_n hx hb d_MO_readName_93 rfl (lv_at hl 1 rfl) ?_
          refine va_get (v := .long (xgl S 0 10)) (C := R_MO) (T := F_MO) (N := 41) hx hb hts i_MO hown hK hP 0 (mw_at (by decide) (mc_0 _ _ _ _)) rfl 10 (by decide) (hts _ wd_710) (fun _ h9 => h9) rfl d_MO_readName_94 ?_
          refine mput_10 hx hb hts hown E hP hS (hts _ wd_710) d_MO_readName_97 (fun H locs hP hS => ?_)
          refine lv_aload_n hx hb d_MO_readName_100 rfl (lv_at hl 1 rfl) ?_
          refine lv_dup hx hb d_MO_readName_101 rfl ?_
          refine va_get (v := .int (xgi (xpl S 0 10 (xgl S 0 10)) 0 7)) (C := R_MO) (T := F_MO) (N := 41) hx hb hts i_MO hown hK hP 0 (mw_at (by decide) (mc_0 _ _ _ _)) rfl 7 (by decide) (hts _ wd_707) (fun _ h9 => h9) rfl d_MO_readName_102 ?_
          refine lv_iconst (v := (1 : Int32)) hx hb d_MO_readName_105 (by decide) ?_
          refine lv_iadd hx hb d_MO_readName_106 ?_
          refine mput_7 hx hb hts hown E hP hS (hts _ wd_707) d_MO_readName_107 (fun H locs hP hS => ?_)
          refine lv_goto (tgt := 5) hx hb d_MO_readName_110 (by decide) ?_
          exact ih (xpi (xpl S 0 10 (xgl S 0 10)) 0 7 ((xgi (xpl S 0 10 (xgl S 0 10)) 0 7) + (1 : Int32)))  _ h H locs ls hP hS (lv_sub hl [1] rfl)
        · have h := xif_f c_23 h
          refine lv_ldc2 (v := (37 : Int64)) hx hb hown (hts _ wd_859) d_MO_readName_57 ?_
          refine lv_aload_n hx hb d_MO_readName_60 rfl (lv_at hl 1 rfl) ?_
          refine va_get (v := .long (xgl S 0 10)) (C := R_MO) (T := F_MO) (N := 41) hx hb hts i_MO hown hK hP 0 (mw_at (by decide) (mc_0 _ _ _ _)) rfl 10 (by decide) (hts _ wd_710) (fun _ h9 => h9) rfl d_MO_readName_61 ?_
          refine lv_lmul hx hb d_MO_readName_64 ?_
          refine lv_iload_n hx hb d_MO_readName_65 rfl (lv_at hl 0 rfl) ?_
          obtain ⟨q21, e20, h⟩ := xb h
          refine mc_i (va_runS (As := [.int q19]) (rest := [.long ((37 : Int64) * (xgl S 0 10)), .ref (lay 0)]) ⟨hx, hb, hml, hown, hts⟩ (c_MO_isLetter l D lay cA S q19 q21 e20) ⟨callB_of 1 hts (xT_I wd_851) rfl rfl rfl (hts _ wd_7) (hts _ wd_849) (by decide +kernel) ⟨Nat.le_of_ble_eq_true rfl, Nat.le_of_ble_eq_true rfl⟩, hts _ wd_850⟩ (mpS E hP hS) rfl rfl hl.1 rfl (lv_room (Nat.le_of_ble_eq_true rfl)) d_MO_readName_66 ⟨Nat.le_of_ble_eq_true rfl, Nat.le_of_ble_eq_true rfl⟩) hS (fun H locs hP hS => ?_)
          refine lv_if_eq (tgt := 81) hx hb d_MO_readName_69 (by decide) (fun c_22 => ?_) (fun c_22 => ?_)
          · have h := xif_t c_22 h
            refine lv_iload_n hx hb d_MO_readName_81 rfl (lv_at hl 0 rfl) ?_
            refine lv_bipush (v := (48 : Int32)) hx hb d_MO_readName_82 (by decide) ?_
            refine lv_isub hx hb d_MO_readName_84 ?_
            refine lv_bipush (v := (27 : Int32)) hx hb d_MO_readName_85 (by decide) ?_
            refine lv_iadd hx hb d_MO_readName_87 ?_
            refine lv_i2l (v := ((q19 - (48 : Int32)) + (27 : Int32)).toInt64) hx hb d_MO_readName_88 rfl ?_
            refine lv_ladd hx hb d_MO_readName_89 ?_
            refine lv_goto (tgt := 97) hx hb d_MO_readName_90 (by decide) ?_
            refine mput_10 hx hb hts hown E hP hS (hts _ wd_710) d_MO_readName_97 (fun H locs hP hS => ?_)
            refine lv_aload_n hx hb d_MO_readName_100 rfl (lv_at hl 1 rfl) ?_
            refine lv_dup hx hb d_MO_readName_101 rfl ?_
            refine va_get (v := .int (xgi (xpl S 0 10 (((37 : Int64) * (xgl S 0 10)) + (((q19 - (48 : Int32)) + (27 : Int32)).toInt64))) 0 7)) (C := R_MO) (T := F_MO) (N := 41) hx hb hts i_MO hown hK hP 0 (mw_at (by decide) (mc_0 _ _ _ _)) rfl 7 (by decide) (hts _ wd_707) (fun _ h9 => h9) rfl d_MO_readName_102 ?_
            refine lv_iconst (v := (1 : Int32)) hx hb d_MO_readName_105 (by decide) ?_
            refine lv_iadd hx hb d_MO_readName_106 ?_
            refine mput_7 hx hb hts hown E hP hS (hts _ wd_707) d_MO_readName_107 (fun H locs hP hS => ?_)
            refine lv_goto (tgt := 5) hx hb d_MO_readName_110 (by decide) ?_
            exact ih (xpi (xpl S 0 10 (((37 : Int64) * (xgl S 0 10)) + (((q19 - (48 : Int32)) + (27 : Int32)).toInt64))) 0 7 ((xgi (xpl S 0 10 (((37 : Int64) * (xgl S 0 10)) + (((q19 - (48 : Int32)) + (27 : Int32)).toInt64))) 0 7) + (1 : Int32)))  _ h H locs ls hP hS (lv_sub hl [1] rfl)
          · have h := xif_f c_22 h
            refine lv_iload_n hx hb d_MO_readName_72 rfl (lv_at hl 0 rfl) ?_
            refine lv_bipush (v := (97 : Int32)) hx hb d_MO_readName_73 (by decide) ?_
            refine lv_isub hx hb d_MO_readName_75 ?_
            refine lv_iconst (v := (1 : Int32)) hx hb d_MO_readName_76 (by decide) ?_
            refine lv_iadd hx hb d_MO_readName_77 ?_
            refine lv_goto (tgt := 88) hx hb d_MO_readName_78 (by decide) ?_
            refine lv_i2l (v := ((q19 - (97 : Int32)) + (1 : Int32)).toInt64) hx hb d_MO_readName_88 rfl ?_
            refine lv_ladd hx hb d_MO_readName_89 ?_
            refine lv_goto (tgt := 97) hx hb d_MO_readName_90 (by decide) ?_
            refine mput_10 hx hb hts hown E hP hS (hts _ wd_710) d_MO_readName_97 (fun H locs hP hS => ?_)
            refine lv_aload_n hx hb d_MO_readName_100 rfl (lv_at hl 1 rfl) ?_
            refine lv_dup hx hb d_MO_readName_101 rfl ?_
            refine va_get (v := .int (xgi (xpl S 0 10 (((37 : Int64) * (xgl S 0 10)) + (((q19 - (97 : Int32)) + (1 : Int32)).toInt64))) 0 7)) (C := R_MO) (T := F_MO) (N := 41) hx hb hts i_MO hown hK hP 0 (mw_at (by decide) (mc_0 _ _ _ _)) rfl 7 (by decide) (hts _ wd_707) (fun _ h9 => h9) rfl d_MO_readName_102 ?_
            refine lv_iconst (v := (1 : Int32)) hx hb d_MO_readName_105 (by decide) ?_
            refine lv_iadd hx hb d_MO_readName_106 ?_
            refine mput_7 hx hb hts hown E hP hS (hts _ wd_707) d_MO_readName_107 (fun H locs hP hS => ?_)
            refine lv_goto (tgt := 5) hx hb d_MO_readName_110 (by decide) ?_
            exact ih (xpi (xpl S 0 10 (((37 : Int64) * (xgl S 0 10)) + (((q19 - (97 : Int32)) + (1 : Int32)).toInt64))) 0 7 ((xgi (xpl S 0 10 (((37 : Int64) * (xgl S 0 10)) + (((q19 - (97 : Int32)) + (1 : Int32)).toInt64))) 0 7) + (1 : Int32)))  _ h H locs ls hP hS (lv_sub hl [1] rfl)
def f_MO_readName (S : XS)  : Option (XS) :=
  f_MO_readName_5 4096 (xpl S 0 10 (0 : Int64))
set_option maxHeartbeats 4000000 in
set_option maxRecDepth 100000 in
theorem k_MO_readName (l : Launch) {p : Program} {e : Env} {s : State} {m : MethodId} {args : Array Value} {below : List Frame} {meth : Method} {c : Code} {D : va_G} {lay : Nat → Nat} {cA : Nat → ClassId} (C : xB p s m args meth c R_MO b_MO_readName ((Option.none : Option Jvm.ClassFile.FieldType)) 2) (E : mE D lay cA s s.heap) : ∀ (S : XS)  (r : XS) (_ : f_MO_readName S = some r) (H : Heap) (locs : List Loc) (ls : Array Slot), va_P D xcl (mw lay cA S) H → va_S (mI lay) s.heap H locs → lv_has ls 2 [(0, .ref (lay 0))] → W p l e rm_MO_readName s m args below meth c H locs 0 0 (MQ below (mqv D lay cA r) args s 0 0 (mI lay)) (F0 m 0 ls []) := by
  obtain ⟨hx, hb, hr, hml, hown, hts, hlk, hnh⟩ := id C
  have hK := E.K
  intro S r h H locs ls hP hS hl
  unfold f_MO_readName at h
  refine lv_aload_n hx hb d_MO_readName_0 rfl (lv_at hl 0 rfl) ?_
  refine lv_lconst (v := (0 : Int64)) hx hb d_MO_readName_1 (by decide) ?_
  refine mput_10 hx hb hts hown E hP hS (hts _ wd_710) d_MO_readName_2 (fun H locs hP hS => ?_)
  exact k_MO_readName_5 l C E 4096 (xpl S 0 10 (0 : Int64))  _ h H locs ls hP hS hl
theorem c_MO_readName (l : Launch) (D : va_G) (lay : Nat → Nat) (cA : Nat → ClassId) (S : XS)  (r : XS) (h : f_MO_readName S  = some r) : Met l y_MO_readName (.code y_MO_readName b_MO_readName 2 ((Option.none : Option Jvm.ClassFile.FieldType)) :: xT) rm_MO_readName (mPc D lay cA S [.ref (lay 0)]) (mqv D lay cA r) 0 0 (mI lay) := by
  refine Met.ofW (cc := b_MO_readName) (maxL := 2) (ret := (Option.none : Option Jvm.ClassFile.FieldType)) (by decide +kernel) rfl ?_
  intro p e s m args below meth c s₁ B hml hv
  obtain ⟨rfl, hP, E⟩ := hv
  have C := xB_of B hml
  have hl := lv_entry ([.ref (lay 0)]) (n := 2) (Nat.le_of_ble_eq_true rfl)
  rw [lg_entry_eq]
  generalize (lg_sl ([.ref (lay 0)]) ++ List.replicate (2 - (lg_sl ([.ref (lay 0)])).length) Slot.unset).toArray = ls at hl ⊢
  exact k_MO_readName l C E S  r h s.heap [] ls hP va_S.rf hl
/-! ConfigTextsModel.readNumber()V -/
def rm_MO_readNumber : Room := { frames := 1, cells := 0, slots := 0, locals := 21 }
theorem d_MO_readNumber_0 : decode b_MO_readNumber 0 = .ok (.aload_n 0, 1) := by decide +kernel
theorem d_MO_readNumber_1 : decode b_MO_readNumber 1 = .ok (.lconst 0, 1) := by decide +kernel
theorem d_MO_readNumber_2 : decode b_MO_readNumber 2 = .ok (.putfield 167, 3) := by decide +kernel
theorem d_MO_readNumber_5 : decode b_MO_readNumber 5 = .ok (.aload_n 0, 1) := by decide +kernel
theorem d_MO_readNumber_6 : decode b_MO_readNumber 6 = .ok (.aload_n 0, 1) := by decide +kernel
theorem d_MO_readNumber_7 : decode b_MO_readNumber 7 = .ok (.getfield 171, 3) := by decide +kernel
theorem d_MO_readNumber_10 : decode b_MO_readNumber 10 = .ok (.invokevirtual 174, 3) := by decide +kernel
theorem d_MO_readNumber_13 : decode b_MO_readNumber 13 = .ok (.invokestatic 182, 3) := by decide +kernel
theorem d_MO_readNumber_16 : decode b_MO_readNumber 16 = .ok (.ifCond .eq 63, 3) := by decide +kernel
theorem d_MO_readNumber_19 : decode b_MO_readNumber 19 = .ok (.aload_n 0, 1) := by decide +kernel
theorem d_MO_readNumber_20 : decode b_MO_readNumber 20 = .ok (.aload_n 0, 1) := by decide +kernel
theorem d_MO_readNumber_21 : decode b_MO_readNumber 21 = .ok (.getfield 171, 3) := by decide +kernel
theorem d_MO_readNumber_24 : decode b_MO_readNumber 24 = .ok (.aload_n 0, 1) := by decide +kernel
theorem d_MO_readNumber_25 : decode b_MO_readNumber 25 = .ok (.getfield 185, 3) := by decide +kernel
theorem d_MO_readNumber_28 : decode b_MO_readNumber 28 = .ok (.isub, 1) := by decide +kernel
theorem d_MO_readNumber_29 : decode b_MO_readNumber 29 = .ok (.bipush 6, 2) := by decide +kernel
theorem d_MO_readNumber_31 : decode b_MO_readNumber 31 = .ok (.if_icmp .ge 28, 3) := by decide +kernel
theorem d_MO_readNumber_34 : decode b_MO_readNumber 34 = .ok (.ldc2_w 200, 3) := by decide +kernel
theorem d_MO_readNumber_37 : decode b_MO_readNumber 37 = .ok (.aload_n 0, 1) := by decide +kernel
theorem d_MO_readNumber_38 : decode b_MO_readNumber 38 = .ok (.getfield 167, 3) := by decide +kernel
theorem d_MO_readNumber_41 : decode b_MO_readNumber 41 = .ok (.lmul, 1) := by decide +kernel
theorem d_MO_readNumber_42 : decode b_MO_readNumber 42 = .ok (.aload_n 0, 1) := by decide +kernel
theorem d_MO_readNumber_43 : decode b_MO_readNumber 43 = .ok (.aload_n 0, 1) := by decide +kernel
theorem d_MO_readNumber_44 : decode b_MO_readNumber 44 = .ok (.getfield 171, 3) := by decide +kernel
theorem d_MO_readNumber_47 : decode b_MO_readNumber 47 = .ok (.invokevirtual 174, 3) := by decide +kernel
theorem d_MO_readNumber_50 : decode b_MO_readNumber 50 = .ok (.i2l, 1) := by decide +kernel
theorem d_MO_readNumber_51 : decode b_MO_readNumber 51 = .ok (.ladd, 1) := by decide +kernel
theorem d_MO_readNumber_52 : decode b_MO_readNumber 52 = .ok (.ldc2_w 202, 3) := by decide +kernel
theorem d_MO_readNumber_55 : decode b_MO_readNumber 55 = .ok (.lsub, 1) := by decide +kernel
theorem d_MO_readNumber_56 : decode b_MO_readNumber 56 = .ok (.goto 7, 3) := by decide +kernel
theorem d_MO_readNumber_59 : decode b_MO_readNumber 59 = .ok (.aload_n 0, 1) := by decide +kernel
theorem d_MO_readNumber_60 : decode b_MO_readNumber 60 = .ok (.getfield 167, 3) := by decide +kernel
theorem d_MO_readNumber_63 : decode b_MO_readNumber 63 = .ok (.putfield 167, 3) := by decide +kernel
theorem d_MO_readNumber_66 : decode b_MO_readNumber 66 = .ok (.aload_n 0, 1) := by decide +kernel
theorem d_MO_readNumber_67 : decode b_MO_readNumber 67 = .ok (.dup, 1) := by decide +kernel
theorem d_MO_readNumber_68 : decode b_MO_readNumber 68 = .ok (.getfield 171, 3) := by decide +kernel
theorem d_MO_readNumber_71 : decode b_MO_readNumber 71 = .ok (.iconst 1, 1) := by decide +kernel
theorem d_MO_readNumber_72 : decode b_MO_readNumber 72 = .ok (.iadd, 1) := by decide +kernel
theorem d_MO_readNumber_73 : decode b_MO_readNumber 73 = .ok (.putfield 171, 3) := by decide +kernel
theorem d_MO_readNumber_76 : decode b_MO_readNumber 76 = .ok (.goto (-71), 3) := by decide +kernel
theorem d_MO_readNumber_79 : decode b_MO_readNumber 79 = .ok (.aload_n 0, 1) := by decide +kernel
theorem d_MO_readNumber_80 : decode b_MO_readNumber 80 = .ok (.aload_n 0, 1) := by decide +kernel
theorem d_MO_readNumber_81 : decode b_MO_readNumber 81 = .ok (.getfield 171, 3) := by decide +kernel
theorem d_MO_readNumber_84 : decode b_MO_readNumber 84 = .ok (.aload_n 0, 1) := by decide +kernel
theorem d_MO_readNumber_85 : decode b_MO_readNumber 85 = .ok (.getfield 185, 3) := by decide +kernel
theorem d_MO_readNumber_88 : decode b_MO_readNumber 88 = .ok (.isub, 1) := by decide +kernel
theorem d_MO_readNumber_89 : decode b_MO_readNumber 89 = .ok (.bipush 6, 2) := by decide +kernel
theorem d_MO_readNumber_91 : decode b_MO_readNumber 91 = .ok (.if_icmp .le 7, 3) := by decide +kernel
theorem d_MO_readNumber_94 : decode b_MO_readNumber 94 = .ok (.iconst 5, 1) := by decide +kernel
theorem d_MO_readNumber_95 : decode b_MO_readNumber 95 = .ok (.goto 4, 3) := by decide +kernel
theorem d_MO_readNumber_98 : decode b_MO_readNumber 98 = .ok (.iconst 3, 1) := by decide +kernel
theorem d_MO_readNumber_99 : decode b_MO_readNumber 99 = .ok (.putfield 197, 3) := by decide +kernel
theorem d_MO_readNumber_102 : decode b_MO_readNumber 102 = .ok (.return_, 1) := by decide +kernel
def f_MO_readNumber_5 : Nat → XS → Option (XS)
  | 0, _ => none
  | n + 1, S =>
    (f_MO_see S (xgi S 0 7)).bind fun q2 => (f_MO_isDigit S q2).bind fun q4 => if q4 = 0 then (if ((xgi S 0 7) - (xgi S 0 6)) ≤ (6 : Int32) then (some (xpi S 0 8 (3 : Int32))) else (some (xpi S 0 8 (5 : Int32)))) else (if (6 : Int32) ≤ ((xgi S 0 7) - (xgi S 0 6)) then (f_MO_readNumber_5 n (xpi (xpl S 0 10 (xgl S 0 10)) 0 7 ((xgi (xpl S 0 10 (xgl S 0 10)) 0 7) + (1 : Int32)))) else ((f_MO_see S (xgi S 0 7)).bind fun q7 => f_MO_readNumber_5 n (xpi (xpl S 0 10 ((((10 : Int64) * (xgl S 0 10)) + q7.toInt64) - (48 : Int64))) 0 7 ((xgi (xpl S 0 10 ((((10 : Int64) * (xgl S 0 10)) + q7.toInt64) - (48 : Int64))) 0 7) + (1 : Int32)))))
set_option maxHeartbeats 4000000 in
set_option maxRecDepth 100000 in
theorem k_MO_readNumber_5 (l : Launch) {p : Program} {e : Env} {s : State} {m : MethodId} {args : Array Value} {below : List Frame} {meth : Method} {c : Code} {D : va_G} {lay : Nat → Nat} {cA : Nat → ClassId} (C : xB p s m args meth c R_MO b_MO_readNumber ((Option.none : Option Jvm.ClassFile.FieldType)) 1) (E : mE D lay cA s s.heap) : ∀ (n : Nat) (S : XS)  (r : XS) (_ : f_MO_readNumber_5 n S = some r) (H : Heap) (locs : List Loc) (ls : Array Slot), va_P D xcl (mw lay cA S) H → va_S (mI lay) s.heap H locs → lv_has ls 1 [(0, .ref (lay 0))] → W p l e rm_MO_readNumber s m args below meth c H locs 0 0 (MQ below (mqv D lay cA r) args s 0 0 (mI lay)) (F0 m 5 ls []) := by
  obtain ⟨hx, hb, hr, hml, hown, hts, hlk, hnh⟩ := id C
  have hK := E.K
  intro n
  induction n with
  | zero => intro S r h; rw [f_MO_readNumber_5] at h; cases h
  | succ n ih =>
    intro S r h H locs ls hP hS hl
    rw [f_MO_readNumber_5] at h
    refine lv_aload_n hx hb d_MO_readNumber_5 rfl (lv_at hl 0 rfl) ?_
    refine lv_aload_n hx hb d_MO_readNumber_6 rfl (lv_at hl 0 rfl) ?_
    refine va_get (v := .int (xgi S 0 7)) (C := R_MO) (T := F_MO) (N := 41) hx hb hts i_MO hown hK hP 0 (mw_at (by decide) (mc_0 _ _ _ _)) rfl 7 (by decide) (hts _ wd_707) (fun _ h9 => h9) rfl d_MO_readNumber_7 ?_
    obtain ⟨q2, e1, h⟩ := xb h
    refine mc_i (va_runV (As := [.int (xgi S 0 7)]) (rest := []) ⟨hx, hb, hml, hown, hts⟩ (c_MO_see l D lay cA S (xgi S 0 7) q2 e1) (cwV 1 hts (xT_V wd_845 wd_847 wp_22 wd_7 wd_848) rfl rfl rfl (by decide +kernel) ⟨Nat.le_of_ble_eq_true rfl, Nat.le_of_ble_eq_true rfl⟩) (mpV E hP hS (by decide) (mc_0 _ _ _ _) rfl) rfl rfl hl.1 rfl (lv_room (Nat.le_of_ble_eq_true rfl)) d_MO_readNumber_10 ⟨Nat.le_of_ble_eq_true rfl, Nat.le_of_ble_eq_true rfl⟩) hS (fun H locs hP hS => ?_)
    obtain ⟨q4, e3, h⟩ := xb h
    refine mc_i (va_runS (As := [.int q2]) (rest := []) ⟨hx, hb, hml, hown, hts⟩ (c_MO_isDigit l D lay cA S q2 q4 e3) ⟨callB_of 1 hts (xT_I wd_858) rfl rfl rfl (hts _ wd_7) (hts _ wd_856) (by decide +kernel) ⟨Nat.le_of_ble_eq_true rfl, Nat.le_of_ble_eq_true rfl⟩, hts _ wd_857⟩ (mpS E hP hS) rfl rfl hl.1 rfl (lv_room (Nat.le_of_ble_eq_true rfl)) d_MO_readNumber_13 ⟨Nat.le_of_ble_eq_true rfl, Nat.le_of_ble_eq_true rfl⟩) hS (fun H locs hP hS => ?_)
    refine lv_if_eq (tgt := 79) hx hb d_MO_readNumber_16 (by decide) (fun c_9 => ?_) (fun c_9 => ?_)
    · have h := xif_t c_9 h
      refine lv_aload_n hx hb d_MO_readNumber_79 rfl (lv_at hl 0 rfl) ?_
      refine lv_aload_n hx hb d_MO_readNumber_80 rfl (lv_at hl 0 rfl) ?_
      refine va_get (v := .int (xgi S 0 7)) (C := R_MO) (T := F_MO) (N := 41) hx hb hts i_MO hown hK hP 0 (mw_at (by decide) (mc_0 _ _ _ _)) rfl 7 (by decide) (hts _ wd_707) (fun _ h9 => h9) rfl d_MO_readNumber_81 ?_
      refine lv_aload_n hx hb d_MO_readNumber_84 rfl (lv_at hl 0 rfl) ?_
      refine va_get (v := .int (xgi S 0 6)) (C := R_MO) (T := F_MO) (N := 41) hx hb hts i_MO hown hK hP 0 (mw_at (by decide) (mc_0 _ _ _ _)) rfl 6 (by decide) (hts _ wd_706) (fun _ h9 => h9) rfl d_MO_readNumber_85 ?_
      refine lv_isub hx hb d_MO_readNumber_88 ?_
      refine lv_bipush (v := (6 : Int32)) hx hb d_MO_readNumber_89 (by decide) ?_
      refine lv_icmp_le (tgt := 98) hx hb d_MO_readNumber_91 (by decide) (fun c_5 => ?_) (fun c_5 => ?_)
      · have h := xif_t c_5 h
        refine lv_iconst (v := (3 : Int32)) hx hb d_MO_readNumber_98 (by decide) ?_
        refine mput_8 hx hb hts hown E hP hS (hts _ wd_708) d_MO_readNumber_99 (fun H locs hP hS => ?_)
        have h9 := Option.some.inj h
        subst h9
        exact W.vret hx hb hr (fun t ht hW => ⟨⟨(), rfl, trivial, by show va_P D xcl _ t.heap; rw [ht]; exact hP⟩, hS.F ht⟩) hS.2.2 d_MO_readNumber_102
      · have h := xif_f c_5 h
        refine lv_iconst (v := (5 : Int32)) hx hb d_MO_readNumber_94 (by decide) ?_
        refine lv_goto (tgt := 99) hx hb d_MO_readNumber_95 (by decide) ?_
        refine mput_8 hx hb hts hown E hP hS (hts _ wd_708) d_MO_readNumber_99 (fun H locs hP hS => ?_)
        have h9 := Option.some.inj h
        subst h9
        exact W.vret hx hb hr (fun t ht hW => ⟨⟨(), rfl, trivial, by show va_P D xcl _ t.heap; rw [ht]; exact hP⟩, hS.F ht⟩) hS.2.2 d_MO_readNumber_102
    · have h := xif_f c_9 h
      refine lv_aload_n hx hb d_MO_readNumber_19 rfl (lv_at hl 0 rfl) ?_
      refine lv_aload_n hx hb d_MO_readNumber_20 rfl (lv_at hl 0 rfl) ?_
      refine va_get (v := .int (xgi S 0 7)) (C := R_MO) (T := F_MO) (N := 41) hx hb hts i_MO hown hK hP 0 (mw_at (by decide) (mc_0 _ _ _ _)) rfl 7 (by decide) (hts _ wd_707) (fun _ h9 => h9) rfl d_MO_readNumber_21 ?_
      refine lv_aload_n hx hb d_MO_readNumber_24 rfl (lv_at hl 0 rfl) ?_
      refine va_get (v := .int (xgi S 0 6)) (C := R_MO) (T := F_MO) (N := 41) hx hb hts i_MO hown hK hP 0 (mw_at (by decide) (mc_0 _ _ _ _)) rfl 6 (by decide) (hts _ wd_706) (fun _ h9 => h9) rfl d_MO_readNumber_25 ?_
      refine lv_isub hx hb d_MO_readNumber_28 ?_
      refine lv_bipush (v := (6 : Int32)) hx hb d_MO_readNumber_29 (by decide) ?_
      refine lv_icmp_ge (tgt := 59) hx hb d_MO_readNumber_31 (by decide) (fun c_8 => ?_) (fun c_8 => ?_)
      · have h := xif_t c_8 h
        refine lv_aload_n hx hb d_MO_readNumber_59 rfl (lv_at hl 0 rfl) ?_
        refine va_get (v := .long (xgl S 0 10)) (C := R_MO) (T := F_MO) (N := 41) hx hb hts i_MO hown hK hP 0 (mw_at (by decide) (mc_0 _ _ _ _)) rfl 10 (by decide) (hts _ wd_710) (fun _ h9 => h9) rfl d_MO_readNumber_60 ?_
        refine mput_10 hx hb hts hown E hP hS (hts _ wd_710) d_MO_readNumber_63 (fun H locs hP hS => ?_)
        refine lv_aload_n hx hb d_MO_readNumber_66 rfl (lv_at hl 0 rfl) ?_
        refine lv_dup hx hb d_MO_readNumber_67 rfl ?_
        refine va_get (v := .int (xgi (xpl S 0 10 (xgl S 0 10)) 0 7)) (C := R_MO) (T := F_MO) (N := 41) hx hb hts i_MO hown hK hP 0 (mw_at (by decide) (mc_0 _ _ _ _)) rfl 7 (by decide) (hts _ wd_707) (fun _ h9 => h9) rfl d_MO_readNumber_68 ?_
        refine lv_iconst (v := (1 : Int32)) hx hb d_MO_readNumber_71 (by decide) ?_
        refine lv_iadd hx hb d_MO_readNumber_72 ?_
        refine mput_7 hx hb hts hown E hP hS (hts _ wd_707) d_MO_readNumber_73 (fun H locs hP hS => ?_)
        refine lv_goto (tgt := 5) hx hb d_MO_readNumber_76 (by decide) ?_
        exact ih (xpi (xpl S 0 10 (xgl S 0 10)) 0 7 ((xgi (xpl S 0 10 (xgl S 0 10)) 0 7) + (1 : Int32)))  _ h H locs ls hP hS hl
      · have h := xif_f c_8 h
        refine lv_ldc2 (v := (10 : Int64)) hx hb hown (hts _ wd_868) d_MO_readNumber_34 ?_
        refine lv_aload_n hx hb d_MO_readNumber_37 rfl (lv_at hl 0 rfl) ?_
        refine va_get (v := .long (xgl S 0 10)) (C := R_MO) (T := F_MO) (N := 41) hx hb hts i_MO hown hK hP 0 (mw_at (by decide) (mc_0 _ _ _ _)) rfl 10 (by decide) (hts _ wd_710) (fun _ h9 => h9) rfl d_MO_readNumber_38 ?_
        refine lv_lmul hx hb d_MO_readNumber_41 ?_
        refine lv_aload_n hx hb d_MO_readNumber_42 rfl (lv_at hl 0 rfl) ?_
        refine lv_aload_n hx hb d_MO_readNumber_43 rfl (lv_at hl 0 rfl) ?_
        refine va_get (v := .int (xgi S 0 7)) (C := R_MO) (T := F_MO) (N := 41) hx hb hts i_MO hown hK hP 0 (mw_at (by decide) (mc_0 _ _ _ _)) rfl 7 (by decide) (hts _ wd_707) (fun _ h9 => h9) rfl d_MO_readNumber_44 ?_
        obtain ⟨q7, e6, h⟩ := xb h
        refine mc_i (va_runV (As := [.int (xgi S 0 7)]) (rest := [.long ((10 : Int64) * (xgl S 0 10)), .ref (lay 0)]) ⟨hx, hb, hml, hown, hts⟩ (c_MO_see l D lay cA S (xgi S 0 7) q7 e6) (cwV 1 hts (xT_V wd_845 wd_847 wp_22 wd_7 wd_848) rfl rfl rfl (by decide +kernel) ⟨Nat.le_of_ble_eq_true rfl, Nat.le_of_ble_eq_true rfl⟩) (mpV E hP hS (by decide) (mc_0 _ _ _ _) rfl) rfl rfl hl.1 rfl (lv_room (Nat.le_of_ble_eq_true rfl)) d_MO_readNumber_47 ⟨Nat.le_of_ble_eq_true rfl, Nat.le_of_ble_eq_true rfl⟩) hS (fun H locs hP hS => ?_)
        refine lv_i2l (v := q7.toInt64) hx hb d_MO_readNumber_50 rfl ?_
        refine lv_ladd hx hb d_MO_readNumber_51 ?_
        refine lv_ldc2 (v := (48 : Int64)) hx hb hown (hts _ wd_869) d_MO_readNumber_52 ?_
        refine lv_lsub hx hb d_MO_readNumber_55 ?_
        refine lv_goto (tgt := 63) hx hb d_MO_readNumber_56 (by decide) ?_
        refine mput_10 hx hb hts hown E hP hS (hts _ wd_710) d_MO_readNumber_63 (fun H locs hP hS => ?_)
        refine lv_aload_n hx hb d_MO_readNumber_66 rfl (lv_at hl 0 rfl) ?_
        refine lv_dup hx hb d_MO_readNumber_67 rfl ?_
        refine va_get (v := .int (xgi (xpl S 0 10 ((((10 : Int64) * (xgl S 0 10)) + q7.toInt64) - (48 : Int64))) 0 7)) (C := R_MO) (T := F_MO) (N := 41) hx hb hts i_MO hown hK hP 0 (mw_at (by decide) (mc_0 _ _ _ _)) rfl 7 (by decide) (hts _ wd_707) (fun _ h9 => h9) rfl d_MO_readNumber_68 ?_
        refine lv_iconst (v := (1 : Int32)) hx hb d_MO_readNumber_71 (by decide) ?_
        refine lv_iadd hx hb d_MO_readNumber_72 ?_
        refine mput_7 hx hb hts hown E hP hS (hts _ wd_707) d_MO_readNumber_73 (fun H locs hP hS => ?_)
        refine lv_goto (tgt := 5) hx hb d_MO_readNumber_76 (by decide) ?_
        exact ih (xpi (xpl S 0 10 ((((10 : Int64) * (xgl S 0 10)) + q7.toInt64) - (48 : Int64))) 0 7 ((xgi (xpl S 0 10 ((((10 : Int64) * (xgl S 0 10)) + q7.toInt64) - (48 : Int64))) 0 7) + (1 : Int32)))  _ h H locs ls hP hS hl
def f_MO_readNumber (S : XS)  : Option (XS) :=
  f_MO_readNumber_5 4096 (xpl S 0 10 (0 : Int64))
set_option maxHeartbeats 4000000 in
set_option maxRecDepth 100000 in
theorem k_MO_readNumber (l : Launch) {p : Program} {e : Env} {s : State} {m : MethodId} {args : Array Value} {below : List Frame} {meth : Method} {c : Code} {D : va_G} {lay : Nat → Nat} {cA : Nat → ClassId} (C : xB p s m args meth c R_MO b_MO_readNumber ((Option.none : Option Jvm.ClassFile.FieldType)) 1) (E : mE D lay cA s s.heap) : ∀ (S : XS)  (r : XS) (_ : f_MO_readNumber S = some r) (H : Heap) (locs : List Loc) (ls : Array Slot), va_P D xcl (mw lay cA S) H → va_S (mI lay) s.heap H locs → lv_has ls 1 [(0, .ref (lay 0))] → W p l e rm_MO_readNumber s m args below meth c H locs 0 0 (MQ below (mqv D lay cA r) args s 0 0 (mI lay)) (F0 m 0 ls []) := by
  obtain ⟨hx, hb, hr, hml, hown, hts, hlk, hnh⟩ := id C
  have hK := E.K
  intro S r h H locs ls hP hS hl
  unfold f_MO_readNumber at h
  refine lv_aload_n hx hb d_MO_readNumber_0 rfl (lv_at hl 0 rfl) ?_
  refine lv_lconst (v := (0 : Int64)) hx hb d_MO_readNumber_1 (by decide) ?_
  refine mput_10 hx hb hts hown E hP hS (hts _ wd_710) d_MO_readNumber_2 (fun H locs hP hS => ?_)
  exact k_MO_readNumber_5 l C E 4096 (xpl S 0 10 (0 : Int64))  _ h H locs ls hP hS hl
theorem c_MO_readNumber (l : Launch) (D : va_G) (lay : Nat → Nat) (cA : Nat → ClassId) (S : XS)  (r : XS) (h : f_MO_readNumber S  = some r) : Met l y_MO_readNumber (.code y_MO_readNumber b_MO_readNumber 1 ((Option.none : Option Jvm.ClassFile.FieldType)) :: xT) rm_MO_readNumber (mPc D lay cA S [.ref (lay 0)]) (mqv D lay cA r) 0 0 (mI lay) := by
  refine Met.ofW (cc := b_MO_readNumber) (maxL := 1) (ret := (Option.none : Option Jvm.ClassFile.FieldType)) (by decide +kernel) rfl ?_
  intro p e s m args below meth c s₁ B hml hv
  obtain ⟨rfl, hP, E⟩ := hv
  have C := xB_of B hml
  have hl := lv_entry ([.ref (lay 0)]) (n := 1) (Nat.le_of_ble_eq_true rfl)
  rw [lg_entry_eq]
  generalize (lg_sl ([.ref (lay 0)]) ++ List.replicate (1 - (lg_sl ([.ref (lay 0)])).length) Slot.unset).toArray = ls at hl ⊢
  exact k_MO_readNumber l C E S  r h s.heap [] ls hP va_S.rf hl
/-! ConfigTextsModel.next()V -/
def rm_MO_next : Room := { frames := 2, cells := 0, slots := 0, locals := 44 }
theorem d_MO_next_0 : decode b_MO_next 0 = .ok (.aload_n 0, 1) := by decide +kernel
theorem d_MO_next_1 : decode b_MO_next 1 = .ok (.aload_n 0, 1) := by decide +kernel
theorem d_MO_next_2 : decode b_MO_next 2 = .ok (.getfield 171, 3) := by decide +kernel
theorem d_MO_next_5 : decode b_MO_next 5 = .ok (.invokevirtual 174, 3) := by decide +kernel
theorem d_MO_next_8 : decode b_MO_next 8 = .ok (.bipush 32, 2) := by decide +kernel
theorem d_MO_next_10 : decode b_MO_next 10 = .ok (.if_icmp .eq 16, 3) := by decide +kernel
theorem d_MO_next_13 : decode b_MO_next 13 = .ok (.aload_n 0, 1) := by decide +kernel
theorem d_MO_next_14 : decode b_MO_next 14 = .ok (.aload_n 0, 1) := by decide +kernel
theorem d_MO_next_15 : decode b_MO_next 15 = .ok (.getfield 171, 3) := by decide +kernel
theorem d_MO_next_18 : decode b_MO_next 18 = .ok (.invokevirtual 174, 3) := by decide +kernel
theorem d_MO_next_21 : decode b_MO_next 21 = .ok (.bipush 10, 2) := by decide +kernel
theorem d_MO_next_23 : decode b_MO_next 23 = .ok (.if_icmp .ne 16, 3) := by decide +kernel
theorem d_MO_next_26 : decode b_MO_next 26 = .ok (.aload_n 0, 1) := by decide +kernel
theorem d_MO_next_27 : decode b_MO_next 27 = .ok (.dup, 1) := by decide +kernel
theorem d_MO_next_28 : decode b_MO_next 28 = .ok (.getfield 171, 3) := by decide +kernel
theorem d_MO_next_31 : decode b_MO_next 31 = .ok (.iconst 1, 1) := by decide +kernel
theorem d_MO_next_32 : decode b_MO_next 32 = .ok (.iadd, 1) := by decide +kernel
theorem d_MO_next_33 : decode b_MO_next 33 = .ok (.putfield 171, 3) := by decide +kernel
theorem d_MO_next_36 : decode b_MO_next 36 = .ok (.goto (-36), 3) := by decide +kernel
theorem d_MO_next_39 : decode b_MO_next 39 = .ok (.aload_n 0, 1) := by decide +kernel
theorem d_MO_next_40 : decode b_MO_next 40 = .ok (.aload_n 0, 1) := by decide +kernel
theorem d_MO_next_41 : decode b_MO_next 41 = .ok (.getfield 171, 3) := by decide +kernel
theorem d_MO_next_44 : decode b_MO_next 44 = .ok (.putfield 185, 3) := by decide +kernel
theorem d_MO_next_47 : decode b_MO_next 47 = .ok (.aload_n 0, 1) := by decide +kernel
theorem d_MO_next_48 : decode b_MO_next 48 = .ok (.aload_n 0, 1) := by decide +kernel
theorem d_MO_next_49 : decode b_MO_next 49 = .ok (.getfield 185, 3) := by decide +kernel
theorem d_MO_next_52 : decode b_MO_next 52 = .ok (.invokevirtual 174, 3) := by decide +kernel
theorem d_MO_next_55 : decode b_MO_next 55 = .ok (.istore_n 1, 1) := by decide +kernel
theorem d_MO_next_56 : decode b_MO_next 56 = .ok (.aload_n 0, 1) := by decide +kernel
theorem d_MO_next_57 : decode b_MO_next 57 = .ok (.iconst (-1), 1) := by decide +kernel
theorem d_MO_next_58 : decode b_MO_next 58 = .ok (.putfield 194, 3) := by decide +kernel
theorem d_MO_next_61 : decode b_MO_next 61 = .ok (.iload_n 1, 1) := by decide +kernel
theorem d_MO_next_62 : decode b_MO_next 62 = .ok (.iconst (-1), 1) := by decide +kernel
theorem d_MO_next_63 : decode b_MO_next 63 = .ok (.if_icmp .ne 11, 3) := by decide +kernel
theorem d_MO_next_66 : decode b_MO_next 66 = .ok (.aload_n 0, 1) := by decide +kernel
theorem d_MO_next_67 : decode b_MO_next 67 = .ok (.iconst 0, 1) := by decide +kernel
theorem d_MO_next_68 : decode b_MO_next 68 = .ok (.putfield 197, 3) := by decide +kernel
theorem d_MO_next_71 : decode b_MO_next 71 = .ok (.goto 98, 3) := by decide +kernel
theorem d_MO_next_74 : decode b_MO_next 74 = .ok (.iload_n 1, 1) := by decide +kernel
theorem d_MO_next_75 : decode b_MO_next 75 = .ok (.invokestatic 178, 3) := by decide +kernel
theorem d_MO_next_78 : decode b_MO_next 78 = .ok (.ifCond .eq 10, 3) := by decide +kernel
theorem d_MO_next_81 : decode b_MO_next 81 = .ok (.aload_n 0, 1) := by decide +kernel
theorem d_MO_next_82 : decode b_MO_next 82 = .ok (.invokevirtual 204, 3) := by decide +kernel
theorem d_MO_next_85 : decode b_MO_next 85 = .ok (.goto 84, 3) := by decide +kernel
theorem d_MO_next_88 : decode b_MO_next 88 = .ok (.iload_n 1, 1) := by decide +kernel
theorem d_MO_next_89 : decode b_MO_next 89 = .ok (.invokestatic 182, 3) := by decide +kernel
theorem d_MO_next_92 : decode b_MO_next 92 = .ok (.ifCond .eq 10, 3) := by decide +kernel
theorem d_MO_next_95 : decode b_MO_next 95 = .ok (.aload_n 0, 1) := by decide +kernel
theorem d_MO_next_96 : decode b_MO_next 96 = .ok (.invokevirtual 207, 3) := by decide +kernel
theorem d_MO_next_99 : decode b_MO_next 99 = .ok (.goto 70, 3) := by decide +kernel
theorem d_MO_next_102 : decode b_MO_next 102 = .ok (.aload_n 0, 1) := by decide +kernel
theorem d_MO_next_103 : decode b_MO_next 103 = .ok (.dup, 1) := by decide +kernel
theorem d_MO_next_104 : decode b_MO_next 104 = .ok (.getfield 171, 3) := by decide +kernel
theorem d_MO_next_107 : decode b_MO_next 107 = .ok (.iconst 1, 1) := by decide +kernel
theorem d_MO_next_108 : decode b_MO_next 108 = .ok (.iadd, 1) := by decide +kernel
theorem d_MO_next_109 : decode b_MO_next 109 = .ok (.putfield 171, 3) := by decide +kernel
theorem d_MO_next_112 : decode b_MO_next 112 = .ok (.aload_n 0, 1) := by decide +kernel
theorem d_MO_next_113 : decode b_MO_next 113 = .ok (.iload_n 1, 1) := by decide +kernel
theorem d_MO_next_114 : decode b_MO_next 114 = .ok (.i2l, 1) := by decide +kernel
theorem d_MO_next_115 : decode b_MO_next 115 = .ok (.putfield 167, 3) := by decide +kernel
theorem d_MO_next_118 : decode b_MO_next 118 = .ok (.aload_n 0, 1) := by decide +kernel
theorem d_MO_next_119 : decode b_MO_next 119 = .ok (.iload_n 1, 1) := by decide +kernel
theorem d_MO_next_120 : decode b_MO_next 120 = .ok (.bipush 123, 2) := by decide +kernel
theorem d_MO_next_122 : decode b_MO_next 122 = .ok (.if_icmp .eq 39, 3) := by decide +kernel
theorem d_MO_next_125 : decode b_MO_next 125 = .ok (.iload_n 1, 1) := by decide +kernel
theorem d_MO_next_126 : decode b_MO_next 126 = .ok (.bipush 125, 2) := by decide +kernel
theorem d_MO_next_128 : decode b_MO_next 128 = .ok (.if_icmp .eq 33, 3) := by decide +kernel
theorem d_MO_next_131 : decode b_MO_next 131 = .ok (.iload_n 1, 1) := by decide +kernel
theorem d_MO_next_132 : decode b_MO_next 132 = .ok (.bipush 59, 2) := by decide +kernel
theorem d_MO_next_134 : decode b_MO_next 134 = .ok (.if_icmp .eq 27, 3) := by decide +kernel
theorem d_MO_next_137 : decode b_MO_next 137 = .ok (.iload_n 1, 1) := by decide +kernel
theorem d_MO_next_138 : decode b_MO_next 138 = .ok (.bipush 58, 2) := by decide +kernel
theorem d_MO_next_140 : decode b_MO_next 140 = .ok (.if_icmp .eq 21, 3) := by decide +kernel
theorem d_MO_next_143 : decode b_MO_next 143 = .ok (.iload_n 1, 1) := by decide +kernel
theorem d_MO_next_144 : decode b_MO_next 144 = .ok (.bipush 46, 2) := by decide +kernel
theorem d_MO_next_146 : decode b_MO_next 146 = .ok (.if_icmp .eq 15, 3) := by decide +kernel
theorem d_MO_next_149 : decode b_MO_next 149 = .ok (.iload_n 1, 1) := by decide +kernel
theorem d_MO_next_150 : decode b_MO_next 150 = .ok (.bipush 44, 2) := by decide +kernel
theorem d_MO_next_152 : decode b_MO_next 152 = .ok (.if_icmp .eq 9, 3) := by decide +kernel
theorem d_MO_next_155 : decode b_MO_next 155 = .ok (.iload_n 1, 1) := by decide +kernel
theorem d_MO_next_156 : decode b_MO_next 156 = .ok (.bipush 62, 2) := by decide +kernel
theorem d_MO_next_158 : decode b_MO_next 158 = .ok (.if_icmp .ne 7, 3) := by decide +kernel
theorem d_MO_next_161 : decode b_MO_next 161 = .ok (.iconst 4, 1) := by decide +kernel
theorem d_MO_next_162 : decode b_MO_next 162 = .ok (.goto 4, 3) := by decide +kernel
theorem d_MO_next_165 : decode b_MO_next 165 = .ok (.iconst 5, 1) := by decide +kernel
theorem d_MO_next_166 : decode b_MO_next 166 = .ok (.putfield 197, 3) := by decide +kernel
theorem d_MO_next_169 : decode b_MO_next 169 = .ok (.return_, 1) := by decide +kernel
def f_MO_next_0 : Nat → XS → Option (XS)
  | 0, _ => none
  | n + 1, S =>
    (f_MO_see S (xgi S 0 7)).bind fun q2 => if q2 = (32 : Int32) then (f_MO_next_0 n (xpi S 0 7 ((xgi S 0 7) + (1 : Int32)))) else ((f_MO_see S (xgi S 0 7)).bind fun q4 => if q4 = (10 : Int32) then (f_MO_next_0 n (xpi S 0 7 ((xgi S 0 7) + (1 : Int32)))) else ((f_MO_see (xpi S 0 6 (xgi S 0 7)) (xgi (xpi S 0 6 (xgi S 0 7)) 0 6)).bind fun q6 => if q6 = (-1 : Int32) then (some (xpi (xpi (xpi S 0 6 (xgi S 0 7)) 0 9 (-1 : Int32)) 0 8 (0 : Int32))) else ((f_MO_isLetter (xpi (xpi S 0 6 (xgi S 0 7)) 0 9 (-1 : Int32)) q6).bind fun q8 => if q8 = 0 then ((f_MO_isDigit (xpi (xpi S 0 6 (xgi S 0 7)) 0 9 (-1 : Int32)) q6).bind fun q10 => if q10 = 0 then (if q6 = (123 : Int32) then (some (xpi (xpl (xpi (xpi (xpi S 0 6 (xgi S 0 7)) 0 9 (-1 : Int32)) 0 7 ((xgi (xpi (xpi S 0 6 (xgi S 0 7)) 0 9 (-1 : Int32)) 0 7) + (1 : Int32))) 0 10 q6.toInt64) 0 8 (4 : Int32))) else (if q6 = (125 : Int32) then (some (xpi (xpl (xpi (xpi (xpi S 0 6 (xgi S 0 7)) 0 9 (-1 : Int32)) 0 7 ((xgi (xpi (xpi S 0 6 (xgi S 0 7)) 0 9 (-1 : Int32)) 0 7) + (1 : Int32))) 0 10 q6.toInt64) 0 8 (4 : Int32))) else (if q6 = (59 : Int32) then (some (xpi (xpl (xpi (xpi (xpi S 0 6 (xgi S 0 7)) 0 9 (-1 : Int32)) 0 7 ((xgi (xpi (xpi S 0 6 (xgi S 0 7)) 0 9 (-1 : Int32)) 0 7) + (1 : Int32))) 0 10 q6.toInt64) 0 8 (4 : Int32))) else (if q6 = (58 : Int32) then (some (xpi (xpl (xpi (xpi (xpi S 0 6 (xgi S 0 7)) 0 9 (-1 : Int32)) 0 7 ((xgi (xpi (xpi S 0 6 (xgi S 0 7)) 0 9 (-1 : Int32)) 0 7) + (1 : Int32))) 0 10 q6.toInt64) 0 8 (4 : Int32))) else (if q6 = (46 : Int32) then (some (xpi (xpl (xpi (xpi (xpi S 0 6 (xgi S 0 7)) 0 9 (-1 : Int32)) 0 7 ((xgi (xpi (xpi S 0 6 (xgi S 0 7)) 0 9 (-1 : Int32)) 0 7) + (1 : Int32))) 0 10 q6.toInt64) 0 8 (4 : Int32))) else (if q6 = (44 : Int32) then (some (xpi (xpl (xpi (xpi (xpi S 0 6 (xgi S 0 7)) 0 9 (-1 : Int32)) 0 7 ((xgi (xpi (xpi S 0 6 (xgi S 0 7)) 0 9 (-1 : Int32)) 0 7) + (1 : Int32))) 0 10 q6.toInt64) 0 8 (4 : Int32))) else (if q6 = (62 : Int32) then (some (xpi (xpl (xpi (xpi (xpi S 0 6 (xgi S 0 7)) 0 9 (-1 : Int32)) 0 7 ((xgi (xpi (xpi S 0 6 (xgi S 0 7)) 0 9 (-1 : Int32)) 0 7) + (1 : Int32))) 0 10 q6.toInt64) 0 8 (4 : Int32))) else (some (xpi (xpl (xpi (xpi (xpi S 0 6 (xgi S 0 7)) 0 9 (-1 : Int32)) 0 7 ((xgi (xpi (xpi S 0 6 (xgi S 0 7)) 0 9 (-1 : Int32)) 0 7) + (1 : Int32))) 0 10 q6.toInt64) 0 8 (5 : Int32)))))))))) else ((f_MO_readNumber (xpi (xpi S 0 6 (xgi S 0 7)) 0 9 (-1 : Int32))).bind fun q19 => some q19)) else ((f_MO_readName (xpi (xpi S 0 6 (xgi S 0 7)) 0 9 (-1 : Int32))).bind fun q22 => some q22))))
set_option maxHeartbeats 4000000 in
set_option maxRecDepth 100000 in
theorem k_MO_next_0 (l : Launch) {p : Program} {e : Env} {s : State} {m : MethodId} {args : Array Value} {below : List Frame} {meth : Method} {c : Code} {D : va_G} {lay : Nat → Nat} {cA : Nat → ClassId} (C : xB p s m args meth c R_MO b_MO_next ((Option.none : Option Jvm.ClassFile.FieldType)) 2) (E : mE D lay cA s s.heap) : ∀ (n : Nat) (S : XS)  (r : XS) (_ : f_MO_next_0 n S = some r) (H : Heap) (locs : List Loc) (ls : Array Slot), va_P D xcl (mw lay cA S) H → va_S (mI lay) s.heap H locs → lv_has ls 2 [(0, .ref (lay 0))] → W p l e rm_MO_next s m args below meth c H locs 0 0 (MQ below (mqv D lay cA r) args s 0 0 (mI lay)) (F0 m 0 ls []) := by
  obtain ⟨hx, hb, hr, hml, hown, hts, hlk, hnh⟩ := id C
  have hK := E.K
  intro n
  induction n with
  | zero => intro S r h; rw [f_MO_next_0] at h; cases h
  | succ n ih =>
    intro S r h H locs ls hP hS hl
    rw [f_MO_next_0] at h
    refine lv_aload_n hx hb d_MO_next_0 rfl (lv_at hl 0 rfl) ?_
    refine lv_aload_n hx hb d_MO_next_1 rfl (lv_at hl 0 rfl) ?_
    refine va_get (v := .int (xgi S 0 7)) (C := R_MO) (T := F_MO) (N := 41) hx hb hts i_MO hown hK hP 0 (mw_at (by decide) (mc_0 _ _ _ _)) rfl 7 (by decide) (hts _ wd_707) (fun _ h9 => h9) rfl d_MO_next_2 ?_
    obtain ⟨q2, e1, h⟩ := xb h
    refine mc_i (va_runV (As := [.int (xgi S 0 7)]) (rest := []) ⟨hx, hb, hml, hown, hts⟩ (c_MO_see l D lay cA S (xgi S 0 7) q2 e1) (cwV 1 hts (xT_V wd_845 wd_847 wp_22 wd_7 wd_848) rfl rfl rfl (by decide +kernel) ⟨Nat.le_of_ble_eq_true rfl, Nat.le_of_ble_eq_true rfl⟩) (mpV E hP hS (by decide) (mc_0 _ _ _ _) rfl) rfl rfl hl.1 rfl (lv_room (Nat.le_of_ble_eq_true rfl)) d_MO_next_5 ⟨Nat.le_of_ble_eq_true rfl, Nat.le_of_ble_eq_true rfl⟩) hS (fun H locs hP hS => ?_)
    refine lv_bipush (v := (32 : Int32)) hx hb d_MO_next_8 (by decide) ?_
    refine lv_icmp_eq (tgt := 26) hx hb d_MO_next_10 (by decide) (fun c_26 => ?_) (fun c_26 => ?_)
    · have h := xif_t c_26 h
      refine lv_aload_n hx hb d_MO_next_26 rfl (lv_at hl 0 rfl) ?_
      refine lv_dup hx hb d_MO_next_27 rfl ?_
      refine va_get (v := .int (xgi S 0 7)) (C := R_MO) (T := F_MO) (N := 41) hx hb hts i_MO hown hK hP 0 (mw_at (by decide) (mc_0 _ _ _ _)) rfl 7 (by decide) (hts _ wd_707) (fun _ h9 => h9) rfl d_MO_next_28 ?_
      refine lv_iconst (v := (1 : Int32)) hx hb d_MO_next_31 (by decide) ?_
      refine lv_iadd hx hb d_MO_next_32 ?_
      refine mput_7 hx hb hts hown E hP hS (hts _ wd_707) d_MO_next_33 (fun H locs hP hS => ?_)
      refine lv_goto (tgt := 0) hx hb d_MO_next_36 (by decide) ?_
      exact ih (xpi S 0 7 ((xgi S 0 7) + (1 : Int32)))  _ h H locs ls hP hS hl
    · have h := xif_f c_26 h
      refine lv_aload_n hx hb d_MO_next_13 rfl (lv_at hl 0 rfl) ?_
      refine lv_aload_n hx hb d_MO_next_14 rfl (lv_at hl 0 rfl) ?_
      refine va_get (v := .int (xgi S 0 7)) (C := R_MO) (T := F_MO) (N := 41) hx hb hts i_MO hown hK hP 0 (mw_at (by decide) (mc_0 _ _ _ _)) rfl 7 (by decide) (hts _ wd_707) (fun _ h9 => h9) rfl d_MO_next_15 ?_
      obtain ⟨q4, e3, h⟩ := xb h
      refine mc_i (va_runV (As := [.int (xgi S 0 7)]) (rest := []) ⟨hx, hb, hml, hown, hts⟩ (c_MO_see l D lay cA S (xgi S 0 7) q4 e3) (cwV 1 hts (xT_V wd_845 wd_847 wp_22 wd_7 wd_848) rfl rfl rfl (by decide +kernel) ⟨Nat.le_of_ble_eq_true rfl, Nat.le_of_ble_eq_true rfl⟩) (mpV E hP hS (by decide) (mc_0 _ _ _ _) rfl) rfl rfl hl.1 rfl (lv_room (Nat.le_of_ble_eq_true rfl)) d_MO_next_18 ⟨Nat.le_of_ble_eq_true rfl, Nat.le_of_ble_eq_true rfl⟩) hS (fun H locs hP hS => ?_)
      refine lv_bipush (v := (10 : Int32)) hx hb d_MO_next_21 (by decide) ?_
      refine lv_icmp_ne (tgt := 39) hx hb d_MO_next_23 (by decide) (fun c_25 => ?_) (fun c_25 => ?_)
      · have h := xif_f c_25 h
        refine lv_aload_n hx hb d_MO_next_39 rfl (lv_at hl 0 rfl) ?_
        refine lv_aload_n hx hb d_MO_next_40 rfl (lv_at hl 0 rfl) ?_
        refine va_get (v := .int (xgi S 0 7)) (C := R_MO) (T := F_MO) (N := 41) hx hb hts i_MO hown hK hP 0 (mw_at (by decide) (mc_0 _ _ _ _)) rfl 7 (by decide) (hts _ wd_707) (fun _ h9 => h9) rfl d_MO_next_41 ?_
        refine mput_6 hx hb hts hown E hP hS (hts _ wd_706) d_MO_next_44 (fun H locs hP hS => ?_)
        refine lv_aload_n hx hb d_MO_next_47 rfl (lv_at hl 0 rfl) ?_
        refine lv_aload_n hx hb d_MO_next_48 rfl (lv_at hl 0 rfl) ?_
        refine va_get (v := .int (xgi (xpi S 0 6 (xgi S 0 7)) 0 6)) (C := R_MO) (T := F_MO) (N := 41) hx hb hts i_MO hown hK hP 0 (mw_at (by decide) (mc_0 _ _ _ _)) rfl 6 (by decide) (hts _ wd_706) (fun _ h9 => h9) rfl d_MO_next_49 ?_
        obtain ⟨q6, e5, h⟩ := xb h
        refine mc_i (va_runV (As := [.int (xgi (xpi S 0 6 (xgi S 0 7)) 0 6)]) (rest := []) ⟨hx, hb, hml, hown, hts⟩ (c_MO_see l D lay cA (xpi S 0 6 (xgi S 0 7)) (xgi (xpi S 0 6 (xgi S 0 7)) 0 6) q6 e5) (cwV 1 hts (xT_V wd_845 wd_847 wp_22 wd_7 wd_848) rfl rfl rfl (by decide +kernel) ⟨Nat.le_of_ble_eq_true rfl, Nat.le_of_ble_eq_true rfl⟩) (mpV E hP hS (by decide) (mc_0 _ _ _ _) rfl) rfl rfl hl.1 rfl (lv_room (Nat.le_of_ble_eq_true rfl)) d_MO_next_52 ⟨Nat.le_of_ble_eq_true rfl, Nat.le_of_ble_eq_true rfl⟩) hS (fun H locs hP hS => ?_)
        refine lv_istore_n (lv' := [(1, .int q6), (0, .ref (lay 0))]) hx hb d_MO_next_55 rfl hl (by decide) rfl (fun ls hl => ?_)
        refine lv_aload_n hx hb d_MO_next_56 rfl (lv_at hl 1 rfl) ?_
        refine lv_iconst (v := (-1 : Int32)) hx hb d_MO_next_57 (by decide) ?_
        refine mput_9 hx hb hts hown E hP hS (hts _ wd_709) d_MO_next_58 (fun H locs hP hS => ?_)
        refine lv_iload_n hx hb d_MO_next_61 rfl (lv_at hl 0 rfl) ?_
        refine lv_iconst (v := (-1 : Int32)) hx hb d_MO_next_62 (by decide) ?_
        refine lv_icmp_ne (tgt := 74) hx hb d_MO_next_63 (by decide) (fun c_24 => ?_) (fun c_24 => ?_)
        · have h := xif_f c_24 h
          refine lv_iload_n hx hb d_MO_next_74 rfl (lv_at hl 0 rfl) ?_
          obtain ⟨q8, e7, h⟩ := xb h
          refine mc_i (va_runS (As := [.int q6]) (rest := []) ⟨hx, hb, hml, hown, hts⟩ (c_MO_isLetter l D lay cA (xpi (xpi S 0 6 (xgi S 0 7)) 0 9 (-1 : Int32)) q6 q8 e7) ⟨callB_of 1 hts (xT_I wd_851) rfl rfl rfl (hts _ wd_7) (hts _ wd_849) (by decide +kernel) ⟨Nat.le_of_ble_eq_true rfl, Nat.le_of_ble_eq_true rfl⟩, hts _ wd_850⟩ (mpS E hP hS) rfl rfl hl.1 rfl (lv_room (Nat.le_of_ble_eq_true rfl)) d_MO_next_75 ⟨Nat.le_of_ble_eq_true rfl, Nat.le_of_ble_eq_true rfl⟩) hS (fun H locs hP hS => ?_)
          refine lv_if_eq (tgt := 88) hx hb d_MO_next_78 (by decide) (fun c_23 => ?_) (fun c_23 => ?_)
          · have h := xif_t c_23 h
            refine lv_iload_n hx hb d_MO_next_88 rfl (lv_at hl 0 rfl) ?_
            obtain ⟨q10, e9, h⟩ := xb h
            refine mc_i (va_runS (As := [.int q6]) (rest := []) ⟨hx, hb, hml, hown, hts⟩ (c_MO_isDigit l D lay cA (xpi (xpi S 0 6 (xgi S 0 7)) 0 9 (-1 : Int32)) q6 q10 e9) ⟨callB_of 1 hts (xT_I wd_858) rfl rfl rfl (hts _ wd_7) (hts _ wd_856) (by decide +kernel) ⟨Nat.le_of_ble_eq_true rfl, Nat.le_of_ble_eq_true rfl⟩, hts _ wd_857⟩ (mpS E hP hS) rfl rfl hl.1 rfl (lv_room (Nat.le_of_ble_eq_true rfl)) d_MO_next_89 ⟨Nat.le_of_ble_eq_true rfl, Nat.le_of_ble_eq_true rfl⟩) hS (fun H locs hP hS => ?_)
            refine lv_if_eq (tgt := 102) hx hb d_MO_next_92 (by decide) (fun c_20 => ?_) (fun c_20 => ?_)
            · have h := xif_t c_20 h
              refine lv_aload_n hx hb d_MO_next_102 rfl (lv_at hl 1 rfl) ?_
              refine lv_dup hx hb d_MO_next_103 rfl ?_
              refine va_get (v := .int (xgi (xpi (xpi S 0 6 (xgi S 0 7)) 0 9 (-1 : Int32)) 0 7)) (C := R_MO) (T := F_MO) (N := 41) hx hb hts i_MO hown hK hP 0 (mw_at (by decide) (mc_0 _ _ _ _)) rfl 7 (by decide) (hts _ wd_707) (fun _ h9 => h9) rfl d_MO_next_104 ?_
              refine lv_iconst (v := (1 : Int32)) hx hb d_MO_next_107 (by decide) ?_
              refine lv_iadd hx hb d_MO_next_108 ?_
              refine mput_7 hx hb hts hown E hP hS (hts _ wd_707) d_MO_next_109 (fun H locs hP hS => ?_)
              refine lv_aload_n hx hb d_MO_next_112 rfl (lv_at hl 1 rfl) ?_
              refine lv_iload_n hx hb d_MO_next_113 rfl (lv_at hl 0 rfl) ?_
              refine lv_i2l (v := q6.toInt64) hx hb d_MO_next_114 rfl ?_
              refine mput_10 hx hb hts hown E hP hS (hts _ wd_710) d_MO_next_115 (fun H locs hP hS => ?_)
              refine lv_aload_n hx hb d_MO_next_118 rfl (lv_at hl 1 rfl) ?_
              refine lv_iload_n hx hb d_MO_next_119 rfl (lv_at hl 0 rfl) ?_
              refine lv_bipush (v := (123 : Int32)) hx hb d_MO_next_120 (by decide) ?_
              refine lv_icmp_eq (tgt := 161) hx hb d_MO_next_122 (by decide) (fun c_17 => ?_) (fun c_17 => ?_)
              · have h := xif_t c_17 h
                refine lv_iconst (v := (4 : Int32)) hx hb d_MO_next_161 (by decide) ?_
                refine lv_goto (tgt := 166) hx hb d_MO_next_162 (by decide) ?_
                refine mput_8 hx hb hts hown E hP hS (hts _ wd_708) d_MO_next_166 (fun H locs hP hS => ?_)
                have h9 := Option.some.inj h
                subst h9
                exact W.vret hx hb hr (fun t ht hW => ⟨⟨(), rfl, trivial, by show va_P D xcl _ t.heap; rw [ht]; exact hP⟩, hS.F ht⟩) hS.2.2 d_MO_next_169
              · have h := xif_f c_17 h
                refine lv_iload_n hx hb d_MO_next_125 rfl (lv_at hl 0 rfl) ?_
                refine lv_bipush (v := (125 : Int32)) hx hb d_MO_next_126 (by decide) ?_
                refine lv_icmp_eq (tgt := 161) hx hb d_MO_next_128 (by decide) (fun c_16 => ?_) (fun c_16 => ?_)
                · have h := xif_t c_16 h
                  refine lv_iconst (v := (4 : Int32)) hx hb d_MO_next_161 (by decide) ?_
                  refine lv_goto (tgt := 166) hx hb d_MO_next_162 (by decide) ?_
                  refine mput_8 hx hb hts hown E hP hS (hts _ wd_708) d_MO_next_166 (fun H locs hP hS => ?_)
                  have h9 := Option.some.inj h
                  subst h9
                  exact W.vret hx hb hr (fun t ht hW => ⟨⟨(), rfl, trivial, by show va_P D xcl _ t.heap; rw [ht]; exact hP⟩, hS.F ht⟩) hS.2.2 d_MO_next_169
                · have h := xif_f c_16 h
                  refine lv_iload_n hx hb d_MO_next_131 rfl (lv_at hl 0 rfl) ?_
                  refine lv_bipush (v := (59 : Int32)) hx hb d_MO_next_132 (by decide) ?_
                  refine lv_icmp_eq (tgt := 161) hx hb d_MO_next_134 (by decide) (fun c_15 => ?_) (fun c_15 => ?_)
                  · have h := xif_t c_15 h
                    refine lv_iconst (v := (4 : Int32)) hx hb d_MO_next_161 (by decide) ?_
                    refine lv_goto (tgt := 166) hx hb d_MO_next_162 (by decide) ?_
                    refine mput_8 hx hb hts hown E hP hS (hts _ wd_708) d_MO_next_166 (fun H locs hP hS => ?_)
                    have h9 := Option.some.inj h
                    subst h9
                    exact W.vret hx hb hr (fun t ht hW => ⟨⟨(), rfl, trivial, by show va_P D xcl _ t.heap; rw [ht]; exact hP⟩, hS.F ht⟩) hS.2.2 d_MO_next_169
                  · have h := xif_f c_15 h
                    refine lv_iload_n hx hb d_MO_next_137 rfl (lv_at hl 0 rfl) ?_
                    refine lv_bipush (v := (58 : Int32)) hx hb d_MO_next_138 (by decide) ?_
                    refine lv_icmp_eq (tgt := 161) hx hb d_MO_next_140 (by decide) (fun c_14 => ?_) (fun c_14 => ?_)
                    · have h := xif_t c_14 h
                      refine lv_iconst (v := (4 : Int32)) hx hb d_MO_next_161 (by decide) ?_
                      refine lv_goto (tgt := 166) hx hb d_MO_next_162 (by decide) ?_
                      refine mput_8 hx hb hts hown E hP hS (hts _ wd_708) d_MO_next_166 (fun H locs hP hS => ?_)
                      have h9 := Option.some.inj h
                      subst h9
                      exact W.vret hx hb hr (fun t ht hW => ⟨⟨(), rfl, trivial, by show va_P D xcl _ t.heap; rw [ht]; exact hP⟩, hS.F ht⟩) hS.2.2 d_MO_next_169
                    · have h := xif_f c_14 h
                      refine lv_iload_n hx hb d_MO_next_143 rfl (lv_at hl 0 rfl) ?_
                      refine lv_bipush (v := (46 : Int32)) hx hb d_MO_next_144 (by decide) ?_
                      refine lv_icmp_eq (tgt := 161) hx hb d_MO_next_146 (by decide) (fun c_13 => ?_) (fun c_13 => ?_)
                      · have h := xif_t c_13 h
                        refine lv_iconst (v := (4 : Int32)) hx hb d_MO_next_161 (by decide) ?_
                        refine lv_goto (tgt := 166) hx hb d_MO_next_162 (by decide) ?_
                        refine mput_8 hx hb hts hown E hP hS (hts _ wd_708) d_MO_next_166 (fun H locs hP hS => ?_)
                        have h9 := Option.some.inj h
                        subst h9
                        exact W.vret hx hb hr (fun t ht hW => ⟨⟨(), rfl, trivial, by show va_P D xcl _ t.heap; rw [ht]; exact hP⟩, hS.F ht⟩) hS.2.2 d_MO_next_169
                      · have h := xif_f c_13 h
                        refine lv_iload_n hx hb d_MO_next_149 rfl (lv_at hl 0 rfl) ?_
                        refine lv_bipush (v := (44 : Int32)) hx hb d_MO_next_150 (by decide) ?_
                        refine lv_icmp_eq (tgt := 161) hx hb d_MO_next_152 (by decide) (fun c_12 => ?_) (fun c_12 => ?_)
                        · have h := xif_t c_12 h
                          refine lv_iconst (v := (4 : Int32)) hx hb d_MO_next_161 (by decide) ?_
                          refine lv_goto (tgt := 166) hx hb d_MO_next_162 (by decide) ?_
                          refine mput_8 hx hb hts hown E hP hS (hts _ wd_708) d_MO_next_166 (fun H locs hP hS => ?_)
                          have h9 := Option.some.inj h
                          subst h9
                          exact W.vret hx hb hr (fun t ht hW => ⟨⟨(), rfl, trivial, by show va_P D xcl _ t.heap; rw [ht]; exact hP⟩, hS.F ht⟩) hS.2.2 d_MO_next_169
                        · have h := xif_f c_12 h
                          refine lv_iload_n hx hb d_MO_next_155 rfl (lv_at hl 0 rfl) ?_
                          refine lv_bipush (v := (62 : Int32)) hx hb d_MO_next_156 (by decide) ?_
                          refine lv_icmp_ne (tgt := 165) hx hb d_MO_next_158 (by decide) (fun c_11 => ?_) (fun c_11 => ?_)
                          · have h := xif_f c_11 h
                            refine lv_iconst (v := (5 : Int32)) hx hb d_MO_next_165 (by decide) ?_
                            refine mput_8 hx hb hts hown E hP hS (hts _ wd_708) d_MO_next_166 (fun H locs hP hS => ?_)
                            have h9 := Option.some.inj h
                            subst h9
                            exact W.vret hx hb hr (fun t ht hW => ⟨⟨(), rfl, trivial, by show va_P D xcl _ t.heap; rw [ht]; exact hP⟩, hS.F ht⟩) hS.2.2 d_MO_next_169
                          · have h := xif_t c_11 h
                            refine lv_iconst (v := (4 : Int32)) hx hb d_MO_next_161 (by decide) ?_
                            refine lv_goto (tgt := 166) hx hb d_MO_next_162 (by decide) ?_
                            refine mput_8 hx hb hts hown E hP hS (hts _ wd_708) d_MO_next_166 (fun H locs hP hS => ?_)
                            have h9 := Option.some.inj h
                            subst h9
                            exact W.vret hx hb hr (fun t ht hW => ⟨⟨(), rfl, trivial, by show va_P D xcl _ t.heap; rw [ht]; exact hP⟩, hS.F ht⟩) hS.2.2 d_MO_next_169
            · have h := xif_f c_20 h
              refine lv_aload_n hx hb d_MO_next_95 rfl (lv_at hl 1 rfl) ?_
              obtain ⟨q19, e18, h⟩ := xb h
              refine mc_v (va_runV (As := []) (rest := []) ⟨hx, hb, hml, hown, hts⟩ (c_MO_readNumber l D lay cA (xpi (xpi S 0 6 (xgi S 0 7)) 0 9 (-1 : Int32)) q19 e18) (cwV 0 hts (xT_V wd_864 wd_866 wp_25 wd_7 wd_867) rfl rfl rfl (by decide +kernel) ⟨Nat.le_of_ble_eq_true rfl, Nat.le_of_ble_eq_true rfl⟩) (mpV E hP hS (by decide) (mc_0 _ _ _ _) rfl) rfl rfl hl.1 rfl (lv_room (Nat.le_of_ble_eq_true rfl)) d_MO_next_96 ⟨Nat.le_of_ble_eq_true rfl, Nat.le_of_ble_eq_true rfl⟩) hS (fun H locs hP hS => ?_)
              refine lv_goto (tgt := 169) hx hb d_MO_next_99 (by decide) ?_
              have h9 := Option.some.inj h
              subst h9
              exact W.vret hx hb hr (fun t ht hW => ⟨⟨(), rfl, trivial, by show va_P D xcl _ t.heap; rw [ht]; exact hP⟩, hS.F ht⟩) hS.2.2 d_MO_next_169
          · have h := xif_f c_23 h
            refine lv_aload_n hx hb d_MO_next_81 rfl (lv_at hl 1 rfl) ?_
            obtain ⟨q22, e21, h⟩ := xb h
            refine mc_v (va_runV (As := []) (rest := []) ⟨hx, hb, hml, hown, hts⟩ (c_MO_readName l D lay cA (xpi (xpi S 0 6 (xgi S 0 7)) 0 9 (-1 : Int32)) q22 e21) (cwV 0 hts (xT_V wd_852 wd_854 wp_23 wd_7 wd_855) rfl rfl rfl (by decide +kernel) ⟨Nat.le_of_ble_eq_true rfl, Nat.le_of_ble_eq_true rfl⟩) (mpV E hP hS (by decide) (mc_0 _ _ _ _) rfl) rfl rfl hl.1 rfl (lv_room (Nat.le_of_ble_eq_true rfl)) d_MO_next_82 ⟨Nat.le_of_ble_eq_true rfl, Nat.le_of_ble_eq_true rfl⟩) hS (fun H locs hP hS => ?_)
            refine lv_goto (tgt := 169) hx hb d_MO_next_85 (by decide) ?_
            have h9 := Option.some.inj h
            subst h9
            exact W.vret hx hb hr (fun t ht hW => ⟨⟨(), rfl, trivial, by show va_P D xcl _ t.heap; rw [ht]; exact hP⟩, hS.F ht⟩) hS.2.2 d_MO_next_169
        · have h := xif_t c_24 h
          refine lv_aload_n hx hb d_MO_next_66 rfl (lv_at hl 1 rfl) ?_
          refine lv_iconst (v := (0 : Int32)) hx hb d_MO_next_67 (by decide) ?_
          refine mput_8 hx hb hts hown E hP hS (hts _ wd_708) d_MO_next_68 (fun H locs hP hS => ?_)
          refine lv_goto (tgt := 169) hx hb d_MO_next_71 (by decide) ?_
          have h9 := Option.some.inj h
          subst h9
          exact W.vret hx hb hr (fun t ht hW => ⟨⟨(), rfl, trivial, by show va_P D xcl _ t.heap; rw [ht]; exact hP⟩, hS.F ht⟩) hS.2.2 d_MO_next_169
      · have h := xif_t c_25 h
        refine lv_aload_n hx hb d_MO_next_26 rfl (lv_at hl 0 rfl) ?_
        refine lv_dup hx hb d_MO_next_27 rfl ?_
        refine va_get (v := .int (xgi S 0 7)) (C := R_MO) (T := F_MO) (N := 41) hx hb hts i_MO hown hK hP 0 (mw_at (by decide) (mc_0 _ _ _ _)) rfl 7 (by decide) (hts _ wd_707) (fun _ h9 => h9) rfl d_MO_next_28 ?_
        refine lv_iconst (v := (1 : Int32)) hx hb d_MO_next_31 (by decide) ?_
        refine lv_iadd hx hb d_MO_next_32 ?_
        refine mput_7 hx hb hts hown E hP hS (hts _ wd_707) d_MO_next_33 (fun H locs hP hS => ?_)
        refine lv_goto (tgt := 0) hx hb d_MO_next_36 (by decide) ?_
        exact ih (xpi S 0 7 ((xgi S 0 7) + (1 : Int32)))  _ h H locs ls hP hS hl
def f_MO_next (S : XS)  : Option (XS) := f_MO_next_0 4096 S 
theorem c_MO_next (l : Launch) (D : va_G) (lay : Nat → Nat) (cA : Nat → ClassId) (S : XS)  (r : XS) (h : f_MO_next S  = some r) : Met l y_MO_next (.code y_MO_next b_MO_next 2 ((Option.none : Option Jvm.ClassFile.FieldType)) :: xT) rm_MO_next (mPc D lay cA S [.ref (lay 0)]) (mqv D lay cA r) 0 0 (mI lay) := by
  refine Met.ofW (cc := b_MO_next) (maxL := 2) (ret := (Option.none : Option Jvm.ClassFile.FieldType)) (by decide +kernel) rfl ?_
  intro p e s m args below meth c s₁ B hml hv
  obtain ⟨rfl, hP, E⟩ := hv
  have C := xB_of B hml
  have hl := lv_entry ([.ref (lay 0)]) (n := 2) (Nat.le_of_ble_eq_true rfl)
  rw [lg_entry_eq]
  generalize (lg_sl ([.ref (lay 0)]) ++ List.replicate (2 - (lg_sl ([.ref (lay 0)])).length) Slot.unset).toArray = ls at hl ⊢
  unfold f_MO_next at h
  exact k_MO_next_0 l C E 4096 S  r h s.heap [] ls hP va_S.rf hl
/-! ConfigTextsModel.bad(I)V -/
def rm_MO_bad : Room := { frames := 1, cells := 0, slots := 0, locals := 22 }
theorem d_MO_bad_0 : decode b_MO_bad 0 = .ok (.aload_n 0, 1) := by decide +kernel
theorem d_MO_bad_1 : decode b_MO_bad 1 = .ok (.aload_n 0, 1) := by decide +kernel
theorem d_MO_bad_2 : decode b_MO_bad 2 = .ok (.getfield 197, 3) := by decide +kernel
theorem d_MO_bad_5 : decode b_MO_bad 5 = .ok (.iconst 5, 1) := by decide +kernel
theorem d_MO_bad_6 : decode b_MO_bad 6 = .ok (.if_icmp .ne 7, 3) := by decide +kernel
theorem d_MO_bad_9 : decode b_MO_bad 9 = .ok (.iconst 2, 1) := by decide +kernel
theorem d_MO_bad_10 : decode b_MO_bad 10 = .ok (.goto 4, 3) := by decide +kernel
theorem d_MO_bad_13 : decode b_MO_bad 13 = .ok (.iload_n 1, 1) := by decide +kernel
theorem d_MO_bad_14 : decode b_MO_bad 14 = .ok (.aload_n 0, 1) := by decide +kernel
theorem d_MO_bad_15 : decode b_MO_bad 15 = .ok (.getfield 185, 3) := by decide +kernel
theorem d_MO_bad_18 : decode b_MO_bad 18 = .ok (.invokevirtual 210, 3) := by decide +kernel
theorem d_MO_bad_21 : decode b_MO_bad 21 = .ok (.return_, 1) := by decide +kernel
def f_MO_bad (S : XS) (a1 : Int32) : Option (XS) :=
  if (xgi S 0 8) = (5 : Int32) then ((f_MO_fail S (2 : Int32) (xgi S 0 6)).bind fun q4 => some q4) else ((f_MO_fail S a1 (xgi S 0 6)).bind fun q2 => some q2)
set_option maxHeartbeats 4000000 in
set_option maxRecDepth 100000 in
theorem k_MO_bad (l : Launch) {p : Program} {e : Env} {s : State} {m : MethodId} {args : Array Value} {below : List Frame} {meth : Method} {c : Code} {D : va_G} {lay : Nat → Nat} {cA : Nat → ClassId} (C : xB p s m args meth c R_MO b_MO_bad ((Option.none : Option Jvm.ClassFile.FieldType)) 2) (E : mE D lay cA s s.heap) : ∀ (S : XS) (a1 : Int32) (r : XS) (_ : f_MO_bad S a1 = some r) (H : Heap) (locs : List Loc) (ls : Array Slot), va_P D xcl (mw lay cA S) H → va_S (mI lay) s.heap H locs → lv_has ls 2 [(0, .ref (lay 0)), (1, .int a1)] → W p l e rm_MO_bad s m args below meth c H locs 0 0 (MQ below (mqv D lay cA r) args s 0 0 (mI lay)) (F0 m 0 ls []) := by
  obtain ⟨hx, hb, hr, hml, hown, hts, hlk, hnh⟩ := id C
  have hK := E.K
  intro S a1 r h H locs ls hP hS hl
  unfold f_MO_bad at h
  refine lv_aload_n hx hb d_MO_bad_0 rfl (lv_at hl 0 rfl) ?_
  refine lv_aload_n hx hb d_MO_bad_1 rfl (lv_at hl 0 rfl) ?_
  refine va_get (v := .int (xgi S 0 8)) (C := R_MO) (T := F_MO) (N := 41) hx hb hts i_MO hown hK hP 0 (mw_at (by decide) (mc_0 _ _ _ _)) rfl 8 (by decide) (hts _ wd_708) (fun _ h9 => h9) rfl d_MO_bad_2 ?_
  refine lv_iconst (v := (5 : Int32)) hx hb d_MO_bad_5 (by decide) ?_
  refine lv_icmp_ne (tgt := 13) hx hb d_MO_bad_6 (by decide) (fun c_5 => ?_) (fun c_5 => ?_)
  · have h := xif_f c_5 h
    refine lv_iload_n hx hb d_MO_bad_13 rfl (lv_at hl 1 rfl) ?_
    refine lv_aload_n hx hb d_MO_bad_14 rfl (lv_at hl 0 rfl) ?_
    refine va_get (v := .int (xgi S 0 6)) (C := R_MO) (T := F_MO) (N := 41) hx hb hts i_MO hown hK hP 0 (mw_at (by decide) (mc_0 _ _ _ _)) rfl 6 (by decide) (hts _ wd_706) (fun _ h9 => h9) rfl d_MO_bad_15 ?_
    obtain ⟨q2, e1, h⟩ := xb h
    refine mc_v (va_runV (As := [.int a1, .int (xgi S 0 6)]) (rest := []) ⟨hx, hb, hml, hown, hts⟩ (c_MO_fail l D lay cA S a1 (xgi S 0 6) q2 e1) (cwV 2 hts (xT_V wd_890 wd_892 wp_31 wd_7 wd_893) rfl rfl rfl (by decide +kernel) ⟨Nat.le_of_ble_eq_true rfl, Nat.le_of_ble_eq_true rfl⟩) (mpV E hP hS (by decide) (mc_0 _ _ _ _) rfl) rfl rfl hl.1 rfl (lv_room (Nat.le_of_ble_eq_true rfl)) d_MO_bad_18 ⟨Nat.le_of_ble_eq_true rfl, Nat.le_of_ble_eq_true rfl⟩) hS (fun H locs hP hS => ?_)
    have h9 := Option.some.inj h
    subst h9
    exact W.vret hx hb hr (fun t ht hW => ⟨⟨(), rfl, trivial, by show va_P D xcl _ t.heap; rw [ht]; exact hP⟩, hS.F ht⟩) hS.2.2 d_MO_bad_21
  · have h := xif_t c_5 h
    refine lv_iconst (v := (2 : Int32)) hx hb d_MO_bad_9 (by decide) ?_
    refine lv_goto (tgt := 14) hx hb d_MO_bad_10 (by decide) ?_
    refine lv_aload_n hx hb d_MO_bad_14 rfl (lv_at hl 0 rfl) ?_
    refine va_get (v := .int (xgi S 0 6)) (C := R_MO) (T := F_MO) (N := 41) hx hb hts i_MO hown hK hP 0 (mw_at (by decide) (mc_0 _ _ _ _)) rfl 6 (by decide) (hts _ wd_706) (fun _ h9 => h9) rfl d_MO_bad_15 ?_
    obtain ⟨q4, e3, h⟩ := xb h
    refine mc_v (va_runV (As := [.int (2 : Int32), .int (xgi S 0 6)]) (rest := []) ⟨hx, hb, hml, hown, hts⟩ (c_MO_fail l D lay cA S (2 : Int32) (xgi S 0 6) q4 e3) (cwV 2 hts (xT_V wd_890 wd_892 wp_31 wd_7 wd_893) rfl rfl rfl (by decide +kernel) ⟨Nat.le_of_ble_eq_true rfl, Nat.le_of_ble_eq_true rfl⟩) (mpV E hP hS (by decide) (mc_0 _ _ _ _) rfl) rfl rfl hl.1 rfl (lv_room (Nat.le_of_ble_eq_true rfl)) d_MO_bad_18 ⟨Nat.le_of_ble_eq_true rfl, Nat.le_of_ble_eq_true rfl⟩) hS (fun H locs hP hS => ?_)
    have h9 := Option.some.inj h
    subst h9
    exact W.vret hx hb hr (fun t ht hW => ⟨⟨(), rfl, trivial, by show va_P D xcl _ t.heap; rw [ht]; exact hP⟩, hS.F ht⟩) hS.2.2 d_MO_bad_21
theorem c_MO_bad (l : Launch) (D : va_G) (lay : Nat → Nat) (cA : Nat → ClassId) (S : XS) (a1 : Int32) (r : XS) (h : f_MO_bad S a1 = some r) : Met l y_MO_bad (.code y_MO_bad b_MO_bad 2 ((Option.none : Option Jvm.ClassFile.FieldType)) :: xT) rm_MO_bad (mPc D lay cA S [.ref (lay 0), .int a1]) (mqv D lay cA r) 0 0 (mI lay) := by
  refine Met.ofW (cc := b_MO_bad) (maxL := 2) (ret := (Option.none : Option Jvm.ClassFile.FieldType)) (by decide +kernel) rfl ?_
  intro p e s m args below meth c s₁ B hml hv
  obtain ⟨rfl, hP, E⟩ := hv
  have C := xB_of B hml
  have hl := lv_entry ([.ref (lay 0), .int a1]) (n := 2) (Nat.le_of_ble_eq_true rfl)
  rw [lg_entry_eq]
  generalize (lg_sl ([.ref (lay 0), .int a1]) ++ List.replicate (2 - (lg_sl ([.ref (lay 0), .int a1])).length) Slot.unset).toArray = ls at hl ⊢
  exact k_MO_bad l C E S a1 r h s.heap [] ls hP va_S.rf hl
/-! ConfigTextsModel.isSign(I)Z -/
def rm_MO_isSign : Room := { frames := 1, cells := 0, slots := 0, locals := 20 }
theorem d_MO_isSign_0 : decode b_MO_isSign 0 = .ok (.aload_n 0, 1) := by decide +kernel
theorem d_MO_isSign_1 : decode b_MO_isSign 1 = .ok (.invokevirtual 214, 3) := by decide +kernel
theorem d_MO_isSign_4 : decode b_MO_isSign 4 = .ok (.ifCond .eq 25, 3) := by decide +kernel
theorem d_MO_isSign_7 : decode b_MO_isSign 7 = .ok (.aload_n 0, 1) := by decide +kernel
theorem d_MO_isSign_8 : decode b_MO_isSign 8 = .ok (.getfield 197, 3) := by decide +kernel
theorem d_MO_isSign_11 : decode b_MO_isSign 11 = .ok (.iconst 4, 1) := by decide +kernel
theorem d_MO_isSign_12 : decode b_MO_isSign 12 = .ok (.if_icmp .ne 17, 3) := by decide +kernel
theorem d_MO_isSign_15 : decode b_MO_isSign 15 = .ok (.aload_n 0, 1) := by decide +kernel
theorem d_MO_isSign_16 : decode b_MO_isSign 16 = .ok (.getfield 167, 3) := by decide +kernel
theorem d_MO_isSign_19 : decode b_MO_isSign 19 = .ok (.iload_n 1, 1) := by decide +kernel
theorem d_MO_isSign_20 : decode b_MO_isSign 20 = .ok (.i2l, 1) := by decide +kernel
theorem d_MO_isSign_21 : decode b_MO_isSign 21 = .ok (.lcmp, 1) := by decide +kernel
theorem d_MO_isSign_22 : decode b_MO_isSign 22 = .ok (.ifCond .ne 7, 3) := by decide +kernel
theorem d_MO_isSign_25 : decode b_MO_isSign 25 = .ok (.iconst 1, 1) := by decide +kernel
theorem d_MO_isSign_26 : decode b_MO_isSign 26 = .ok (.goto 4, 3) := by decide +kernel
theorem d_MO_isSign_29 : decode b_MO_isSign 29 = .ok (.iconst 0, 1) := by decide +kernel
theorem d_MO_isSign_30 : decode b_MO_isSign 30 = .ok (.ireturn, 1) := by decide +kernel
def f_MO_isSign (S : XS) (a1 : Int32) : Option (Int32) :=
  (f_MO_good S).bind fun q2 => if q2 = 0 then (some (0 : Int32)) else (if (xgi S 0 8) = (4 : Int32) then (if (lg_cmp (xgl S 0 10) a1.toInt64) = 0 then (some (1 : Int32)) else (some (0 : Int32))) else (some (0 : Int32)))
set_option maxHeartbeats 4000000 in
set_option maxRecDepth 100000 in
theorem k_MO_isSign (l : Launch) {p : Program} {e : Env} {s : State} {m : MethodId} {args : Array Value} {below : List Frame} {meth : Method} {c : Code} {D : va_G} {lay : Nat → Nat} {cA : Nat → ClassId} (C : xB p s m args meth c R_MO b_MO_isSign ((Option.some Jvm.ClassFile.FieldType.boolean)) 2) (E : mE D lay cA s s.heap) : ∀ (S : XS) (a1 : Int32) (r : Int32) (_ : f_MO_isSign S a1 = some r) (H : Heap) (locs : List Loc) (ls : Array Slot), va_P D xcl (mw lay cA S) H → va_S (mI lay) s.heap H locs → lv_has ls 2 [(0, .ref (lay 0)), (1, .int a1)] → W p l e rm_MO_isSign s m args below meth c H locs 0 0 (MQ below (mqi D lay cA r S) args s 0 0 (mI lay)) (F0 m 0 ls []) := by
  obtain ⟨hx, hb, hr, hml, hown, hts, hlk, hnh⟩ := id C
  have hK := E.K
  intro S a1 r h H locs ls hP hS hl
  unfold f_MO_isSign at h
  refine lv_aload_n hx hb d_MO_isSign_0 rfl (lv_at hl 0 rfl) ?_
  obtain ⟨q2, e1, h⟩ := xb h
  refine mc_i (va_runV (As := []) (rest := []) ⟨hx, hb, hml, hown, hts⟩ (c_MO_good l D lay cA S q2 e1) (cwV 0 hts (xT_V wd_882 wd_884 wp_29 wd_7 wd_885) rfl rfl rfl (by decide +kernel) ⟨Nat.le_of_ble_eq_true rfl, Nat.le_of_ble_eq_true rfl⟩) (mpV E hP hS (by decide) (mc_0 _ _ _ _) rfl) rfl rfl hl.1 rfl (lv_room (Nat.le_of_ble_eq_true rfl)) d_MO_isSign_1 ⟨Nat.le_of_ble_eq_true rfl, Nat.le_of_ble_eq_true rfl⟩) hS (fun H locs hP hS => ?_)
  refine lv_if_eq (tgt := 29) hx hb d_MO_isSign_4 (by decide) (fun c_5 => ?_) (fun c_5 => ?_)
  · have h := xif_t c_5 h
    refine lv_iconst (v := (0 : Int32)) hx hb d_MO_isSign_29 (by decide) ?_
    have h9 := Option.some.inj h
    subst h9
    exact W.zret (v := (0 : Int32)) hx hb hr (by decide) (fun t ht hW => ⟨⟨(0 : Int32), (), rfl, rfl, by show va_P D xcl _ t.heap; rw [ht]; exact hP⟩, hS.F ht⟩) hS.2.2 d_MO_isSign_30
  · have h := xif_f c_5 h
    refine lv_aload_n hx hb d_MO_isSign_7 rfl (lv_at hl 0 rfl) ?_
    refine va_get (v := .int (xgi S 0 8)) (C := R_MO) (T := F_MO) (N := 41) hx hb hts i_MO hown hK hP 0 (mw_at (by decide) (mc_0 _ _ _ _)) rfl 8 (by decide) (hts _ wd_708) (fun _ h9 => h9) rfl d_MO_isSign_8 ?_
    refine lv_iconst (v := (4 : Int32)) hx hb d_MO_isSign_11 (by decide) ?_
    refine lv_icmp_ne (tgt := 29) hx hb d_MO_isSign_12 (by decide) (fun c_4 => ?_) (fun c_4 => ?_)
    · have h := xif_f c_4 h
      refine lv_iconst (v := (0 : Int32)) hx hb d_MO_isSign_29 (by decide) ?_
      have h9 := Option.some.inj h
      subst h9
      exact W.zret (v := (0 : Int32)) hx hb hr (by decide) (fun t ht hW => ⟨⟨(0 : Int32), (), rfl, rfl, by show va_P D xcl _ t.heap; rw [ht]; exact hP⟩, hS.F ht⟩) hS.2.2 d_MO_isSign_30
    · have h := xif_t c_4 h
      refine lv_aload_n hx hb d_MO_isSign_15 rfl (lv_at hl 0 rfl) ?_
      refine va_get (v := .long (xgl S 0 10)) (C := R_MO) (T := F_MO) (N := 41) hx hb hts i_MO hown hK hP 0 (mw_at (by decide) (mc_0 _ _ _ _)) rfl 10 (by decide) (hts _ wd_710) (fun _ h9 => h9) rfl d_MO_isSign_16 ?_
      refine lv_iload_n hx hb d_MO_isSign_19 rfl (lv_at hl 1 rfl) ?_
      refine lv_i2l (v := a1.toInt64) hx hb d_MO_isSign_20 rfl ?_
      refine W.lcmp hx hb d_MO_isSign_21 ?_
      refine lv_if_ne (tgt := 29) hx hb d_MO_isSign_22 (by decide) (fun c_3 => ?_) (fun c_3 => ?_)
      · have h := xif_f c_3 h
        refine lv_iconst (v := (0 : Int32)) hx hb d_MO_isSign_29 (by decide) ?_
        have h9 := Option.some.inj h
        subst h9
        exact W.zret (v := (0 : Int32)) hx hb hr (by decide) (fun t ht hW => ⟨⟨(0 : Int32), (), rfl, rfl, by show va_P D xcl _ t.heap; rw [ht]; exact hP⟩, hS.F ht⟩) hS.2.2 d_MO_isSign_30
      · have h := xif_t c_3 h
        refine lv_iconst (v := (1 : Int32)) hx hb d_MO_isSign_25 (by decide) ?_
        refine lv_goto (tgt := 30) hx hb d_MO_isSign_26 (by decide) ?_
        have h9 := Option.some.inj h
        subst h9
        exact W.zret (v := (1 : Int32)) hx hb hr (by decide) (fun t ht hW => ⟨⟨(1 : Int32), (), rfl, rfl, by show va_P D xcl _ t.heap; rw [ht]; exact hP⟩, hS.F ht⟩) hS.2.2 d_MO_isSign_30
theorem c_MO_isSign (l : Launch) (D : va_G) (lay : Nat → Nat) (cA : Nat → ClassId) (S : XS) (a1 : Int32) (r : Int32) (h : f_MO_isSign S a1 = some r) : Met l y_MO_isSign (.code y_MO_isSign b_MO_isSign 2 ((Option.some Jvm.ClassFile.FieldType.boolean)) :: xT) rm_MO_isSign (mPc D lay cA S [.ref (lay 0), .int a1]) (mqi D lay cA r S) 0 0 (mI lay) := by
  refine Met.ofW (cc := b_MO_isSign) (maxL := 2) (ret := (Option.some Jvm.ClassFile.FieldType.boolean)) (by decide +kernel) rfl ?_
  intro p e s m args below meth c s₁ B hml hv
  obtain ⟨rfl, hP, E⟩ := hv
  have C := xB_of B hml
  have hl := lv_entry ([.ref (lay 0), .int a1]) (n := 2) (Nat.le_of_ble_eq_true rfl)
  rw [lg_entry_eq]
  generalize (lg_sl ([.ref (lay 0), .int a1]) ++ List.replicate (2 - (lg_sl ([.ref (lay 0), .int a1])).length) Slot.unset).toArray = ls at hl ⊢
  exact k_MO_isSign l C E S a1 r h s.heap [] ls hP va_S.rf hl
/-! ConfigTextsModel.isWord(I)Z -/
def rm_MO_isWord : Room := { frames := 1, cells := 0, slots := 0, locals := 20 }
theorem d_MO_isWord_0 : decode b_MO_isWord 0 = .ok (.aload_n 0, 1) := by decide +kernel
theorem d_MO_isWord_1 : decode b_MO_isWord 1 = .ok (.invokevirtual 214, 3) := by decide +kernel
theorem d_MO_isWord_4 : decode b_MO_isWord 4 = .ok (.ifCond .eq 23, 3) := by decide +kernel
theorem d_MO_isWord_7 : decode b_MO_isWord 7 = .ok (.aload_n 0, 1) := by decide +kernel
theorem d_MO_isWord_8 : decode b_MO_isWord 8 = .ok (.getfield 197, 3) := by decide +kernel
theorem d_MO_isWord_11 : decode b_MO_isWord 11 = .ok (.iconst 2, 1) := by decide +kernel
theorem d_MO_isWord_12 : decode b_MO_isWord 12 = .ok (.if_icmp .ne 15, 3) := by decide +kernel
theorem d_MO_isWord_15 : decode b_MO_isWord 15 = .ok (.aload_n 0, 1) := by decide +kernel
theorem d_MO_isWord_16 : decode b_MO_isWord 16 = .ok (.getfield 194, 3) := by decide +kernel
theorem d_MO_isWord_19 : decode b_MO_isWord 19 = .ok (.iload_n 1, 1) := by decide +kernel
theorem d_MO_isWord_20 : decode b_MO_isWord 20 = .ok (.if_icmp .ne 7, 3) := by decide +kernel
theorem d_MO_isWord_23 : decode b_MO_isWord 23 = .ok (.iconst 1, 1) := by decide +kernel
theorem d_MO_isWord_24 : decode b_MO_isWord 24 = .ok (.goto 4, 3) := by decide +kernel
theorem d_MO_isWord_27 : decode b_MO_isWord 27 = .ok (.iconst 0, 1) := by decide +kernel
theorem d_MO_isWord_28 : decode b_MO_isWord 28 = .ok (.ireturn, 1) := by decide +kernel
def f_MO_isWord (S : XS) (a1 : Int32) : Option (Int32) :=
  (f_MO_good S).bind fun q2 => if q2 = 0 then (some (0 : Int32)) else (if (xgi S 0 8) = (2 : Int32) then (if (xgi S 0 9) = a1 then (some (1 : Int32)) else (some (0 : Int32))) else (some (0 : Int32)))
set_option maxHeartbeats 4000000 in
set_option maxRecDepth 100000 in
theorem k_MO_isWord (l : Launch) {p : Program} {e : Env} {s : State} {m : MethodId} {args : Array Value} {below : List Frame} {meth : Method} {c : Code} {D : va_G} {lay : Nat → Nat} {cA : Nat → ClassId} (C : xB p s m args meth c R_MO b_MO_isWord ((Option.some Jvm.ClassFile.FieldType.boolean)) 2) (E : mE D lay cA s s.heap) : ∀ (S : XS) (a1 : Int32) (r : Int32) (_ : f_MO_isWord S a1 = some r) (H : Heap) (locs : List Loc) (ls : Array Slot), va_P D xcl (mw lay cA S) H → va_S (mI lay) s.heap H locs → lv_has ls 2 [(0, .ref (lay 0)), (1, .int a1)] → W p l e rm_MO_isWord s m args below meth c H locs 0 0 (MQ below (mqi D lay cA r S) args s 0 0 (mI lay)) (F0 m 0 ls []) := by
  obtain ⟨hx, hb, hr, hml, hown, hts, hlk, hnh⟩ := id C
  have hK := E.K
  intro S a1 r h H locs ls hP hS hl
  unfold f_MO_isWord at h
  refine lv_aload_n hx hb d_MO_isWord_0 rfl (lv_at hl 0 rfl) ?_
  obtain ⟨q2, e1, h⟩ := xb h
  refine mc_i (va_runV (As := []) (rest := []) ⟨hx, hb, hml, hown, hts⟩ (c_MO_good l D lay cA S q2 e1) (cwV 0 hts (xT_V wd_882 wd_884 wp_29 wd_7 wd_885) rfl rfl rfl (by decide +kernel) ⟨Nat.le_of_ble_eq_true rfl, Nat.le_of_ble_eq_true rfl⟩) (mpV E hP hS (by decide) (mc_0 _ _ _ _) rfl) rfl rfl hl.1 rfl (lv_room (Nat.le_of_ble_eq_true rfl)) d_MO_isWord_1 ⟨Nat.le_of_ble_eq_true rfl, Nat.le_of_ble_eq_true rfl⟩) hS (fun H locs hP hS => ?_)
  refine lv_if_eq (tgt := 27) hx hb d_MO_isWord_4 (by decide) (fun c_5 => ?_) (fun c_5 => ?_)
  · have h := xif_t c_5 h
    refine lv_iconst (v := (0 : Int32)) hx hb d_MO_isWord_27 (by decide) ?_
    have h9 := Option.some.inj h
    subst h9
    exact W.zret (v := (0 : Int32)) hx hb hr (by decide) (fun t ht hW => ⟨⟨(0 : Int32), (), rfl, rfl, by show va_P D xcl _ t.heap; rw [ht]; exact hP⟩, hS.F ht⟩) hS.2.2 d_MO_isWord_28
  · have h := xif_f c_5 h
    refine lv_aload_n hx hb d_MO_isWord_7 rfl (lv_at hl 0 rfl) ?_
    refine va_get (v := .int (xgi S 0 8)) (C := R_MO) (T := F_MO) (N := 41) hx hb hts i_MO hown hK hP 0 (mw_at (by decide) (mc_0 _ _ _ _)) rfl 8 (by decide) (hts _ wd_708) (fun _ h9 => h9) rfl d_MO_isWord_8 ?_
    refine lv_iconst (v := (2 : Int32)) hx hb d_MO_isWord_11 (by decide) ?_
    refine lv_icmp_ne (tgt := 27) hx hb d_MO_isWord_12 (by decide) (fun c_4 => ?_) (fun c_4 => ?_)
    · have h := xif_f c_4 h
      refine lv_iconst (v := (0 : Int32)) hx hb d_MO_isWord_27 (by decide) ?_
      have h9 := Option.some.inj h
      subst h9
      exact W.zret (v := (0 : Int32)) hx hb hr (by decide) (fun t ht hW => ⟨⟨(0 : Int32), (), rfl, rfl, by show va_P D xcl _ t.heap; rw [ht]; exact hP⟩, hS.F ht⟩) hS.2.2 d_MO_isWord_28
    · have h := xif_t c_4 h
      refine lv_aload_n hx hb d_MO_isWord_15 rfl (lv_at hl 0 rfl) ?_
      refine va_get (v := .int (xgi S 0 9)) (C := R_MO) (T := F_MO) (N := 41) hx hb hts i_MO hown hK hP 0 (mw_at (by decide) (mc_0 _ _ _ _)) rfl 9 (by decide) (hts _ wd_709) (fun _ h9 => h9) rfl d_MO_isWord_16 ?_
      refine lv_iload_n hx hb d_MO_isWord_19 rfl (lv_at hl 1 rfl) ?_
      refine lv_icmp_ne (tgt := 27) hx hb d_MO_isWord_20 (by decide) (fun c_3 => ?_) (fun c_3 => ?_)
      · have h := xif_f c_3 h
        refine lv_iconst (v := (0 : Int32)) hx hb d_MO_isWord_27 (by decide) ?_
        have h9 := Option.some.inj h
        subst h9
        exact W.zret (v := (0 : Int32)) hx hb hr (by decide) (fun t ht hW => ⟨⟨(0 : Int32), (), rfl, rfl, by show va_P D xcl _ t.heap; rw [ht]; exact hP⟩, hS.F ht⟩) hS.2.2 d_MO_isWord_28
      · have h := xif_t c_3 h
        refine lv_iconst (v := (1 : Int32)) hx hb d_MO_isWord_23 (by decide) ?_
        refine lv_goto (tgt := 28) hx hb d_MO_isWord_24 (by decide) ?_
        have h9 := Option.some.inj h
        subst h9
        exact W.zret (v := (1 : Int32)) hx hb hr (by decide) (fun t ht hW => ⟨⟨(1 : Int32), (), rfl, rfl, by show va_P D xcl _ t.heap; rw [ht]; exact hP⟩, hS.F ht⟩) hS.2.2 d_MO_isWord_28
theorem c_MO_isWord (l : Launch) (D : va_G) (lay : Nat → Nat) (cA : Nat → ClassId) (S : XS) (a1 : Int32) (r : Int32) (h : f_MO_isWord S a1 = some r) : Met l y_MO_isWord (.code y_MO_isWord b_MO_isWord 2 ((Option.some Jvm.ClassFile.FieldType.boolean)) :: xT) rm_MO_isWord (mPc D lay cA S [.ref (lay 0), .int a1]) (mqi D lay cA r S) 0 0 (mI lay) := by
  refine Met.ofW (cc := b_MO_isWord) (maxL := 2) (ret := (Option.some Jvm.ClassFile.FieldType.boolean)) (by decide +kernel) rfl ?_
  intro p e s m args below meth c s₁ B hml hv
  obtain ⟨rfl, hP, E⟩ := hv
  have C := xB_of B hml
  have hl := lv_entry ([.ref (lay 0), .int a1]) (n := 2) (Nat.le_of_ble_eq_true rfl)
  rw [lg_entry_eq]
  generalize (lg_sl ([.ref (lay 0), .int a1]) ++ List.replicate (2 - (lg_sl ([.ref (lay 0), .int a1])).length) Slot.unset).toArray = ls at hl ⊢
  exact k_MO_isWord l C E S a1 r h s.heap [] ls hP va_S.rf hl
/-! ConfigTextsModel.sign(I)V -/
def rm_MO_sign : Room := { frames := 3, cells := 0, slots := 0, locals := 65 }
theorem d_MO_sign_0 : decode b_MO_sign 0 = .ok (.aload_n 0, 1) := by decide +kernel
theorem d_MO_sign_1 : decode b_MO_sign 1 = .ok (.iload_n 1, 1) := by decide +kernel
theorem d_MO_sign_2 : decode b_MO_sign 2 = .ok (.invokevirtual 218, 3) := by decide +kernel
theorem d_MO_sign_5 : decode b_MO_sign 5 = .ok (.ifCond .ne 11, 3) := by decide +kernel
theorem d_MO_sign_8 : decode b_MO_sign 8 = .ok (.aload_n 0, 1) := by decide +kernel
theorem d_MO_sign_9 : decode b_MO_sign 9 = .ok (.iconst 1, 1) := by decide +kernel
theorem d_MO_sign_10 : decode b_MO_sign 10 = .ok (.invokevirtual 221, 3) := by decide +kernel
theorem d_MO_sign_13 : decode b_MO_sign 13 = .ok (.goto 7, 3) := by decide +kernel
theorem d_MO_sign_16 : decode b_MO_sign 16 = .ok (.aload_n 0, 1) := by decide +kernel
theorem d_MO_sign_17 : decode b_MO_sign 17 = .ok (.invokevirtual 225, 3) := by decide +kernel
theorem d_MO_sign_20 : decode b_MO_sign 20 = .ok (.return_, 1) := by decide +kernel
def f_MO_sign (S : XS) (a1 : Int32) : Option (XS) :=
  (f_MO_isSign S a1).bind fun q2 => if q2 = 0 then ((f_MO_bad S (1 : Int32)).bind fun q6 => some q6) else ((f_MO_next S).bind fun q4 => some q4)
set_option maxHeartbeats 4000000 in
set_option maxRecDepth 100000 in
theorem k_MO_sign (l : Launch) {p : Program} {e : Env} {s : State} {m : MethodId} {args : Array Value} {below : List Frame} {meth : Method} {c : Code} {D : va_G} {lay : Nat → Nat} {cA : Nat → ClassId} (C : xB p s m args meth c R_MO b_MO_sign ((Option.none : Option Jvm.ClassFile.FieldType)) 2) (E : mE D lay cA s s.heap) : ∀ (S : XS) (a1 : Int32) (r : XS) (_ : f_MO_sign S a1 = some r) (H : Heap) (locs : List Loc) (ls : Array Slot), va_P D xcl (mw lay cA S) H → va_S (mI lay) s.heap H locs → lv_has ls 2 [(0, .ref (lay 0)), (1, .int a1)] → W p l e rm_MO_sign s m args below meth c H locs 0 0 (MQ below (mqv D lay cA r) args s 0 0 (mI lay)) (F0 m 0 ls []) := by
  obtain ⟨hx, hb, hr, hml, hown, hts, hlk, hnh⟩ := id C
  have hK := E.K
  intro S a1 r h H locs ls hP hS hl
  unfold f_MO_sign at h
  refine lv_aload_n hx hb d_MO_sign_0 rfl (lv_at hl 0 rfl) ?_
  refine lv_iload_n hx hb d_MO_sign_1 rfl (lv_at hl 1 rfl) ?_
  obtain ⟨q2, e1, h⟩ := xb h
  refine mc_i (va_runV (As := [.int a1]) (rest := []) ⟨hx, hb, hml, hown, hts⟩ (c_MO_isSign l D lay cA S a1 q2 e1) (cwV 1 hts (xT_V wd_906 wd_908 wp_35 wd_7 wd_909) rfl rfl rfl (by decide +kernel) ⟨Nat.le_of_ble_eq_true rfl, Nat.le_of_ble_eq_true rfl⟩) (mpV E hP hS (by decide) (mc_0 _ _ _ _) rfl) rfl rfl hl.1 rfl (lv_room (Nat.le_of_ble_eq_true rfl)) d_MO_sign_2 ⟨Nat.le_of_ble_eq_true rfl, Nat.le_of_ble_eq_true rfl⟩) hS (fun H locs hP hS => ?_)
  refine lv_if_ne (tgt := 16) hx hb d_MO_sign_5 (by decide) (fun c_7 => ?_) (fun c_7 => ?_)
  · have h := xif_f c_7 h
    refine lv_aload_n hx hb d_MO_sign_16 rfl (lv_at hl 0 rfl) ?_
    obtain ⟨q4, e3, h⟩ := xb h
    refine mc_v (va_runV (As := []) (rest := []) ⟨hx, hb, hml, hown, hts⟩ (c_MO_next l D lay cA S q4 e3) (cwV 0 hts (xT_V wd_841 wd_843 wp_21 wd_7 wd_844) rfl rfl rfl (by decide +kernel) ⟨Nat.le_of_ble_eq_true rfl, Nat.le_of_ble_eq_true rfl⟩) (mpV E hP hS (by decide) (mc_0 _ _ _ _) rfl) rfl rfl hl.1 rfl (lv_room (Nat.le_of_ble_eq_true rfl)) d_MO_sign_17 ⟨Nat.le_of_ble_eq_true rfl, Nat.le_of_ble_eq_true rfl⟩) hS (fun H locs hP hS => ?_)
    have h9 := Option.some.inj h
    subst h9
    exact W.vret hx hb hr (fun t ht hW => ⟨⟨(), rfl, trivial, by show va_P D xcl _ t.heap; rw [ht]; exact hP⟩, hS.F ht⟩) hS.2.2 d_MO_sign_20
  · have h := xif_t c_7 h
    refine lv_aload_n hx hb d_MO_sign_8 rfl (lv_at hl 0 rfl) ?_
    refine lv_iconst (v := (1 : Int32)) hx hb d_MO_sign_9 (by decide) ?_
    obtain ⟨q6, e5, h⟩ := xb h
    refine mc_v (va_runV (As := [.int (1 : Int32)]) (rest := []) ⟨hx, hb, hml, hown, hts⟩ (c_MO_bad l D lay cA S (1 : Int32) q6 e5) (cwV 1 hts (xT_V wd_886 wd_888 wp_30 wd_7 wd_889) rfl rfl rfl (by decide +kernel) ⟨Nat.le_of_ble_eq_true rfl, Nat.le_of_ble_eq_true rfl⟩) (mpV E hP hS (by decide) (mc_0 _ _ _ _) rfl) rfl rfl hl.1 rfl (lv_room (Nat.le_of_ble_eq_true rfl)) d_MO_sign_10 ⟨Nat.le_of_ble_eq_true rfl, Nat.le_of_ble_eq_true rfl⟩) hS (fun H locs hP hS => ?_)
    refine lv_goto (tgt := 20) hx hb d_MO_sign_13 (by decide) ?_
    have h9 := Option.some.inj h
    subst h9
    exact W.vret hx hb hr (fun t ht hW => ⟨⟨(), rfl, trivial, by show va_P D xcl _ t.heap; rw [ht]; exact hP⟩, hS.F ht⟩) hS.2.2 d_MO_sign_20
theorem c_MO_sign (l : Launch) (D : va_G) (lay : Nat → Nat) (cA : Nat → ClassId) (S : XS) (a1 : Int32) (r : XS) (h : f_MO_sign S a1 = some r) : Met l y_MO_sign (.code y_MO_sign b_MO_sign 2 ((Option.none : Option Jvm.ClassFile.FieldType)) :: xT) rm_MO_sign (mPc D lay cA S [.ref (lay 0), .int a1]) (mqv D lay cA r) 0 0 (mI lay) := by
  refine Met.ofW (cc := b_MO_sign) (maxL := 2) (ret := (Option.none : Option Jvm.ClassFile.FieldType)) (by decide +kernel) rfl ?_
  intro p e s m args below meth c s₁ B hml hv
  obtain ⟨rfl, hP, E⟩ := hv
  have C := xB_of B hml
  have hl := lv_entry ([.ref (lay 0), .int a1]) (n := 2) (Nat.le_of_ble_eq_true rfl)
  rw [lg_entry_eq]
  generalize (lg_sl ([.ref (lay 0), .int a1]) ++ List.replicate (2 - (lg_sl ([.ref (lay 0), .int a1])).length) Slot.unset).toArray = ls at hl ⊢
  exact k_MO_sign l C E S a1 r h s.heap [] ls hP va_S.rf hl
/-! ConfigTextsModel.need(I)V -/
def rm_MO_need : Room := { frames := 3, cells := 0, slots := 0, locals := 65 }
theorem d_MO_need_0 : decode b_MO_need 0 = .ok (.aload_n 0, 1) := by decide +kernel
theorem d_MO_need_1 : decode b_MO_need 1 = .ok (.iload_n 1, 1) := by decide +kernel
theorem d_MO_need_2 : decode b_MO_need 2 = .ok (.invokevirtual 228, 3) := by decide +kernel
theorem d_MO_need_5 : decode b_MO_need 5 = .ok (.ifCond .ne 11, 3) := by decide +kernel
theorem d_MO_need_8 : decode b_MO_need 8 = .ok (.aload_n 0, 1) := by decide +kernel
theorem d_MO_need_9 : decode b_MO_need 9 = .ok (.iconst 1, 1) := by decide +kernel
theorem d_MO_need_10 : decode b_MO_need 10 = .ok (.invokevirtual 221, 3) := by decide +kernel
theorem d_MO_need_13 : decode b_MO_need 13 = .ok (.goto 7, 3) := by decide +kernel
theorem d_MO_need_16 : decode b_MO_need 16 = .ok (.aload_n 0, 1) := by decide +kernel
theorem d_MO_need_17 : decode b_MO_need 17 = .ok (.invokevirtual 225, 3) := by decide +kernel
theorem d_MO_need_20 : decode b_MO_need 20 = .ok (.return_, 1) := by decide +kernel
def f_MO_need (S : XS) (a1 : Int32) : Option (XS) :=
  (f_MO_isWord S a1).bind fun q2 => if q2 = 0 then ((f_MO_bad S (1 : Int32)).bind fun q6 => some q6) else ((f_MO_next S).bind fun q4 => some q4)
set_option maxHeartbeats 4000000 in
set_option maxRecDepth 100000 in
theorem k_MO_need (l : Launch) {p : Program} {e : Env} {s : State} {m : MethodId} {args : Array Value} {below : List Frame} {meth : Method} {c : Code} {D : va_G} {lay : Nat → Nat} {cA : Nat → ClassId} (C : xB p s m args meth c R_MO b_MO_need ((Option.none : Option Jvm.ClassFile.FieldType)) 2) (E : mE D lay cA s s.heap) : ∀ (S : XS) (a1 : Int32) (r : XS) (_ : f_MO_need S a1 = some r) (H : Heap) (locs : List Loc) (ls : Array Slot), va_P D xcl (mw lay cA S) H → va_S (mI lay) s.heap H locs → lv_has ls 2 [(0, .ref (lay 0)), (1, .int a1)] → W p l e rm_MO_need s m args below meth c H locs 0 0 (MQ below (mqv D lay cA r) args s 0 0 (mI lay)) (F0 m 0 ls []) := by
  obtain ⟨hx, hb, hr, hml, hown, hts, hlk, hnh⟩ := id C
  have hK := E.K
  intro S a1 r h H locs ls hP hS hl
  unfold f_MO_need at h
  refine lv_aload_n hx hb d_MO_need_0 rfl (lv_at hl 0 rfl) ?_
  refine lv_iload_n hx hb d_MO_need_1 rfl (lv_at hl 1 rfl) ?_
  obtain ⟨q2, e1, h⟩ := xb h
  refine mc_i (va_runV (As := [.int a1]) (rest := []) ⟨hx, hb, hml, hown, hts⟩ (c_MO_isWord l D lay cA S a1 q2 e1) (cwV 1 hts (xT_V wd_878 wd_880 wp_28 wd_7 wd_881) rfl rfl rfl (by decide +kernel) ⟨Nat.le_of_ble_eq_true rfl, Nat.le_of_ble_eq_true rfl⟩) (mpV E hP hS (by decide) (mc_0 _ _ _ _) rfl) rfl rfl hl.1 rfl (lv_room (Nat.le_of_ble_eq_true rfl)) d_MO_need_2 ⟨Nat.le_of_ble_eq_true rfl, Nat.le_of_ble_eq_true rfl⟩) hS (fun H locs hP hS => ?_)
  refine lv_if_ne (tgt := 16) hx hb d_MO_need_5 (by decide) (fun c_7 => ?_) (fun c_7 => ?_)
  · have h := xif_f c_7 h
    refine lv_aload_n hx hb d_MO_need_16 rfl (lv_at hl 0 rfl) ?_
    obtain ⟨q4, e3, h⟩ := xb h
    refine mc_v (va_runV (As := []) (rest := []) ⟨hx, hb, hml, hown, hts⟩ (c_MO_next l D lay cA S q4 e3) (cwV 0 hts (xT_V wd_841 wd_843 wp_21 wd_7 wd_844) rfl rfl rfl (by decide +kernel) ⟨Nat.le_of_ble_eq_true rfl, Nat.le_of_ble_eq_true rfl⟩) (mpV E hP hS (by decide) (mc_0 _ _ _ _) rfl) rfl rfl hl.1 rfl (lv_room (Nat.le_of_ble_eq_true rfl)) d_MO_need_17 ⟨Nat.le_of_ble_eq_true rfl, Nat.le_of_ble_eq_true rfl⟩) hS (fun H locs hP hS => ?_)
    have h9 := Option.some.inj h
    subst h9
    exact W.vret hx hb hr (fun t ht hW => ⟨⟨(), rfl, trivial, by show va_P D xcl _ t.heap; rw [ht]; exact hP⟩, hS.F ht⟩) hS.2.2 d_MO_need_20
  · have h := xif_t c_7 h
    refine lv_aload_n hx hb d_MO_need_8 rfl (lv_at hl 0 rfl) ?_
    refine lv_iconst (v := (1 : Int32)) hx hb d_MO_need_9 (by decide) ?_
    obtain ⟨q6, e5, h⟩ := xb h
    refine mc_v (va_runV (As := [.int (1 : Int32)]) (rest := []) ⟨hx, hb, hml, hown, hts⟩ (c_MO_bad l D lay cA S (1 : Int32) q6 e5) (cwV 1 hts (xT_V wd_886 wd_888 wp_30 wd_7 wd_889) rfl rfl rfl (by decide +kernel) ⟨Nat.le_of_ble_eq_true rfl, Nat.le_of_ble_eq_true rfl⟩) (mpV E hP hS (by decide) (mc_0 _ _ _ _) rfl) rfl rfl hl.1 rfl (lv_room (Nat.le_of_ble_eq_true rfl)) d_MO_need_10 ⟨Nat.le_of_ble_eq_true rfl, Nat.le_of_ble_eq_true rfl⟩) hS (fun H locs hP hS => ?_)
    refine lv_goto (tgt := 20) hx hb d_MO_need_13 (by decide) ?_
    have h9 := Option.some.inj h
    subst h9
    exact W.vret hx hb hr (fun t ht hW => ⟨⟨(), rfl, trivial, by show va_P D xcl _ t.heap; rw [ht]; exact hP⟩, hS.F ht⟩) hS.2.2 d_MO_need_20
theorem c_MO_need (l : Launch) (D : va_G) (lay : Nat → Nat) (cA : Nat → ClassId) (S : XS) (a1 : Int32) (r : XS) (h : f_MO_need S a1 = some r) : Met l y_MO_need (.code y_MO_need b_MO_need 2 ((Option.none : Option Jvm.ClassFile.FieldType)) :: xT) rm_MO_need (mPc D lay cA S [.ref (lay 0), .int a1]) (mqv D lay cA r) 0 0 (mI lay) := by
  refine Met.ofW (cc := b_MO_need) (maxL := 2) (ret := (Option.none : Option Jvm.ClassFile.FieldType)) (by decide +kernel) rfl ?_
  intro p e s m args below meth c s₁ B hml hv
  obtain ⟨rfl, hP, E⟩ := hv
  have C := xB_of B hml
  have hl := lv_entry ([.ref (lay 0), .int a1]) (n := 2) (Nat.le_of_ble_eq_true rfl)
  rw [lg_entry_eq]
  generalize (lg_sl ([.ref (lay 0), .int a1]) ++ List.replicate (2 - (lg_sl ([.ref (lay 0), .int a1])).length) Slot.unset).toArray = ls at hl ⊢
  exact k_MO_need l C E S a1 r h s.heap [] ls hP va_S.rf hl
/-! ConfigTextsModel.accept(I)Z -/
def rm_MO_accept : Room := { frames := 3, cells := 0, slots := 0, locals := 65 }
theorem d_MO_accept_0 : decode b_MO_accept 0 = .ok (.aload_n 0, 1) := by decide +kernel
theorem d_MO_accept_1 : decode b_MO_accept 1 = .ok (.iload_n 1, 1) := by decide +kernel
theorem d_MO_accept_2 : decode b_MO_accept 2 = .ok (.invokevirtual 228, 3) := by decide +kernel
theorem d_MO_accept_5 : decode b_MO_accept 5 = .ok (.istore_n 2, 1) := by decide +kernel
theorem d_MO_accept_6 : decode b_MO_accept 6 = .ok (.iload_n 2, 1) := by decide +kernel
theorem d_MO_accept_7 : decode b_MO_accept 7 = .ok (.ifCond .eq 7, 3) := by decide +kernel
theorem d_MO_accept_10 : decode b_MO_accept 10 = .ok (.aload_n 0, 1) := by decide +kernel
theorem d_MO_accept_11 : decode b_MO_accept 11 = .ok (.invokevirtual 225, 3) := by decide +kernel
theorem d_MO_accept_14 : decode b_MO_accept 14 = .ok (.iload_n 2, 1) := by decide +kernel
theorem d_MO_accept_15 : decode b_MO_accept 15 = .ok (.ireturn, 1) := by decide +kernel
def f_MO_accept (S : XS) (a1 : Int32) : Option (Int32 × XS) :=
  (f_MO_isWord S a1).bind fun q2 => if q2 = 0 then (if q2 = 0 ∨ q2 = 1 then (some (q2, S)) else none) else ((f_MO_next S).bind fun q5 => if q2 = 0 ∨ q2 = 1 then (some (q2, q5)) else none)
set_option maxHeartbeats 4000000 in
set_option maxRecDepth 100000 in
theorem k_MO_accept (l : Launch) {p : Program} {e : Env} {s : State} {m : MethodId} {args : Array Value} {below : List Frame} {meth : Method} {c : Code} {D : va_G} {lay : Nat → Nat} {cA : Nat → ClassId} (C : xB p s m args meth c R_MO b_MO_accept ((Option.some Jvm.ClassFile.FieldType.boolean)) 3) (E : mE D lay cA s s.heap) : ∀ (S : XS) (a1 : Int32) (r : Int32 × XS) (_ : f_MO_accept S a1 = some r) (H : Heap) (locs : List Loc) (ls : Array Slot), va_P D xcl (mw lay cA S) H → va_S (mI lay) s.heap H locs → lv_has ls 3 [(0, .ref (lay 0)), (1, .int a1)] → W p l e rm_MO_accept s m args below meth c H locs 0 0 (MQ below (mqi D lay cA r.1 r.2) args s 0 0 (mI lay)) (F0 m 0 ls []) := by
  obtain ⟨hx, hb, hr, hml, hown, hts, hlk, hnh⟩ := id C
  have hK := E.K
  intro S a1 r h H locs ls hP hS hl
  unfold f_MO_accept at h
  refine lv_aload_n hx hb d_MO_accept_0 rfl (lv_at hl 0 rfl) ?_
  refine lv_iload_n hx hb d_MO_accept_1 rfl (lv_at hl 1 rfl) ?_
  obtain ⟨q2, e1, h⟩ := xb h
  refine mc_i (va_runV (As := [.int a1]) (rest := []) ⟨hx, hb, hml, hown, hts⟩ (c_MO_isWord l D lay cA S a1 q2 e1) (cwV 1 hts (xT_V wd_878 wd_880 wp_28 wd_7 wd_881) rfl rfl rfl (by decide +kernel) ⟨Nat.le_of_ble_eq_true rfl, Nat.le_of_ble_eq_true rfl⟩) (mpV E hP hS (by decide) (mc_0 _ _ _ _) rfl) rfl rfl hl.1 rfl (lv_room (Nat.le_of_ble_eq_true rfl)) d_MO_accept_2 ⟨Nat.le_of_ble_eq_true rfl, Nat.le_of_ble_eq_true rfl⟩) hS (fun H locs hP hS => ?_)
  refine lv_istore_n (lv' := [(2, .int q2), (0, .ref (lay 0)), (1, .int a1)]) hx hb d_MO_accept_5 rfl hl (by decide) rfl (fun ls hl => ?_)
  refine lv_iload_n hx hb d_MO_accept_6 rfl (lv_at hl 0 rfl) ?_
  refine lv_if_eq (tgt := 14) hx hb d_MO_accept_7 (by decide) (fun c_7 => ?_) (fun c_7 => ?_)
  · have h := xif_t c_7 h
    refine lv_iload_n hx hb d_MO_accept_14 rfl (lv_at hl 0 rfl) ?_
    obtain ⟨hc3, h⟩ := xg h
    have h9 := Option.some.inj h
    subst h9
    exact W.zret (v := q2) hx hb hr (by rcases hc3 with z | z <;> rw [z] <;> rfl) (fun t ht hW => ⟨⟨q2, (), rfl, rfl, by show va_P D xcl _ t.heap; rw [ht]; exact hP⟩, hS.F ht⟩) hS.2.2 d_MO_accept_15
  · have h := xif_f c_7 h
    refine lv_aload_n hx hb d_MO_accept_10 rfl (lv_at hl 1 rfl) ?_
    obtain ⟨q5, e4, h⟩ := xb h
    refine mc_v (va_runV (As := []) (rest := []) ⟨hx, hb, hml, hown, hts⟩ (c_MO_next l D lay cA S q5 e4) (cwV 0 hts (xT_V wd_841 wd_843 wp_21 wd_7 wd_844) rfl rfl rfl (by decide +kernel) ⟨Nat.le_of_ble_eq_true rfl, Nat.le_of_ble_eq_true rfl⟩) (mpV E hP hS (by decide) (mc_0 _ _ _ _) rfl) rfl rfl hl.1 rfl (lv_room (Nat.le_of_ble_eq_true rfl)) d_MO_accept_11 ⟨Nat.le_of_ble_eq_true rfl, Nat.le_of_ble_eq_true rfl⟩) hS (fun H locs hP hS => ?_)
    refine lv_iload_n hx hb d_MO_accept_14 rfl (lv_at hl 0 rfl) ?_
    obtain ⟨hc6, h⟩ := xg h
    have h9 := Option.some.inj h
    subst h9
    exact W.zret (v := q2) hx hb hr (by rcases hc6 with z | z <;> rw [z] <;> rfl) (fun t ht hW => ⟨⟨q2, (), rfl, rfl, by show va_P D xcl _ t.heap; rw [ht]; exact hP⟩, hS.F ht⟩) hS.2.2 d_MO_accept_15
theorem c_MO_accept (l : Launch) (D : va_G) (lay : Nat → Nat) (cA : Nat → ClassId) (S : XS) (a1 : Int32) (r : Int32 × XS) (h : f_MO_accept S a1 = some r) : Met l y_MO_accept (.code y_MO_accept b_MO_accept 3 ((Option.some Jvm.ClassFile.FieldType.boolean)) :: xT) rm_MO_accept (mPc D lay cA S [.ref (lay 0), .int a1]) (mqi D lay cA r.1 r.2) 0 0 (mI lay) := by
  refine Met.ofW (cc := b_MO_accept) (maxL := 3) (ret := (Option.some Jvm.ClassFile.FieldType.boolean)) (by decide +kernel) rfl ?_
  intro p e s m args below meth c s₁ B hml hv
  obtain ⟨rfl, hP, E⟩ := hv
  have C := xB_of B hml
  have hl := lv_entry ([.ref (lay 0), .int a1]) (n := 3) (Nat.le_of_ble_eq_true rfl)
  rw [lg_entry_eq]
  generalize (lg_sl ([.ref (lay 0), .int a1]) ++ List.replicate (3 - (lg_sl ([.ref (lay 0), .int a1])).length) Slot.unset).toArray = ls at hl ⊢
  exact k_MO_accept l C E S a1 r h s.heap [] ls hP va_S.rf hl
/-! ConfigTextsModel.number(III)I -/
def rm_MO_number : Room := { frames := 3, cells := 0, slots := 0, locals := 65 }
theorem d_MO_number_0 : decode b_MO_number 0 = .ok (.aload_n 0, 1) := by decide +kernel
theorem d_MO_number_1 : decode b_MO_number 1 = .ok (.invokevirtual 214, 3) := by decide +kernel
theorem d_MO_number_4 : decode b_MO_number 4 = .ok (.ifCond .ne 5, 3) := by decide +kernel
theorem d_MO_number_7 : decode b_MO_number 7 = .ok (.iconst 0, 1) := by decide +kernel
theorem d_MO_number_8 : decode b_MO_number 8 = .ok (.ireturn, 1) := by decide +kernel
theorem d_MO_number_9 : decode b_MO_number 9 = .ok (.aload_n 0, 1) := by decide +kernel
theorem d_MO_number_10 : decode b_MO_number 10 = .ok (.getfield 197, 3) := by decide +kernel
theorem d_MO_number_13 : decode b_MO_number 13 = .ok (.iconst 3, 1) := by decide +kernel
theorem d_MO_number_14 : decode b_MO_number 14 = .ok (.if_icmp .eq 10, 3) := by decide +kernel
theorem d_MO_number_17 : decode b_MO_number 17 = .ok (.aload_n 0, 1) := by decide +kernel
theorem d_MO_number_18 : decode b_MO_number 18 = .ok (.iconst 1, 1) := by decide +kernel
theorem d_MO_number_19 : decode b_MO_number 19 = .ok (.invokevirtual 221, 3) := by decide +kernel
theorem d_MO_number_22 : decode b_MO_number 22 = .ok (.iconst 0, 1) := by decide +kernel
theorem d_MO_number_23 : decode b_MO_number 23 = .ok (.ireturn, 1) := by decide +kernel
theorem d_MO_number_24 : decode b_MO_number 24 = .ok (.aload_n 0, 1) := by decide +kernel
theorem d_MO_number_25 : decode b_MO_number 25 = .ok (.getfield 167, 3) := by decide +kernel
theorem d_MO_number_28 : decode b_MO_number 28 = .ok (.l2i, 1) := by decide +kernel
theorem d_MO_number_29 : decode b_MO_number 29 = .ok (.istore 4, 2) := by decide +kernel
theorem d_MO_number_31 : decode b_MO_number 31 = .ok (.iload 4, 2) := by decide +kernel
theorem d_MO_number_33 : decode b_MO_number 33 = .ok (.iload_n 1, 1) := by decide +kernel
theorem d_MO_number_34 : decode b_MO_number 34 = .ok (.if_icmp .lt 16, 3) := by decide +kernel
theorem d_MO_number_37 : decode b_MO_number 37 = .ok (.iload 4, 2) := by decide +kernel
theorem d_MO_number_39 : decode b_MO_number 39 = .ok (.iload_n 2, 1) := by decide +kernel
theorem d_MO_number_40 : decode b_MO_number 40 = .ok (.if_icmp .gt 10, 3) := by decide +kernel
theorem d_MO_number_43 : decode b_MO_number 43 = .ok (.iload 4, 2) := by decide +kernel
theorem d_MO_number_45 : decode b_MO_number 45 = .ok (.iload_n 3, 1) := by decide +kernel
theorem d_MO_number_46 : decode b_MO_number 46 = .ok (.irem, 1) := by decide +kernel
theorem d_MO_number_47 : decode b_MO_number 47 = .ok (.ifCond .eq 14, 3) := by decide +kernel
theorem d_MO_number_50 : decode b_MO_number 50 = .ok (.aload_n 0, 1) := by decide +kernel
theorem d_MO_number_51 : decode b_MO_number 51 = .ok (.iconst 5, 1) := by decide +kernel
theorem d_MO_number_52 : decode b_MO_number 52 = .ok (.aload_n 0, 1) := by decide +kernel
theorem d_MO_number_53 : decode b_MO_number 53 = .ok (.getfield 185, 3) := by decide +kernel
theorem d_MO_number_56 : decode b_MO_number 56 = .ok (.invokevirtual 210, 3) := by decide +kernel
theorem d_MO_number_59 : decode b_MO_number 59 = .ok (.iconst 0, 1) := by decide +kernel
theorem d_MO_number_60 : decode b_MO_number 60 = .ok (.ireturn, 1) := by decide +kernel
theorem d_MO_number_61 : decode b_MO_number 61 = .ok (.aload_n 0, 1) := by decide +kernel
theorem d_MO_number_62 : decode b_MO_number 62 = .ok (.invokevirtual 225, 3) := by decide +kernel
theorem d_MO_number_65 : decode b_MO_number 65 = .ok (.iload 4, 2) := by decide +kernel
theorem d_MO_number_67 : decode b_MO_number 67 = .ok (.ireturn, 1) := by decide +kernel
def f_MO_number_50 (S : XS)  : Option (Int32 × XS) :=
  (f_MO_fail S (5 : Int32) (xgi S 0 6)).bind fun q14 => some ((0 : Int32), q14)
set_option maxHeartbeats 4000000 in
set_option maxRecDepth 100000 in
theorem k_MO_number_50 (l : Launch) {p : Program} {e : Env} {s : State} {m : MethodId} {args : Array Value} {below : List Frame} {meth : Method} {c : Code} {D : va_G} {lay : Nat → Nat} {cA : Nat → ClassId} (C : xB p s m args meth c R_MO b_MO_number ((Option.some Jvm.ClassFile.FieldType.int)) 5) (E : mE D lay cA s s.heap) : ∀ (S : XS)  (r : Int32 × XS) (_ : f_MO_number_50 S = some r) (H : Heap) (locs : List Loc) (ls : Array Slot), va_P D xcl (mw lay cA S) H → va_S (mI lay) s.heap H locs → lv_has ls 5 [(0, .ref (lay 0))] → W p l e rm_MO_number s m args below meth c H locs 0 0 (MQ below (mqi D lay cA r.1 r.2) args s 0 0 (mI lay)) (F0 m 50 ls []) := by
  obtain ⟨hx, hb, hr, hml, hown, hts, hlk, hnh⟩ := id C
  have hK := E.K
  intro S r h H locs ls hP hS hl
  unfold f_MO_number_50 at h
  refine lv_aload_n hx hb d_MO_number_50 rfl (lv_at hl 0 rfl) ?_
  refine lv_iconst (v := (5 : Int32)) hx hb d_MO_number_51 (by decide) ?_
  refine lv_aload_n hx hb d_MO_number_52 rfl (lv_at hl 0 rfl) ?_
  refine va_get (v := .int (xgi S 0 6)) (C := R_MO) (T := F_MO) (N := 41) hx hb hts i_MO hown hK hP 0 (mw_at (by decide) (mc_0 _ _ _ _)) rfl 6 (by decide) (hts _ wd_706) (fun _ h9 => h9) rfl d_MO_number_53 ?_
  obtain ⟨q14, e13, h⟩ := xb h
  refine mc_v (va_runV (As := [.int (5 : Int32), .int (xgi S 0 6)]) (rest := []) ⟨hx, hb, hml, hown, hts⟩ (c_MO_fail l D lay cA S (5 : Int32) (xgi S 0 6) q14 e13) (cwV 2 hts (xT_V wd_890 wd_892 wp_31 wd_7 wd_893) rfl rfl rfl (by decide +kernel) ⟨Nat.le_of_ble_eq_true rfl, Nat.le_of_ble_eq_true rfl⟩) (mpV E hP hS (by decide) (mc_0 _ _ _ _) rfl) rfl rfl hl.1 rfl (lv_room (Nat.le_of_ble_eq_true rfl)) d_MO_number_56 ⟨Nat.le_of_ble_eq_true rfl, Nat.le_of_ble_eq_true rfl⟩) hS (fun H locs hP hS => ?_)
  refine lv_iconst (v := (0 : Int32)) hx hb d_MO_number_59 (by decide) ?_
  have h9 := Option.some.inj h
  subst h9
  exact W.iret (v := (0 : Int32)) hx hb hr (fun t ht hW => ⟨⟨(0 : Int32), (), rfl, rfl, by show va_P D xcl _ t.heap; rw [ht]; exact hP⟩, hS.F ht⟩) hS.2.2 d_MO_number_60
def f_MO_number (S : XS) (a1 : Int32) (a2 : Int32) (a3 : Int32) : Option (Int32 × XS) :=
  (f_MO_good S).bind fun q2 => if q2 = 0 then (some ((0 : Int32), S)) else (if (xgi S 0 8) = (3 : Int32) then (if ((xgl S 0 10).toInt32) < a1 then (f_MO_number_50 S) else (if a2 < ((xgl S 0 10).toInt32) then (f_MO_number_50 S) else (if ¬ a3 = 0 then (if (((xgl S 0 10).toInt32) - ((xgl S 0 10).toInt32) / a3 * a3) = 0 then ((f_MO_next S).bind fun q5 => some ((xgl S 0 10).toInt32, q5)) else (f_MO_number_50 S)) else none))) else ((f_MO_bad S (1 : Int32)).bind fun q10 => some ((0 : Int32), q10)))
set_option maxHeartbeats 4000000 in
set_option maxRecDepth 100000 in
theorem k_MO_number (l : Launch) {p : Program} {e : Env} {s : State} {m : MethodId} {args : Array Value} {below : List Frame} {meth : Method} {c : Code} {D : va_G} {lay : Nat → Nat} {cA : Nat → ClassId} (C : xB p s m args meth c R_MO b_MO_number ((Option.some Jvm.ClassFile.FieldType.int)) 5) (E : mE D lay cA s s.heap) : ∀ (S : XS) (a1 : Int32) (a2 : Int32) (a3 : Int32) (r : Int32 × XS) (_ : f_MO_number S a1 a2 a3 = some r) (H : Heap) (locs : List Loc) (ls : Array Slot), va_P D xcl (mw lay cA S) H → va_S (mI lay) s.heap H locs → lv_has ls 5 [(0, .ref (lay 0)), (1, .int a1), (2, .int a2), (3, .int a3)] → W p l e rm_MO_number s m args below meth c H locs 0 0 (MQ below (mqi D lay cA r.1 r.2) args s 0 0 (mI lay)) (F0 m 0 ls []) := by
  obtain ⟨hx, hb, hr, hml, hown, hts, hlk, hnh⟩ := id C
  have hK := E.K
  intro S a1 a2 a3 r h H locs ls hP hS hl
  unfold f_MO_number at h
  refine lv_aload_n hx hb d_MO_number_0 rfl (lv_at hl 0 rfl) ?_
  obtain ⟨q2, e1, h⟩ := xb h
  refine mc_i (va_runV (As := []) (rest := []) ⟨hx, hb, hml, hown, hts⟩ (c_MO_good l D lay cA S q2 e1) (cwV 0 hts (xT_V wd_882 wd_884 wp_29 wd_7 wd_885) rfl rfl rfl (by decide +kernel) ⟨Nat.le_of_ble_eq_true rfl, Nat.le_of_ble_eq_true rfl⟩) (mpV E hP hS (by decide) (mc_0 _ _ _ _) rfl) rfl rfl hl.1 rfl (lv_room (Nat.le_of_ble_eq_true rfl)) d_MO_number_1 ⟨Nat.le_of_ble_eq_true rfl, Nat.le_of_ble_eq_true rfl⟩) hS (fun H locs hP hS => ?_)
  refine lv_if_ne (tgt := 9) hx hb d_MO_number_4 (by decide) (fun c_12 => ?_) (fun c_12 => ?_)
  · have h := xif_f c_12 h
    refine lv_aload_n hx hb d_MO_number_9 rfl (lv_at hl 0 rfl) ?_
    refine va_get (v := .int (xgi S 0 8)) (C := R_MO) (T := F_MO) (N := 41) hx hb hts i_MO hown hK hP 0 (mw_at (by decide) (mc_0 _ _ _ _)) rfl 8 (by decide) (hts _ wd_708) (fun _ h9 => h9) rfl d_MO_number_10 ?_
    refine lv_iconst (v := (3 : Int32)) hx hb d_MO_number_13 (by decide) ?_
    refine lv_icmp_eq (tgt := 24) hx hb d_MO_number_14 (by decide) (fun c_11 => ?_) (fun c_11 => ?_)
    · have h := xif_t c_11 h
      refine lv_aload_n hx hb d_MO_number_24 rfl (lv_at hl 0 rfl) ?_
      refine va_get (v := .long (xgl S 0 10)) (C := R_MO) (T := F_MO) (N := 41) hx hb hts i_MO hown hK hP 0 (mw_at (by decide) (mc_0 _ _ _ _)) rfl 10 (by decide) (hts _ wd_710) (fun _ h9 => h9) rfl d_MO_number_25 ?_
      refine lv_l2i (v := (xgl S 0 10).toInt32) hx hb d_MO_number_28 rfl ?_
      refine lv_istore (lv' := [(4, .int ((xgl S 0 10).toInt32)), (0, .ref (lay 0)), (1, .int a1), (2, .int a2), (3, .int a3)]) hx hb d_MO_number_29 hl (by decide) rfl (fun ls hl => ?_)
      refine lv_iload hx hb d_MO_number_31 (lv_at hl 0 rfl) ?_
      refine lv_iload_n hx hb d_MO_number_33 rfl (lv_at hl 2 rfl) ?_
      refine lv_icmp_lt (tgt := 50) hx hb d_MO_number_34 (by decide) (fun c_8 => ?_) (fun c_8 => ?_)
      · have h := xif_t c_8 h
        exact k_MO_number_50 l C E S  _ h H locs ls hP hS (lv_sub hl [1] rfl)
      · have h := xif_f c_8 h
        refine lv_iload hx hb d_MO_number_37 (lv_at hl 0 rfl) ?_
        refine lv_iload_n hx hb d_MO_number_39 rfl (lv_at hl 3 rfl) ?_
        refine lv_icmp_gt (tgt := 50) hx hb d_MO_number_40 (by decide) (fun c_7 => ?_) (fun c_7 => ?_)
        · have h := xif_t c_7 h
          exact k_MO_number_50 l C E S  _ h H locs ls hP hS (lv_sub hl [1] rfl)
        · have h := xif_f c_7 h
          refine lv_iload hx hb d_MO_number_43 (lv_at hl 0 rfl) ?_
          refine lv_iload_n hx hb d_MO_number_45 rfl (lv_at hl 4 rfl) ?_
          obtain ⟨hg3, h⟩ := xg h
          refine lv_irem hx hb d_MO_number_46 hg3 ?_
          refine lv_if_eq (tgt := 61) hx hb d_MO_number_47 (by decide) (fun c_6 => ?_) (fun c_6 => ?_)
          · have h := xif_t c_6 h
            refine lv_aload_n hx hb d_MO_number_61 rfl (lv_at hl 1 rfl) ?_
            obtain ⟨q5, e4, h⟩ := xb h
            refine mc_v (va_runV (As := []) (rest := []) ⟨hx, hb, hml, hown, hts⟩ (c_MO_next l D lay cA S q5 e4) (cwV 0 hts (xT_V wd_841 wd_843 wp_21 wd_7 wd_844) rfl rfl rfl (by decide +kernel) ⟨Nat.le_of_ble_eq_true rfl, Nat.le_of_ble_eq_true rfl⟩) (mpV E hP hS (by decide) (mc_0 _ _ _ _) rfl) rfl rfl hl.1 rfl (lv_room (Nat.le_of_ble_eq_true rfl)) d_MO_number_62 ⟨Nat.le_of_ble_eq_true rfl, Nat.le_of_ble_eq_true rfl⟩) hS (fun H locs hP hS => ?_)
            refine lv_iload hx hb d_MO_number_65 (lv_at hl 0 rfl) ?_
            have h9 := Option.some.inj h
            subst h9
            exact W.iret (v := (xgl S 0 10).toInt32) hx hb hr (fun t ht hW => ⟨⟨(xgl S 0 10).toInt32, (), rfl, rfl, by show va_P D xcl _ t.heap; rw [ht]; exact hP⟩, hS.F ht⟩) hS.2.2 d_MO_number_67
          · have h := xif_f c_6 h
            exact k_MO_number_50 l C E S  _ h H locs ls hP hS (lv_sub hl [1] rfl)
    · have h := xif_f c_11 h
      refine lv_aload_n hx hb d_MO_number_17 rfl (lv_at hl 0 rfl) ?_
      refine lv_iconst (v := (1 : Int32)) hx hb d_MO_number_18 (by decide) ?_
      obtain ⟨q10, e9, h⟩ := xb h
      refine mc_v (va_runV (As := [.int (1 : Int32)]) (rest := []) ⟨hx, hb, hml, hown, hts⟩ (c_MO_bad l D lay cA S (1 : Int32) q10 e9) (cwV 1 hts (xT_V wd_886 wd_888 wp_30 wd_7 wd_889) rfl rfl rfl (by decide +kernel) ⟨Nat.le_of_ble_eq_true rfl, Nat.le_of_ble_eq_true rfl⟩) (mpV E hP hS (by decide) (mc_0 _ _ _ _) rfl) rfl rfl hl.1 rfl (lv_room (Nat.le_of_ble_eq_true rfl)) d_MO_number_19 ⟨Nat.le_of_ble_eq_true rfl, Nat.le_of_ble_eq_true rfl⟩) hS (fun H locs hP hS => ?_)
      refine lv_iconst (v := (0 : Int32)) hx hb d_MO_number_22 (by decide) ?_
      have h9 := Option.some.inj h
      subst h9
      exact W.iret (v := (0 : Int32)) hx hb hr (fun t ht hW => ⟨⟨(0 : Int32), (), rfl, rfl, by show va_P D xcl _ t.heap; rw [ht]; exact hP⟩, hS.F ht⟩) hS.2.2 d_MO_number_23
  · have h := xif_t c_12 h
    refine lv_iconst (v := (0 : Int32)) hx hb d_MO_number_7 (by decide) ?_
    have h9 := Option.some.inj h
    subst h9
    exact W.iret (v := (0 : Int32)) hx hb hr (fun t ht hW => ⟨⟨(0 : Int32), (), rfl, rfl, by show va_P D xcl _ t.heap; rw [ht]; exact hP⟩, hS.F ht⟩) hS.2.2 d_MO_number_8
theorem c_MO_number (l : Launch) (D : va_G) (lay : Nat → Nat) (cA : Nat → ClassId) (S : XS) (a1 : Int32) (a2 : Int32) (a3 : Int32) (r : Int32 × XS) (h : f_MO_number S a1 a2 a3 = some r) : Met l y_MO_number (.code y_MO_number b_MO_number 5 ((Option.some Jvm.ClassFile.FieldType.int)) :: xT) rm_MO_number (mPc D lay cA S [.ref (lay 0), .int a1, .int a2, .int a3]) (mqi D lay cA r.1 r.2) 0 0 (mI lay) := by
  refine Met.ofW (cc := b_MO_number) (maxL := 5) (ret := (Option.some Jvm.ClassFile.FieldType.int)) (by decide +kernel) rfl ?_
  intro p e s m args below meth c s₁ B hml hv
  obtain ⟨rfl, hP, E⟩ := hv
  have C := xB_of B hml
  have hl := lv_entry ([.ref (lay 0), .int a1, .int a2, .int a3]) (n := 5) (Nat.le_of_ble_eq_true rfl)
  rw [lg_entry_eq]
  generalize (lg_sl ([.ref (lay 0), .int a1, .int a2, .int a3]) ++ List.replicate (5 - (lg_sl ([.ref (lay 0), .int a1, .int a2, .int a3])).length) Slot.unset).toArray = ls at hl ⊢
  exact k_MO_number l C E S a1 a2 a3 r h s.heap [] ls hP va_S.rf hl
/-! ConfigTextsModel.part(IIII)I -/
def rm_MO_part : Room := { frames := 4, cells := 0, slots := 0, locals := 89 }
theorem d_MO_part_0 : decode b_MO_part 0 = .ok (.aload_n 0, 1) := by decide +kernel
theorem d_MO_part_1 : decode b_MO_part 1 = .ok (.iload_n 1, 1) := by decide +kernel
theorem d_MO_part_2 : decode b_MO_part 2 = .ok (.invokevirtual 231, 3) := by decide +kernel
theorem d_MO_part_5 : decode b_MO_part 5 = .ok (.aload_n 0, 1) := by decide +kernel
theorem d_MO_part_6 : decode b_MO_part 6 = .ok (.iload_n 2, 1) := by decide +kernel
theorem d_MO_part_7 : decode b_MO_part 7 = .ok (.iload_n 3, 1) := by decide +kernel
theorem d_MO_part_8 : decode b_MO_part 8 = .ok (.iload 4, 2) := by decide +kernel
theorem d_MO_part_10 : decode b_MO_part 10 = .ok (.invokevirtual 234, 3) := by decide +kernel
theorem d_MO_part_13 : decode b_MO_part 13 = .ok (.istore 5, 2) := by decide +kernel
theorem d_MO_part_15 : decode b_MO_part 15 = .ok (.aload_n 0, 1) := by decide +kernel
theorem d_MO_part_16 : decode b_MO_part 16 = .ok (.bipush 59, 2) := by decide +kernel
theorem d_MO_part_18 : decode b_MO_part 18 = .ok (.invokevirtual 238, 3) := by decide +kernel
theorem d_MO_part_21 : decode b_MO_part 21 = .ok (.iload 5, 2) := by decide +kernel
theorem d_MO_part_23 : decode b_MO_part 23 = .ok (.ireturn, 1) := by decide +kernel
def f_MO_part (S : XS) (a1 : Int32) (a2 : Int32) (a3 : Int32) (a4 : Int32) : Option (Int32 × XS) :=
  (f_MO_need S a1).bind fun q2 => (f_MO_number q2 a2 a3 a4).bind fun q4 => (f_MO_sign q4.2 (59 : Int32)).bind fun q6 => some (q4.1, q6)
set_option maxHeartbeats 4000000 in
set_option maxRecDepth 100000 in
theorem k_MO_part (l : Launch) {p : Program} {e : Env} {s : State} {m : MethodId} {args : Array Value} {below : List Frame} {meth : Method} {c : Code} {D : va_G} {lay : Nat → Nat} {cA : Nat → ClassId} (C : xB p s m args meth c R_MO b_MO_part ((Option.some Jvm.ClassFile.FieldType.int)) 6) (E : mE D lay cA s s.heap) : ∀ (S : XS) (a1 : Int32) (a2 : Int32) (a3 : Int32) (a4 : Int32) (r : Int32 × XS) (_ : f_MO_part S a1 a2 a3 a4 = some r) (H : Heap) (locs : List Loc) (ls : Array Slot), va_P D xcl (mw lay cA S) H → va_S (mI lay) s.heap H locs → lv_has ls 6 [(0, .ref (lay 0)), (1, .int a1), (2, .int a2), (3, .int a3), (4, .int a4)] → W p l e rm_MO_part s m args below meth c H locs 0 0 (MQ below (mqi D lay cA r.1 r.2) args s 0 0 (mI lay)) (F0 m 0 ls []) := by
  obtain ⟨hx, hb, hr, hml, hown, hts, hlk, hnh⟩ := id C
  have hK := E.K
  intro S a1 a2 a3 a4 r h H locs ls hP hS hl
  unfold f_MO_part at h
  refine lv_aload_n hx hb d_MO_part_0 rfl (lv_at hl 0 rfl) ?_
  refine lv_iload_n hx hb d_MO_part_1 rfl (lv_at hl 1 rfl) ?_
  obtain ⟨q2, e1, h⟩ := xb h
  refine mc_v (va_runV (As := [.int a1]) (rest := []) ⟨hx, hb, hml, hown, hts⟩ (c_MO_need l D lay cA S a1 q2 e1) (cwV 1 hts (xT_V wd_874 wd_876 wp_27 wd_7 wd_877) rfl rfl rfl (by decide +kernel) ⟨Nat.le_of_ble_eq_true rfl, Nat.le_of_ble_eq_true rfl⟩) (mpV E hP hS (by decide) (mc_0 _ _ _ _) rfl) rfl rfl hl.1 rfl (lv_room (Nat.le_of_ble_eq_true rfl)) d_MO_part_2 ⟨Nat.le_of_ble_eq_true rfl, Nat.le_of_ble_eq_true rfl⟩) hS (fun H locs hP hS => ?_)
  refine lv_aload_n hx hb d_MO_part_5 rfl (lv_at hl 0 rfl) ?_
  refine lv_iload_n hx hb d_MO_part_6 rfl (lv_at hl 2 rfl) ?_
  refine lv_iload_n hx hb d_MO_part_7 rfl (lv_at hl 3 rfl) ?_
  refine lv_iload hx hb d_MO_part_8 (lv_at hl 4 rfl) ?_
  obtain ⟨q4, e3, h⟩ := xb h
  refine mc_i (va_runV (As := [.int a2, .int a3, .int a4]) (rest := []) ⟨hx, hb, hml, hown, hts⟩ (c_MO_number l D lay cA q2 a2 a3 a4 q4 e3) (cwV 3 hts (xT_V wd_914 wd_916 wp_37 wd_7 wd_917) rfl rfl rfl (by decide +kernel) ⟨Nat.le_of_ble_eq_true rfl, Nat.le_of_ble_eq_true rfl⟩) (mpV E hP hS (by decide) (mc_0 _ _ _ _) rfl) rfl rfl hl.1 rfl (lv_room (Nat.le_of_ble_eq_true rfl)) d_MO_part_10 ⟨Nat.le_of_ble_eq_true rfl, Nat.le_of_ble_eq_true rfl⟩) hS (fun H locs hP hS => ?_)
  refine lv_istore (lv' := [(5, .int q4.1), (0, .ref (lay 0)), (1, .int a1), (2, .int a2), (3, .int a3), (4, .int a4)]) hx hb d_MO_part_13 hl (by decide) rfl (fun ls hl => ?_)
  refine lv_aload_n hx hb d_MO_part_15 rfl (lv_at hl 1 rfl) ?_
  refine lv_bipush (v := (59 : Int32)) hx hb d_MO_part_16 (by decide) ?_
  obtain ⟨q6, e5, h⟩ := xb h
  refine mc_v (va_runV (As := [.int (59 : Int32)]) (rest := []) ⟨hx, hb, hml, hown, hts⟩ (c_MO_sign l D lay cA q4.2 (59 : Int32) q6 e5) (cwV 1 hts (xT_V wd_902 wd_904 wp_34 wd_7 wd_905) rfl rfl rfl (by decide +kernel) ⟨Nat.le_of_ble_eq_true rfl, Nat.le_of_ble_eq_true rfl⟩) (mpV E hP hS (by decide) (mc_0 _ _ _ _) rfl) rfl rfl hl.1 rfl (lv_room (Nat.le_of_ble_eq_true rfl)) d_MO_part_18 ⟨Nat.le_of_ble_eq_true rfl, Nat.le_of_ble_eq_true rfl⟩) hS (fun H locs hP hS => ?_)
  refine lv_iload hx hb d_MO_part_21 (lv_at hl 0 rfl) ?_
  have h9 := Option.some.inj h
  subst h9
  exact W.iret (v := q4.1) hx hb hr (fun t ht hW => ⟨⟨q4.1, (), rfl, rfl, by show va_P D xcl _ t.heap; rw [ht]; exact hP⟩, hS.F ht⟩) hS.2.2 d_MO_part_23
theorem c_MO_part (l : Launch) (D : va_G) (lay : Nat → Nat) (cA : Nat → ClassId) (S : XS) (a1 : Int32) (a2 : Int32) (a3 : Int32) (a4 : Int32) (r : Int32 × XS) (h : f_MO_part S a1 a2 a3 a4 = some r) : Met l y_MO_part (.code y_MO_part b_MO_part 6 ((Option.some Jvm.ClassFile.FieldType.int)) :: xT) rm_MO_part (mPc D lay cA S [.ref (lay 0), .int a1, .int a2, .int a3, .int a4]) (mqi D lay cA r.1 r.2) 0 0 (mI lay) := by
  refine Met.ofW (cc := b_MO_part) (maxL := 6) (ret := (Option.some Jvm.ClassFile.FieldType.int)) (by decide +kernel) rfl ?_
  intro p e s m args below meth c s₁ B hml hv
  obtain ⟨rfl, hP, E⟩ := hv
  have C := xB_of B hml
  have hl := lv_entry ([.ref (lay 0), .int a1, .int a2, .int a3, .int a4]) (n := 6) (Nat.le_of_ble_eq_true rfl)
  rw [lg_entry_eq]
  generalize (lg_sl ([.ref (lay 0), .int a1, .int a2, .int a3, .int a4]) ++ List.replicate (6 - (lg_sl ([.ref (lay 0), .int a1, .int a2, .int a3, .int a4])).length) Slot.unset).toArray = ls at hl ⊢
  exact k_MO_part l C E S a1 a2 a3 a4 r h s.heap [] ls hP va_S.rf hl
/-! ConfigTextsModel.partitionOf(J)I -/
def rm_MO_partitionOf : Room := { frames := 0, cells := 0, slots := 0, locals := 0 }
theorem d_MO_partitionOf_0 : decode b_MO_partitionOf 0 = .ok (.iconst 0, 1) := by decide +kernel
theorem d_MO_partitionOf_1 : decode b_MO_partitionOf 1 = .ok (.istore_n 3, 1) := by decide +kernel
theorem d_MO_partitionOf_2 : decode b_MO_partitionOf 2 = .ok (.iload_n 3, 1) := by decide +kernel
theorem d_MO_partitionOf_3 : decode b_MO_partitionOf 3 = .ok (.aload_n 0, 1) := by decide +kernel
theorem d_MO_partitionOf_4 : decode b_MO_partitionOf 4 = .ok (.getfield 241, 3) := by decide +kernel
theorem d_MO_partitionOf_7 : decode b_MO_partitionOf 7 = .ok (.if_icmp .ge 22, 3) := by decide +kernel
theorem d_MO_partitionOf_10 : decode b_MO_partitionOf 10 = .ok (.aload_n 0, 1) := by decide +kernel
theorem d_MO_partitionOf_11 : decode b_MO_partitionOf 11 = .ok (.getfield 96, 3) := by decide +kernel
theorem d_MO_partitionOf_14 : decode b_MO_partitionOf 14 = .ok (.iload_n 3, 1) := by decide +kernel
theorem d_MO_partitionOf_15 : decode b_MO_partitionOf 15 = .ok (.laload, 1) := by decide +kernel
theorem d_MO_partitionOf_16 : decode b_MO_partitionOf 16 = .ok (.lload_n 1, 1) := by decide +kernel
theorem d_MO_partitionOf_17 : decode b_MO_partitionOf 17 = .ok (.lcmp, 1) := by decide +kernel
theorem d_MO_partitionOf_18 : decode b_MO_partitionOf 18 = .ok (.ifCond .ne 5, 3) := by decide +kernel
theorem d_MO_partitionOf_21 : decode b_MO_partitionOf 21 = .ok (.iload_n 3, 1) := by decide +kernel
theorem d_MO_partitionOf_22 : decode b_MO_partitionOf 22 = .ok (.ireturn, 1) := by decide +kernel
theorem d_MO_partitionOf_23 : decode b_MO_partitionOf 23 = .ok (.iinc 3 1, 3) := by decide +kernel
theorem d_MO_partitionOf_26 : decode b_MO_partitionOf 26 = .ok (.goto (-24), 3) := by decide +kernel
theorem d_MO_partitionOf_29 : decode b_MO_partitionOf 29 = .ok (.iconst (-1), 1) := by decide +kernel
theorem d_MO_partitionOf_30 : decode b_MO_partitionOf 30 = .ok (.ireturn, 1) := by decide +kernel
def f_MO_partitionOf_2 : Nat → XS → Int64 → Int32 → Option (Int32)
  | 0, _, _, _ => none
  | n + 1, S, a1, a3 =>
    if (xgi S 0 15) ≤ a3 then (some (-1 : Int32)) else (if ¬ (a3 < 0 ∨ 8 ≤ a3.toNatClampNeg) then (if (lg_cmp (xgl S 5 a3.toNatClampNeg) a1) = 0 then (some a3) else (f_MO_partitionOf_2 n S a1 (a3 + (1 : Int32)))) else none)
set_option maxHeartbeats 4000000 in
set_option maxRecDepth 100000 in
theorem k_MO_partitionOf_2 (l : Launch) {p : Program} {e : Env} {s : State} {m : MethodId} {args : Array Value} {below : List Frame} {meth : Method} {c : Code} {D : va_G} {lay : Nat → Nat} {cA : Nat → ClassId} (C : xB p s m args meth c R_MO b_MO_partitionOf ((Option.some Jvm.ClassFile.FieldType.int)) 4) (E : mE D lay cA s s.heap) : ∀ (n : Nat) (S : XS) (a1 : Int64) (a3 : Int32) (r : Int32) (_ : f_MO_partitionOf_2 n S a1 a3 = some r) (H : Heap) (locs : List Loc) (ls : Array Slot), va_P D xcl (mw lay cA S) H → va_S (mI lay) s.heap H locs → lv_has ls 4 [(0, .ref (lay 0)), (1, .long a1), (3, .int a3)] → W p l e rm_MO_partitionOf s m args below meth c H locs 0 0 (MQ below (mqi D lay cA r S) args s 0 0 (mI lay)) (F0 m 2 ls []) := by
  obtain ⟨hx, hb, hr, hml, hown, hts, hlk, hnh⟩ := id C
  have hK := E.K
  intro n
  induction n with
  | zero => intro S a1 a3 r h; rw [f_MO_partitionOf_2] at h; cases h
  | succ n ih =>
    intro S a1 a3 r h H locs ls hP hS hl
    rw [f_MO_partitionOf_2] at h
    refine lv_iload_n hx hb d_MO_partitionOf_2 rfl (lv_at hl 2 rfl) ?_
    refine lv_aload_n hx hb d_MO_partitionOf_3 rfl (lv_at hl 0 rfl) ?_
    refine va_get (v := .int (xgi S 0 15)) (C := R_MO) (T := F_MO) (N := 41) hx hb hts i_MO hown hK hP 0 (mw_at (by decide) (mc_0 _ _ _ _)) rfl 15 (by decide) (hts _ wd_715) (fun _ h9 => h9) rfl d_MO_partitionOf_4 ?_
    refine lv_icmp_ge (tgt := 29) hx hb d_MO_partitionOf_7 (by decide) (fun c_3 => ?_) (fun c_3 => ?_)
    · have h := xif_t c_3 h
      refine lv_iconst (v := (-1 : Int32)) hx hb d_MO_partitionOf_29 (by decide) ?_
      have h9 := Option.some.inj h
      subst h9
      exact W.iret (v := (-1 : Int32)) hx hb hr (fun t ht hW => ⟨⟨(-1 : Int32), (), rfl, rfl, by show va_P D xcl _ t.heap; rw [ht]; exact hP⟩, hS.F ht⟩) hS.2.2 d_MO_partitionOf_30
    · have h := xif_f c_3 h
      refine lv_aload_n hx hb d_MO_partitionOf_10 rfl (lv_at hl 0 rfl) ?_
      refine va_get (v := .ref (lay 5)) (C := R_MO) (T := F_MO) (N := 41) hx hb hts i_MO hown hK hP 0 (mw_at (by decide) (mc_0 _ _ _ _)) rfl 16 (by decide) (hts _ wd_716) (fun _ h9 => h9) rfl d_MO_partitionOf_11 ?_
      refine lv_iload_n hx hb d_MO_partitionOf_14 rfl (lv_at hl 2 rfl) ?_
      obtain ⟨hg1, h⟩ := xg h
      refine mal_5 hx hb E hP hg1 d_MO_partitionOf_15 ?_
      refine lv_lload_n hx hb d_MO_partitionOf_16 rfl (lv_at hl 1 rfl) ?_
      refine W.lcmp hx hb d_MO_partitionOf_17 ?_
      refine lv_if_ne (tgt := 23) hx hb d_MO_partitionOf_18 (by decide) (fun c_2 => ?_) (fun c_2 => ?_)
      · have h := xif_f c_2 h
        refine lv_iinc (v := a3 + (1 : Int32)) (lv' := [(3, .int (a3 + (1 : Int32))), (0, .ref (lay 0)), (1, .long a1)]) hx hb d_MO_partitionOf_23 hl (k := 2) rfl (by rfl) (by decide) rfl (fun ls hl => ?_)
        refine lv_goto (tgt := 2) hx hb d_MO_partitionOf_26 (by decide) ?_
        exact ih S a1 (a3 + (1 : Int32)) _ h H locs ls hP hS (lv_sub hl [1, 2, 0] rfl)
      · have h := xif_t c_2 h
        refine lv_iload_n hx hb d_MO_partitionOf_21 rfl (lv_at hl 2 rfl) ?_
        have h9 := Option.some.inj h
        subst h9
        exact W.iret (v := a3) hx hb hr (fun t ht hW => ⟨⟨a3, (), rfl, rfl, by show va_P D xcl _ t.heap; rw [ht]; exact hP⟩, hS.F ht⟩) hS.2.2 d_MO_partitionOf_22
def f_MO_partitionOf (S : XS) (a1 : Int64) : Option (Int32) :=
  f_MO_partitionOf_2 4096 S a1 (0 : Int32)
set_option maxHeartbeats 4000000 in
set_option maxRecDepth 100000 in
theorem k_MO_partitionOf (l : Launch) {p : Program} {e : Env} {s : State} {m : MethodId} {args : Array Value} {below : List Frame} {meth : Method} {c : Code} {D : va_G} {lay : Nat → Nat} {cA : Nat → ClassId} (C : xB p s m args meth c R_MO b_MO_partitionOf ((Option.some Jvm.ClassFile.FieldType.int)) 4) (E : mE D lay cA s s.heap) : ∀ (S : XS) (a1 : Int64) (r : Int32) (_ : f_MO_partitionOf S a1 = some r) (H : Heap) (locs : List Loc) (ls : Array Slot), va_P D xcl (mw lay cA S) H → va_S (mI lay) s.heap H locs → lv_has ls 4 [(0, .ref (lay 0)), (1, .long a1)] → W p l e rm_MO_partitionOf s m args below meth c H locs 0 0 (MQ below (mqi D lay cA r S) args s 0 0 (mI lay)) (F0 m 0 ls []) := by
  obtain ⟨hx, hb, hr, hml, hown, hts, hlk, hnh⟩ := id C
  have hK := E.K
  intro S a1 r h H locs ls hP hS hl
  unfold f_MO_partitionOf at h
  refine lv_iconst (v := (0 : Int32)) hx hb d_MO_partitionOf_0 (by decide) ?_
  refine lv_istore_n (lv' := [(3, .int (0 : Int32)), (0, .ref (lay 0)), (1, .long a1)]) hx hb d_MO_partitionOf_1 rfl hl (by decide) rfl (fun ls hl => ?_)
  exact k_MO_partitionOf_2 l C E 4096 S a1 (0 : Int32) _ h H locs ls hP hS (lv_sub hl [1, 2, 0] rfl)
theorem c_MO_partitionOf (l : Launch) (D : va_G) (lay : Nat → Nat) (cA : Nat → ClassId) (S : XS) (a1 : Int64) (r : Int32) (h : f_MO_partitionOf S a1 = some r) : Met l y_MO_partitionOf (.code y_MO_partitionOf b_MO_partitionOf 4 ((Option.some Jvm.ClassFile.FieldType.int)) :: xT) rm_MO_partitionOf (mPc D lay cA S [.ref (lay 0), .long a1]) (mqi D lay cA r S) 0 0 (mI lay) := by
  refine Met.ofW (cc := b_MO_partitionOf) (maxL := 4) (ret := (Option.some Jvm.ClassFile.FieldType.int)) (by decide +kernel) rfl ?_
  intro p e s m args below meth c s₁ B hml hv
  obtain ⟨rfl, hP, E⟩ := hv
  have C := xB_of B hml
  have hl := lv_entry ([.ref (lay 0), .long a1]) (n := 4) (Nat.le_of_ble_eq_true rfl)
  rw [lg_entry_eq]
  generalize (lg_sl ([.ref (lay 0), .long a1]) ++ List.replicate (4 - (lg_sl ([.ref (lay 0), .long a1])).length) Slot.unset).toArray = ls at hl ⊢
  exact k_MO_partitionOf l C E S a1 r h s.heap [] ls hP va_S.rf hl
/-! ConfigTextsModel.find(IJ)I -/
def rm_MO_find : Room := { frames := 0, cells := 0, slots := 0, locals := 0 }
theorem d_MO_find_0 : decode b_MO_find 0 = .ok (.bipush 40, 2) := by decide +kernel
theorem d_MO_find_2 : decode b_MO_find 2 = .ok (.iload_n 1, 1) := by decide +kernel
theorem d_MO_find_3 : decode b_MO_find 3 = .ok (.imul, 1) := by decide +kernel
theorem d_MO_find_4 : decode b_MO_find 4 = .ok (.istore 4, 2) := by decide +kernel
theorem d_MO_find_6 : decode b_MO_find 6 = .ok (.iload 4, 2) := by decide +kernel
theorem d_MO_find_8 : decode b_MO_find 8 = .ok (.bipush 40, 2) := by decide +kernel
theorem d_MO_find_10 : decode b_MO_find 10 = .ok (.iload_n 1, 1) := by decide +kernel
theorem d_MO_find_11 : decode b_MO_find 11 = .ok (.imul, 1) := by decide +kernel
theorem d_MO_find_12 : decode b_MO_find 12 = .ok (.aload_n 0, 1) := by decide +kernel
theorem d_MO_find_13 : decode b_MO_find 13 = .ok (.getfield 122, 3) := by decide +kernel
theorem d_MO_find_16 : decode b_MO_find 16 = .ok (.iload_n 1, 1) := by decide +kernel
theorem d_MO_find_17 : decode b_MO_find 17 = .ok (.iaload, 1) := by decide +kernel
theorem d_MO_find_18 : decode b_MO_find 18 = .ok (.iadd, 1) := by decide +kernel
theorem d_MO_find_19 : decode b_MO_find 19 = .ok (.if_icmp .ge 24, 3) := by decide +kernel
theorem d_MO_find_22 : decode b_MO_find 22 = .ok (.aload_n 0, 1) := by decide +kernel
theorem d_MO_find_23 : decode b_MO_find 23 = .ok (.getfield 134, 3) := by decide +kernel
theorem d_MO_find_26 : decode b_MO_find 26 = .ok (.iload 4, 2) := by decide +kernel
theorem d_MO_find_28 : decode b_MO_find 28 = .ok (.laload, 1) := by decide +kernel
theorem d_MO_find_29 : decode b_MO_find 29 = .ok (.lload_n 2, 1) := by decide +kernel
theorem d_MO_find_30 : decode b_MO_find 30 = .ok (.lcmp, 1) := by decide +kernel
theorem d_MO_find_31 : decode b_MO_find 31 = .ok (.ifCond .ne 6, 3) := by decide +kernel
theorem d_MO_find_34 : decode b_MO_find 34 = .ok (.iload 4, 2) := by decide +kernel
theorem d_MO_find_36 : decode b_MO_find 36 = .ok (.ireturn, 1) := by decide +kernel
theorem d_MO_find_37 : decode b_MO_find 37 = .ok (.iinc 4 1, 3) := by decide +kernel
theorem d_MO_find_40 : decode b_MO_find 40 = .ok (.goto (-34), 3) := by decide +kernel
theorem d_MO_find_43 : decode b_MO_find 43 = .ok (.iconst (-1), 1) := by decide +kernel
theorem d_MO_find_44 : decode b_MO_find 44 = .ok (.ireturn, 1) := by decide +kernel
def f_MO_find_6 : Nat → XS → Int32 → Int64 → Int32 → Option (Int32)
  | 0, _, _, _, _ => none
  | n + 1, S, a1, a2, a4 =>
    if ¬ (a1 < 0 ∨ 8 ≤ a1.toNatClampNeg) then (if (((40 : Int32) * a1) + (xgi S 13 a1.toNatClampNeg)) ≤ a4 then (some (-1 : Int32)) else (if ¬ (a4 < 0 ∨ 320 ≤ a4.toNatClampNeg) then (if (lg_cmp (xgl S 17 a4.toNatClampNeg) a2) = 0 then (some a4) else (f_MO_find_6 n S a1 a2 (a4 + (1 : Int32)))) else none)) else none
set_option maxHeartbeats 4000000 in
set_option maxRecDepth 100000 in
theorem k_MO_find_6 (l : Launch) {p : Program} {e : Env} {s : State} {m : MethodId} {args : Array Value} {below : List Frame} {meth : Method} {c : Code} {D : va_G} {lay : Nat → Nat} {cA : Nat → ClassId} (C : xB p s m args meth c R_MO b_MO_find ((Option.some Jvm.ClassFile.FieldType.int)) 5) (E : mE D lay cA s s.heap) : ∀ (n : Nat) (S : XS) (a1 : Int32) (a2 : Int64) (a4 : Int32) (r : Int32) (_ : f_MO_find_6 n S a1 a2 a4 = some r) (H : Heap) (locs : List Loc) (ls : Array Slot), va_P D xcl (mw lay cA S) H → va_S (mI lay) s.heap H locs → lv_has ls 5 [(0, .ref (lay 0)), (1, .int a1), (2, .long a2), (4, .int a4)] → W p l e rm_MO_find s m args below meth c H locs 0 0 (MQ below (mqi D lay cA r S) args s 0 0 (mI lay)) (F0 m 6 ls []) := by
  obtain ⟨hx, hb, hr, hml, hown, hts, hlk, hnh⟩ := id C
  have hK := E.K
  intro n
  induction n with
  | zero => intro S a1 a2 a4 r h; rw [f_MO_find_6] at h; cases h
  | succ n ih =>
    intro S a1 a2 a4 r h H locs ls hP hS hl
    rw [f_MO_find_6] at h
    refine lv_iload hx hb d_MO_find_6 (lv_at hl 3 rfl) ?_
    refine lv_bipush (v := (40 : Int32)) hx hb d_MO_find_8 (by decide) ?_
    refine lv_iload_n hx hb d_MO_find_10 rfl (lv_at hl 1 rfl) ?_
    refine lv_imul hx hb d_MO_find_11 ?_
    refine lv_aload_n hx hb d_MO_find_12 rfl (lv_at hl 0 rfl) ?_
    refine va_get (v := .ref (lay 13)) (C := R_MO) (T := F_MO) (N := 41) hx hb hts i_MO hown hK hP 0 (mw_at (by decide) (mc_0 _ _ _ _)) rfl 24 (by decide) (hts _ wd_724) (fun _ h9 => h9) rfl d_MO_find_13 ?_
    refine lv_iload_n hx hb d_MO_find_16 rfl (lv_at hl 1 rfl) ?_
    obtain ⟨hg1, h⟩ := xg h
    refine mal_13 hx hb E hP hg1 d_MO_find_17 ?_
    refine lv_iadd hx hb d_MO_find_18 ?_
    refine lv_icmp_ge (tgt := 43) hx hb d_MO_find_19 (by decide) (fun c_4 => ?_) (fun c_4 => ?_)
    · have h := xif_t c_4 h
      refine lv_iconst (v := (-1 : Int32)) hx hb d_MO_find_43 (by decide) ?_
      have h9 := Option.some.inj h
      subst h9
      exact W.iret (v := (-1 : Int32)) hx hb hr (fun t ht hW => ⟨⟨(-1 : Int32), (), rfl, rfl, by show va_P D xcl _ t.heap; rw [ht]; exact hP⟩, hS.F ht⟩) hS.2.2 d_MO_find_44
    · have h := xif_f c_4 h
      refine lv_aload_n hx hb d_MO_find_22 rfl (lv_at hl 0 rfl) ?_
      refine va_get (v := .ref (lay 17)) (C := R_MO) (T := F_MO) (N := 41) hx hb hts i_MO hown hK hP 0 (mw_at (by decide) (mc_0 _ _ _ _)) rfl 28 (by decide) (hts _ wd_728) (fun _ h9 => h9) rfl d_MO_find_23 ?_
      refine lv_iload hx hb d_MO_find_26 (lv_at hl 3 rfl) ?_
      obtain ⟨hg2, h⟩ := xg h
      refine mal_17 hx hb E hP hg2 d_MO_find_28 ?_
      refine lv_lload_n hx hb d_MO_find_29 rfl (lv_at hl 2 rfl) ?_
      refine W.lcmp hx hb d_MO_find_30 ?_
      refine lv_if_ne (tgt := 37) hx hb d_MO_find_31 (by decide) (fun c_3 => ?_) (fun c_3 => ?_)
      · have h := xif_f c_3 h
        refine lv_iinc (v := a4 + (1 : Int32)) (lv' := [(4, .int (a4 + (1 : Int32))), (0, .ref (lay 0)), (1, .int a1), (2, .long a2)]) hx hb d_MO_find_37 hl (k := 3) rfl (by rfl) (by decide) rfl (fun ls hl => ?_)
        refine lv_goto (tgt := 6) hx hb d_MO_find_40 (by decide) ?_
        exact ih S a1 a2 (a4 + (1 : Int32)) _ h H locs ls hP hS (lv_sub hl [1, 2, 3, 0] rfl)
      · have h := xif_t c_3 h
        refine lv_iload hx hb d_MO_find_34 (lv_at hl 3 rfl) ?_
        have h9 := Option.some.inj h
        subst h9
        exact W.iret (v := a4) hx hb hr (fun t ht hW => ⟨⟨a4, (), rfl, rfl, by show va_P D xcl _ t.heap; rw [ht]; exact hP⟩, hS.F ht⟩) hS.2.2 d_MO_find_36
def f_MO_find (S : XS) (a1 : Int32) (a2 : Int64) : Option (Int32) :=
  f_MO_find_6 4096 S a1 a2 ((40 : Int32) * a1)
set_option maxHeartbeats 4000000 in
set_option maxRecDepth 100000 in
theorem k_MO_find (l : Launch) {p : Program} {e : Env} {s : State} {m : MethodId} {args : Array Value} {below : List Frame} {meth : Method} {c : Code} {D : va_G} {lay : Nat → Nat} {cA : Nat → ClassId} (C : xB p s m args meth c R_MO b_MO_find ((Option.some Jvm.ClassFile.FieldType.int)) 5) (E : mE D lay cA s s.heap) : ∀ (S : XS) (a1 : Int32) (a2 : Int64) (r : Int32) (_ : f_MO_find S a1 a2 = some r) (H : Heap) (locs : List Loc) (ls : Array Slot), va_P D xcl (mw lay cA S) H → va_S (mI lay) s.heap H locs → lv_has ls 5 [(0, .ref (lay 0)), (1, .int a1), (2, .long a2)] → W p l e rm_MO_find s m args below meth c H locs 0 0 (MQ below (mqi D lay cA r S) args s 0 0 (mI lay)) (F0 m 0 ls []) := by
  obtain ⟨hx, hb, hr, hml, hown, hts, hlk, hnh⟩ := id C
  have hK := E.K
  intro S a1 a2 r h H locs ls hP hS hl
  unfold f_MO_find at h
  refine lv_bipush (v := (40 : Int32)) hx hb d_MO_find_0 (by decide) ?_
  refine lv_iload_n hx hb d_MO_find_2 rfl (lv_at hl 1 rfl) ?_
  refine lv_imul hx hb d_MO_find_3 ?_
  refine lv_istore (lv' := [(4, .int ((40 : Int32) * a1)), (0, .ref (lay 0)), (1, .int a1), (2, .long a2)]) hx hb d_MO_find_4 hl (by decide) rfl (fun ls hl => ?_)
  exact k_MO_find_6 l C E 4096 S a1 a2 ((40 : Int32) * a1) _ h H locs ls hP hS (lv_sub hl [1, 2, 3, 0] rfl)
theorem c_MO_find (l : Launch) (D : va_G) (lay : Nat → Nat) (cA : Nat → ClassId) (S : XS) (a1 : Int32) (a2 : Int64) (r : Int32) (h : f_MO_find S a1 a2 = some r) : Met l y_MO_find (.code y_MO_find b_MO_find 5 ((Option.some Jvm.ClassFile.FieldType.int)) :: xT) rm_MO_find (mPc D lay cA S [.ref (lay 0), .int a1, .long a2]) (mqi D lay cA r S) 0 0 (mI lay) := by
  refine Met.ofW (cc := b_MO_find) (maxL := 5) (ret := (Option.some Jvm.ClassFile.FieldType.int)) (by decide +kernel) rfl ?_
  intro p e s m args below meth c s₁ B hml hv
  obtain ⟨rfl, hP, E⟩ := hv
  have C := xB_of B hml
  have hl := lv_entry ([.ref (lay 0), .int a1, .long a2]) (n := 5) (Nat.le_of_ble_eq_true rfl)
  rw [lg_entry_eq]
  generalize (lg_sl ([.ref (lay 0), .int a1, .long a2]) ++ List.replicate (5 - (lg_sl ([.ref (lay 0), .int a1, .long a2])).length) Slot.unset).toArray = ls at hl ⊢
  exact k_MO_find l C E S a1 a2 r h s.heap [] ls hP va_S.rf hl
/-! ConfigTextsModel.most(I)I -/
def rm_MO_most : Room := { frames := 0, cells := 0, slots := 0, locals := 0 }
theorem d_MO_most_0 : decode b_MO_most 0 = .ok (.iload_n 0, 1) := by decide +kernel
theorem d_MO_most_1 : decode b_MO_most 1 = .ok (.ifCond .eq 8, 3) := by decide +kernel
theorem d_MO_most_4 : decode b_MO_most 4 = .ok (.iload_n 0, 1) := by decide +kernel
theorem d_MO_most_5 : decode b_MO_most 5 = .ok (.iconst 5, 1) := by decide +kernel
theorem d_MO_most_6 : decode b_MO_most 6 = .ok (.if_icmp .ne 8, 3) := by decide +kernel
theorem d_MO_most_9 : decode b_MO_most 9 = .ok (.bipush 8, 2) := by decide +kernel
theorem d_MO_most_11 : decode b_MO_most 11 = .ok (.goto 4, 3) := by decide +kernel
theorem d_MO_most_14 : decode b_MO_most 14 = .ok (.iconst 4, 1) := by decide +kernel
theorem d_MO_most_15 : decode b_MO_most 15 = .ok (.ireturn, 1) := by decide +kernel
def f_MO_most (S : XS) (a0 : Int32) : Option (Int32) :=
  if a0 = 0 then (some (8 : Int32)) else (if a0 = (5 : Int32) then (some (8 : Int32)) else (some (4 : Int32)))
set_option maxHeartbeats 4000000 in
set_option maxRecDepth 100000 in
theorem k_MO_most (l : Launch) {p : Program} {e : Env} {s : State} {m : MethodId} {args : Array Value} {below : List Frame} {meth : Method} {c : Code} {D : va_G} {lay : Nat → Nat} {cA : Nat → ClassId} (C : xB p s m args meth c R_MO b_MO_most ((Option.some Jvm.ClassFile.FieldType.int)) 1) (E : mE D lay cA s s.heap) : ∀ (S : XS) (a0 : Int32) (r : Int32) (_ : f_MO_most S a0 = some r) (H : Heap) (locs : List Loc) (ls : Array Slot), va_P D xcl (mw lay cA S) H → va_S (mI lay) s.heap H locs → lv_has ls 1 [(0, .int a0)] → W p l e rm_MO_most s m args below meth c H locs 0 0 (MQ below (mqi D lay cA r S) args s 0 0 (mI lay)) (F0 m 0 ls []) := by
  obtain ⟨hx, hb, hr, hml, hown, hts, hlk, hnh⟩ := id C
  have hK := E.K
  intro S a0 r h H locs ls hP hS hl
  unfold f_MO_most at h
  refine lv_iload_n hx hb d_MO_most_0 rfl (lv_at hl 0 rfl) ?_
  refine lv_if_eq (tgt := 9) hx hb d_MO_most_1 (by decide) (fun c_2 => ?_) (fun c_2 => ?_)
  · have h := xif_t c_2 h
    refine lv_bipush (v := (8 : Int32)) hx hb d_MO_most_9 (by decide) ?_
    refine lv_goto (tgt := 15) hx hb d_MO_most_11 (by decide) ?_
    have h9 := Option.some.inj h
    subst h9
    exact W.iret (v := (8 : Int32)) hx hb hr (fun t ht hW => ⟨⟨(8 : Int32), (), rfl, rfl, by show va_P D xcl _ t.heap; rw [ht]; exact hP⟩, hS.F ht⟩) hS.2.2 d_MO_most_15
  · have h := xif_f c_2 h
    refine lv_iload_n hx hb d_MO_most_4 rfl (lv_at hl 0 rfl) ?_
    refine lv_iconst (v := (5 : Int32)) hx hb d_MO_most_5 (by decide) ?_
    refine lv_icmp_ne (tgt := 14) hx hb d_MO_most_6 (by decide) (fun c_1 => ?_) (fun c_1 => ?_)
    · have h := xif_f c_1 h
      refine lv_iconst (v := (4 : Int32)) hx hb d_MO_most_14 (by decide) ?_
      have h9 := Option.some.inj h
      subst h9
      exact W.iret (v := (4 : Int32)) hx hb hr (fun t ht hW => ⟨⟨(4 : Int32), (), rfl, rfl, by show va_P D xcl _ t.heap; rw [ht]; exact hP⟩, hS.F ht⟩) hS.2.2 d_MO_most_15
    · have h := xif_t c_1 h
      refine lv_bipush (v := (8 : Int32)) hx hb d_MO_most_9 (by decide) ?_
      refine lv_goto (tgt := 15) hx hb d_MO_most_11 (by decide) ?_
      have h9 := Option.some.inj h
      subst h9
      exact W.iret (v := (8 : Int32)) hx hb hr (fun t ht hW => ⟨⟨(8 : Int32), (), rfl, rfl, by show va_P D xcl _ t.heap; rw [ht]; exact hP⟩, hS.F ht⟩) hS.2.2 d_MO_most_15
theorem c_MO_most (l : Launch) (D : va_G) (lay : Nat → Nat) (cA : Nat → ClassId) (S : XS) (a0 : Int32) (r : Int32) (h : f_MO_most S a0 = some r) : Met l y_MO_most (.code y_MO_most b_MO_most 1 ((Option.some Jvm.ClassFile.FieldType.int)) :: xT) rm_MO_most (mPc D lay cA S [.int a0]) (mqi D lay cA r S) 0 0 (mI lay) := by
  refine Met.ofW (cc := b_MO_most) (maxL := 1) (ret := (Option.some Jvm.ClassFile.FieldType.int)) (by decide +kernel) rfl ?_
  intro p e s m args below meth c s₁ B hml hv
  obtain ⟨rfl, hP, E⟩ := hv
  have C := xB_of B hml
  have hl := lv_entry ([.int a0]) (n := 1) (Nat.le_of_ble_eq_true rfl)
  rw [lg_entry_eq]
  generalize (lg_sl ([.int a0]) ++ List.replicate (1 - (lg_sl ([.int a0])).length) Slot.unset).toArray = ls at hl ⊢
  exact k_MO_most l C E S a0 r h s.heap [] ls hP va_S.rf hl
/-! ConfigTextsModel.newThing(II)I -/
def rm_MO_newThing : Room := { frames := 3, cells := 0, slots := 0, locals := 65 }
theorem d_MO_newThing_0 : decode b_MO_newThing 0 = .ok (.aload_n 0, 1) := by decide +kernel
theorem d_MO_newThing_1 : decode b_MO_newThing 1 = .ok (.invokevirtual 225, 3) := by decide +kernel
theorem d_MO_newThing_4 : decode b_MO_newThing 4 = .ok (.aload_n 0, 1) := by decide +kernel
theorem d_MO_newThing_5 : decode b_MO_newThing 5 = .ok (.getfield 112, 3) := by decide +kernel
theorem d_MO_newThing_8 : decode b_MO_newThing 8 = .ok (.bipush 6, 2) := by decide +kernel
theorem d_MO_newThing_10 : decode b_MO_newThing 10 = .ok (.iload_n 1, 1) := by decide +kernel
theorem d_MO_newThing_11 : decode b_MO_newThing 11 = .ok (.imul, 1) := by decide +kernel
theorem d_MO_newThing_12 : decode b_MO_newThing 12 = .ok (.iload_n 2, 1) := by decide +kernel
theorem d_MO_newThing_13 : decode b_MO_newThing 13 = .ok (.iadd, 1) := by decide +kernel
theorem d_MO_newThing_14 : decode b_MO_newThing 14 = .ok (.iaload, 1) := by decide +kernel
theorem d_MO_newThing_15 : decode b_MO_newThing 15 = .ok (.iload_n 2, 1) := by decide +kernel
theorem d_MO_newThing_16 : decode b_MO_newThing 16 = .ok (.invokestatic 244, 3) := by decide +kernel
theorem d_MO_newThing_19 : decode b_MO_newThing 19 = .ok (.if_icmp .ne 8, 3) := by decide +kernel
theorem d_MO_newThing_22 : decode b_MO_newThing 22 = .ok (.aload_n 0, 1) := by decide +kernel
theorem d_MO_newThing_23 : decode b_MO_newThing 23 = .ok (.iconst 4, 1) := by decide +kernel
theorem d_MO_newThing_24 : decode b_MO_newThing 24 = .ok (.invokevirtual 221, 3) := by decide +kernel
theorem d_MO_newThing_27 : decode b_MO_newThing 27 = .ok (.aload_n 0, 1) := by decide +kernel
theorem d_MO_newThing_28 : decode b_MO_newThing 28 = .ok (.getfield 197, 3) := by decide +kernel
theorem d_MO_newThing_31 : decode b_MO_newThing 31 = .ok (.iconst 1, 1) := by decide +kernel
theorem d_MO_newThing_32 : decode b_MO_newThing 32 = .ok (.if_icmp .eq 8, 3) := by decide +kernel
theorem d_MO_newThing_35 : decode b_MO_newThing 35 = .ok (.aload_n 0, 1) := by decide +kernel
theorem d_MO_newThing_36 : decode b_MO_newThing 36 = .ok (.iconst 1, 1) := by decide +kernel
theorem d_MO_newThing_37 : decode b_MO_newThing 37 = .ok (.invokevirtual 221, 3) := by decide +kernel
theorem d_MO_newThing_40 : decode b_MO_newThing 40 = .ok (.aload_n 0, 1) := by decide +kernel
theorem d_MO_newThing_41 : decode b_MO_newThing 41 = .ok (.invokevirtual 214, 3) := by decide +kernel
theorem d_MO_newThing_44 : decode b_MO_newThing 44 = .ok (.ifCond .eq 25, 3) := by decide +kernel
theorem d_MO_newThing_47 : decode b_MO_newThing 47 = .ok (.aload_n 0, 1) := by decide +kernel
theorem d_MO_newThing_48 : decode b_MO_newThing 48 = .ok (.iload_n 1, 1) := by decide +kernel
theorem d_MO_newThing_49 : decode b_MO_newThing 49 = .ok (.aload_n 0, 1) := by decide +kernel
theorem d_MO_newThing_50 : decode b_MO_newThing 50 = .ok (.getfield 167, 3) := by decide +kernel
theorem d_MO_newThing_53 : decode b_MO_newThing 53 = .ok (.invokevirtual 247, 3) := by decide +kernel
theorem d_MO_newThing_56 : decode b_MO_newThing 56 = .ok (.iconst (-1), 1) := by decide +kernel
theorem d_MO_newThing_57 : decode b_MO_newThing 57 = .ok (.if_icmp .eq 12, 3) := by decide +kernel
theorem d_MO_newThing_60 : decode b_MO_newThing 60 = .ok (.aload_n 0, 1) := by decide +kernel
theorem d_MO_newThing_61 : decode b_MO_newThing 61 = .ok (.iconst 3, 1) := by decide +kernel
theorem d_MO_newThing_62 : decode b_MO_newThing 62 = .ok (.aload_n 0, 1) := by decide +kernel
theorem d_MO_newThing_63 : decode b_MO_newThing 63 = .ok (.getfield 185, 3) := by decide +kernel
theorem d_MO_newThing_66 : decode b_MO_newThing 66 = .ok (.invokevirtual 210, 3) := by decide +kernel
theorem d_MO_newThing_69 : decode b_MO_newThing 69 = .ok (.aload_n 0, 1) := by decide +kernel
theorem d_MO_newThing_70 : decode b_MO_newThing 70 = .ok (.invokevirtual 214, 3) := by decide +kernel
theorem d_MO_newThing_73 : decode b_MO_newThing 73 = .ok (.ifCond .ne 5, 3) := by decide +kernel
theorem d_MO_newThing_76 : decode b_MO_newThing 76 = .ok (.iconst (-1), 1) := by decide +kernel
theorem d_MO_newThing_77 : decode b_MO_newThing 77 = .ok (.ireturn, 1) := by decide +kernel
theorem d_MO_newThing_78 : decode b_MO_newThing 78 = .ok (.bipush 40, 2) := by decide +kernel
theorem d_MO_newThing_80 : decode b_MO_newThing 80 = .ok (.iload_n 1, 1) := by decide +kernel
theorem d_MO_newThing_81 : decode b_MO_newThing 81 = .ok (.imul, 1) := by decide +kernel
theorem d_MO_newThing_82 : decode b_MO_newThing 82 = .ok (.aload_n 0, 1) := by decide +kernel
theorem d_MO_newThing_83 : decode b_MO_newThing 83 = .ok (.getfield 122, 3) := by decide +kernel
theorem d_MO_newThing_86 : decode b_MO_newThing 86 = .ok (.iload_n 1, 1) := by decide +kernel
theorem d_MO_newThing_87 : decode b_MO_newThing 87 = .ok (.iaload, 1) := by decide +kernel
theorem d_MO_newThing_88 : decode b_MO_newThing 88 = .ok (.iadd, 1) := by decide +kernel
theorem d_MO_newThing_89 : decode b_MO_newThing 89 = .ok (.istore_n 3, 1) := by decide +kernel
theorem d_MO_newThing_90 : decode b_MO_newThing 90 = .ok (.aload_n 0, 1) := by decide +kernel
theorem d_MO_newThing_91 : decode b_MO_newThing 91 = .ok (.getfield 134, 3) := by decide +kernel
theorem d_MO_newThing_94 : decode b_MO_newThing 94 = .ok (.iload_n 3, 1) := by decide +kernel
theorem d_MO_newThing_95 : decode b_MO_newThing 95 = .ok (.aload_n 0, 1) := by decide +kernel
theorem d_MO_newThing_96 : decode b_MO_newThing 96 = .ok (.getfield 167, 3) := by decide +kernel
theorem d_MO_newThing_99 : decode b_MO_newThing 99 = .ok (.lastore, 1) := by decide +kernel
theorem d_MO_newThing_100 : decode b_MO_newThing 100 = .ok (.aload_n 0, 1) := by decide +kernel
theorem d_MO_newThing_101 : decode b_MO_newThing 101 = .ok (.getfield 125, 3) := by decide +kernel
theorem d_MO_newThing_104 : decode b_MO_newThing 104 = .ok (.iload_n 3, 1) := by decide +kernel
theorem d_MO_newThing_105 : decode b_MO_newThing 105 = .ok (.iload_n 2, 1) := by decide +kernel
theorem d_MO_newThing_106 : decode b_MO_newThing 106 = .ok (.iastore, 1) := by decide +kernel
theorem d_MO_newThing_107 : decode b_MO_newThing 107 = .ok (.aload_n 0, 1) := by decide +kernel
theorem d_MO_newThing_108 : decode b_MO_newThing 108 = .ok (.getfield 128, 3) := by decide +kernel
theorem d_MO_newThing_111 : decode b_MO_newThing 111 = .ok (.iload_n 3, 1) := by decide +kernel
theorem d_MO_newThing_112 : decode b_MO_newThing 112 = .ok (.aload_n 0, 1) := by decide +kernel
theorem d_MO_newThing_113 : decode b_MO_newThing 113 = .ok (.getfield 112, 3) := by decide +kernel
theorem d_MO_newThing_116 : decode b_MO_newThing 116 = .ok (.bipush 6, 2) := by decide +kernel
theorem d_MO_newThing_118 : decode b_MO_newThing 118 = .ok (.iload_n 1, 1) := by decide +kernel
theorem d_MO_newThing_119 : decode b_MO_newThing 119 = .ok (.imul, 1) := by decide +kernel
theorem d_MO_newThing_120 : decode b_MO_newThing 120 = .ok (.iload_n 2, 1) := by decide +kernel
theorem d_MO_newThing_121 : decode b_MO_newThing 121 = .ok (.iadd, 1) := by decide +kernel
theorem d_MO_newThing_122 : decode b_MO_newThing 122 = .ok (.iaload, 1) := by decide +kernel
theorem d_MO_newThing_123 : decode b_MO_newThing 123 = .ok (.iastore, 1) := by decide +kernel
theorem d_MO_newThing_124 : decode b_MO_newThing 124 = .ok (.iconst 0, 1) := by decide +kernel
theorem d_MO_newThing_125 : decode b_MO_newThing 125 = .ok (.istore 4, 2) := by decide +kernel
theorem d_MO_newThing_127 : decode b_MO_newThing 127 = .ok (.iload 4, 2) := by decide +kernel
theorem d_MO_newThing_129 : decode b_MO_newThing 129 = .ok (.iconst 5, 1) := by decide +kernel
theorem d_MO_newThing_130 : decode b_MO_newThing 130 = .ok (.if_icmp .ge 21, 3) := by decide +kernel
theorem d_MO_newThing_133 : decode b_MO_newThing 133 = .ok (.aload_n 0, 1) := by decide +kernel
theorem d_MO_newThing_134 : decode b_MO_newThing 134 = .ok (.getfield 131, 3) := by decide +kernel
theorem d_MO_newThing_137 : decode b_MO_newThing 137 = .ok (.iconst 5, 1) := by decide +kernel
theorem d_MO_newThing_138 : decode b_MO_newThing 138 = .ok (.iload_n 3, 1) := by decide +kernel
theorem d_MO_newThing_139 : decode b_MO_newThing 139 = .ok (.imul, 1) := by decide +kernel
theorem d_MO_newThing_140 : decode b_MO_newThing 140 = .ok (.iload 4, 2) := by decide +kernel
theorem d_MO_newThing_142 : decode b_MO_newThing 142 = .ok (.iadd, 1) := by decide +kernel
theorem d_MO_newThing_143 : decode b_MO_newThing 143 = .ok (.iconst 0, 1) := by decide +kernel
theorem d_MO_newThing_144 : decode b_MO_newThing 144 = .ok (.iastore, 1) := by decide +kernel
theorem d_MO_newThing_145 : decode b_MO_newThing 145 = .ok (.iinc 4 1, 3) := by decide +kernel
theorem d_MO_newThing_148 : decode b_MO_newThing 148 = .ok (.goto (-21), 3) := by decide +kernel
theorem d_MO_newThing_151 : decode b_MO_newThing 151 = .ok (.aload_n 0, 1) := by decide +kernel
theorem d_MO_newThing_152 : decode b_MO_newThing 152 = .ok (.getfield 122, 3) := by decide +kernel
theorem d_MO_newThing_155 : decode b_MO_newThing 155 = .ok (.iload_n 1, 1) := by decide +kernel
theorem d_MO_newThing_156 : decode b_MO_newThing 156 = .ok (.dup2, 1) := by decide +kernel
theorem d_MO_newThing_157 : decode b_MO_newThing 157 = .ok (.iaload, 1) := by decide +kernel
theorem d_MO_newThing_158 : decode b_MO_newThing 158 = .ok (.iconst 1, 1) := by decide +kernel
theorem d_MO_newThing_159 : decode b_MO_newThing 159 = .ok (.iadd, 1) := by decide +kernel
theorem d_MO_newThing_160 : decode b_MO_newThing 160 = .ok (.iastore, 1) := by decide +kernel
theorem d_MO_newThing_161 : decode b_MO_newThing 161 = .ok (.aload_n 0, 1) := by decide +kernel
theorem d_MO_newThing_162 : decode b_MO_newThing 162 = .ok (.getfield 112, 3) := by decide +kernel
theorem d_MO_newThing_165 : decode b_MO_newThing 165 = .ok (.bipush 6, 2) := by decide +kernel
theorem d_MO_newThing_167 : decode b_MO_newThing 167 = .ok (.iload_n 1, 1) := by decide +kernel
theorem d_MO_newThing_168 : decode b_MO_newThing 168 = .ok (.imul, 1) := by decide +kernel
theorem d_MO_newThing_169 : decode b_MO_newThing 169 = .ok (.iload_n 2, 1) := by decide +kernel
theorem d_MO_newThing_170 : decode b_MO_newThing 170 = .ok (.iadd, 1) := by decide +kernel
theorem d_MO_newThing_171 : decode b_MO_newThing 171 = .ok (.dup2, 1) := by decide +kernel
theorem d_MO_newThing_172 : decode b_MO_newThing 172 = .ok (.iaload, 1) := by decide +kernel
theorem d_MO_newThing_173 : decode b_MO_newThing 173 = .ok (.iconst 1, 1) := by decide +kernel
theorem d_MO_newThing_174 : decode b_MO_newThing 174 = .ok (.iadd, 1) := by decide +kernel
theorem d_MO_newThing_175 : decode b_MO_newThing 175 = .ok (.iastore, 1) := by decide +kernel
theorem d_MO_newThing_176 : decode b_MO_newThing 176 = .ok (.aload_n 0, 1) := by decide +kernel
theorem d_MO_newThing_177 : decode b_MO_newThing 177 = .ok (.invokevirtual 225, 3) := by decide +kernel
theorem d_MO_newThing_180 : decode b_MO_newThing 180 = .ok (.iload_n 3, 1) := by decide +kernel
theorem d_MO_newThing_181 : decode b_MO_newThing 181 = .ok (.ireturn, 1) := by decide +kernel
def f_MO_newThing_127 : Nat → XS → Int32 → Int32 → Int32 → Int32 → Option (Int32 × XS)
  | 0, _, _, _, _, _ => none
  | n + 1, S, a1, a2, a3, a4 =>
    if (5 : Int32) ≤ a4 then (if ¬ (a1 < 0 ∨ 8 ≤ a1.toNatClampNeg) then (if ¬ (a1 < 0 ∨ 8 ≤ a1.toNatClampNeg) then (if ¬ ((((6 : Int32) * a1) + a2) < 0 ∨ 48 ≤ (((6 : Int32) * a1) + a2).toNatClampNeg) then (if ¬ ((((6 : Int32) * a1) + a2) < 0 ∨ 48 ≤ (((6 : Int32) * a1) + a2).toNatClampNeg) then ((f_MO_next (xpi (xpi S 13 a1.toNatClampNeg ((xgi S 13 a1.toNatClampNeg) + (1 : Int32))) 10 (((6 : Int32) * a1) + a2).toNatClampNeg ((xgi (xpi S 13 a1.toNatClampNeg ((xgi S 13 a1.toNatClampNeg) + (1 : Int32))) 10 (((6 : Int32) * a1) + a2).toNatClampNeg) + (1 : Int32)))).bind fun q33 => some (a3, q33)) else none) else none) else none) else none) else (if ¬ ((((5 : Int32) * a3) + a4) < 0 ∨ 1600 ≤ (((5 : Int32) * a3) + a4).toNatClampNeg) then (f_MO_newThing_127 n (xpi S 16 (((5 : Int32) * a3) + a4).toNatClampNeg (0 : Int32)) a1 a2 a3 (a4 + (1 : Int32))) else none)
set_option maxHeartbeats 4000000 in
set_option maxRecDepth 100000 in
theorem k_MO_newThing_127 (l : Launch) {p : Program} {e : Env} {s : State} {m : MethodId} {args : Array Value} {below : List Frame} {meth : Method} {c : Code} {D : va_G} {lay : Nat → Nat} {cA : Nat → ClassId} (C : xB p s m args meth c R_MO b_MO_newThing ((Option.some Jvm.ClassFile.FieldType.int)) 5) (E : mE D lay cA s s.heap) : ∀ (n : Nat) (S : XS) (a1 : Int32) (a2 : Int32) (a3 : Int32) (a4 : Int32) (r : Int32 × XS) (_ : f_MO_newThing_127 n S a1 a2 a3 a4 = some r) (H : Heap) (locs : List Loc) (ls : Array Slot), va_P D xcl (mw lay cA S) H → va_S (mI lay) s.heap H locs → lv_has ls 5 [(0, .ref (lay 0)), (1, .int a1), (2, .int a2), (3, .int a3), (4, .int a4)] → W p l e rm_MO_newThing s m args below meth c H locs 0 0 (MQ below (mqi D lay cA r.1 r.2) args s 0 0 (mI lay)) (F0 m 127 ls []) := by
  obtain ⟨hx, hb, hr, hml, hown, hts, hlk, hnh⟩ := id C
  have hK := E.K
  intro n
  induction n with
  | zero => intro S a1 a2 a3 a4 r h; rw [f_MO_newThing_127] at h; cases h
  | succ n ih =>
    intro S a1 a2 a3 a4 r h H locs ls hP hS hl
    rw [f_MO_newThing_127] at h
    refine lv_iload hx hb d_MO_newThing_127 (lv_at hl 4 rfl) ?_
    refine lv_iconst (v := (5 : Int32)) hx hb d_MO_newThing_129 (by decide) ?_
    refine lv_icmp_ge (tgt := 151) hx hb d_MO_newThing_130 (by decide) (fun c_35 => ?_) (fun c_35 => ?_)
    · have h := xif_t c_35 h
      refine lv_aload_n hx hb d_MO_newThing_151 rfl (lv_at hl 0 rfl) ?_
      refine va_get (v := .ref (lay 13)) (C := R_MO) (T := F_MO) (N := 41) hx hb hts i_MO hown hK hP 0 (mw_at (by decide) (mc_0 _ _ _ _)) rfl 24 (by decide) (hts _ wd_724) (fun _ h9 => h9) rfl d_MO_newThing_152 ?_
      refine lv_iload_n hx hb d_MO_newThing_155 rfl (lv_at hl 1 rfl) ?_
      refine lv_dup2_11 hx hb d_MO_newThing_156 rfl rfl ?_
      obtain ⟨hg28, h⟩ := xg h
      refine mal_13 hx hb E hP hg28 d_MO_newThing_157 ?_
      refine lv_iconst (v := (1 : Int32)) hx hb d_MO_newThing_158 (by decide) ?_
      refine lv_iadd hx hb d_MO_newThing_159 ?_
      obtain ⟨hg29, h⟩ := xg h
      refine mas_13 hx hb E hP hS hg29 d_MO_newThing_160 (fun H locs hP hS => ?_)
      refine lv_aload_n hx hb d_MO_newThing_161 rfl (lv_at hl 0 rfl) ?_
      refine va_get (v := .ref (lay 10)) (C := R_MO) (T := F_MO) (N := 41) hx hb hts i_MO hown hK hP 0 (mw_at (by decide) (mc_0 _ _ _ _)) rfl 21 (by decide) (hts _ wd_721) (fun _ h9 => h9) rfl d_MO_newThing_162 ?_
      refine lv_bipush (v := (6 : Int32)) hx hb d_MO_newThing_165 (by decide) ?_
      refine lv_iload_n hx hb d_MO_newThing_167 rfl (lv_at hl 1 rfl) ?_
      refine lv_imul hx hb d_MO_newThing_168 ?_
      refine lv_iload_n hx hb d_MO_newThing_169 rfl (lv_at hl 2 rfl) ?_
      refine lv_iadd hx hb d_MO_newThing_170 ?_
      refine lv_dup2_11 hx hb d_MO_newThing_171 rfl rfl ?_
      obtain ⟨hg30, h⟩ := xg h
      refine mal_10 hx hb E hP hg30 d_MO_newThing_172 ?_
      refine lv_iconst (v := (1 : Int32)) hx hb d_MO_newThing_173 (by decide) ?_
      refine lv_iadd hx hb d_MO_newThing_174 ?_
      obtain ⟨hg31, h⟩ := xg h
      refine mas_10 hx hb E hP hS hg31 d_MO_newThing_175 (fun H locs hP hS => ?_)
      refine lv_aload_n hx hb d_MO_newThing_176 rfl (lv_at hl 0 rfl) ?_
      obtain ⟨q33, e32, h⟩ := xb h
      refine mc_v (va_runV (As := []) (rest := []) ⟨hx, hb, hml, hown, hts⟩ (c_MO_next l D lay cA (xpi (xpi S 13 a1.toNatClampNeg ((xgi S 13 a1.toNatClampNeg) + (1 : Int32))) 10 (((6 : Int32) * a1) + a2).toNatClampNeg ((xgi (xpi S 13 a1.toNatClampNeg ((xgi S 13 a1.toNatClampNeg) + (1 : Int32))) 10 (((6 : Int32) * a1) + a2).toNatClampNeg) + (1 : Int32))) q33 e32) (cwV 0 hts (xT_V wd_841 wd_843 wp_21 wd_7 wd_844) rfl rfl rfl (by decide +kernel) ⟨Nat.le_of_ble_eq_true rfl, Nat.le_of_ble_eq_true rfl⟩) (mpV E hP hS (by decide) (mc_0 _ _ _ _) rfl) rfl rfl hl.1 rfl (lv_room (Nat.le_of_ble_eq_true rfl)) d_MO_newThing_177 ⟨Nat.le_of_ble_eq_true rfl, Nat.le_of_ble_eq_true rfl⟩) hS (fun H locs hP hS => ?_)
      refine lv_iload_n hx hb d_MO_newThing_180 rfl (lv_at hl 3 rfl) ?_
      have h9 := Option.some.inj h
      subst h9
      exact W.iret (v := a3) hx hb hr (fun t ht hW => ⟨⟨a3, (), rfl, rfl, by show va_P D xcl _ t.heap; rw [ht]; exact hP⟩, hS.F ht⟩) hS.2.2 d_MO_newThing_181
    · have h := xif_f c_35 h
      refine lv_aload_n hx hb d_MO_newThing_133 rfl (lv_at hl 0 rfl) ?_
      refine va_get (v := .ref (lay 16)) (C := R_MO) (T := F_MO) (N := 41) hx hb hts i_MO hown hK hP 0 (mw_at (by decide) (mc_0 _ _ _ _)) rfl 27 (by decide) (hts _ wd_727) (fun _ h9 => h9) rfl d_MO_newThing_134 ?_
      refine lv_iconst (v := (5 : Int32)) hx hb d_MO_newThing_137 (by decide) ?_
      refine lv_iload_n hx hb d_MO_newThing_138 rfl (lv_at hl 3 rfl) ?_
      refine lv_imul hx hb d_MO_newThing_139 ?_
      refine lv_iload hx hb d_MO_newThing_140 (lv_at hl 4 rfl) ?_
      refine lv_iadd hx hb d_MO_newThing_142 ?_
      refine lv_iconst (v := (0 : Int32)) hx hb d_MO_newThing_143 (by decide) ?_
      obtain ⟨hg34, h⟩ := xg h
      refine mas_16 hx hb E hP hS hg34 d_MO_newThing_144 (fun H locs hP hS => ?_)
      refine lv_iinc (v := a4 + (1 : Int32)) (lv' := [(4, .int (a4 + (1 : Int32))), (0, .ref (lay 0)), (1, .int a1), (2, .int a2), (3, .int a3)]) hx hb d_MO_newThing_145 hl (k := 4) rfl (by rfl) (by decide) rfl (fun ls hl => ?_)
      refine lv_goto (tgt := 127) hx hb d_MO_newThing_148 (by decide) ?_
      exact ih (xpi S 16 (((5 : Int32) * a3) + a4).toNatClampNeg (0 : Int32)) a1 a2 a3 (a4 + (1 : Int32)) _ h H locs ls hP hS (lv_sub hl [1, 2, 3, 4, 0] rfl)
def f_MO_newThing_69 (S : XS) (a1 : Int32) (a2 : Int32) : Option (Int32 × XS) :=
  (f_MO_good S).bind fun q21 => if q21 = 0 then (some ((-1 : Int32), S)) else (if ¬ (a1 < 0 ∨ 8 ≤ a1.toNatClampNeg) then (if ¬ ((((40 : Int32) * a1) + (xgi S 13 a1.toNatClampNeg)) < 0 ∨ 320 ≤ (((40 : Int32) * a1) + (xgi S 13 a1.toNatClampNeg)).toNatClampNeg) then (if ¬ ((((40 : Int32) * a1) + (xgi S 13 a1.toNatClampNeg)) < 0 ∨ 320 ≤ (((40 : Int32) * a1) + (xgi S 13 a1.toNatClampNeg)).toNatClampNeg) then (if ¬ ((((6 : Int32) * a1) + a2) < 0 ∨ 48 ≤ (((6 : Int32) * a1) + a2).toNatClampNeg) then (if ¬ ((((40 : Int32) * a1) + (xgi S 13 a1.toNatClampNeg)) < 0 ∨ 320 ≤ (((40 : Int32) * a1) + (xgi S 13 a1.toNatClampNeg)).toNatClampNeg) then (f_MO_newThing_127 4096 (xpi (xpi (xpl S 17 (((40 : Int32) * a1) + (xgi S 13 a1.toNatClampNeg)).toNatClampNeg (xgl S 0 10)) 14 (((40 : Int32) * a1) + (xgi S 13 a1.toNatClampNeg)).toNatClampNeg a2) 15 (((40 : Int32) * a1) + (xgi S 13 a1.toNatClampNeg)).toNatClampNeg (xgi (xpi (xpl S 17 (((40 : Int32) * a1) + (xgi S 13 a1.toNatClampNeg)).toNatClampNeg (xgl S 0 10)) 14 (((40 : Int32) * a1) + (xgi S 13 a1.toNatClampNeg)).toNatClampNeg a2) 10 (((6 : Int32) * a1) + a2).toNatClampNeg)) a1 a2 (((40 : Int32) * a1) + (xgi S 13 a1.toNatClampNeg)) (0 : Int32)) else none) else none) else none) else none) else none)
set_option maxHeartbeats 4000000 in
set_option maxRecDepth 100000 in
theorem k_MO_newThing_69 (l : Launch) {p : Program} {e : Env} {s : State} {m : MethodId} {args : Array Value} {below : List Frame} {meth : Method} {c : Code} {D : va_G} {lay : Nat → Nat} {cA : Nat → ClassId} (C : xB p s m args meth c R_MO b_MO_newThing ((Option.some Jvm.ClassFile.FieldType.int)) 5) (E : mE D lay cA s s.heap) : ∀ (S : XS) (a1 : Int32) (a2 : Int32) (r : Int32 × XS) (_ : f_MO_newThing_69 S a1 a2 = some r) (H : Heap) (locs : List Loc) (ls : Array Slot), va_P D xcl (mw lay cA S) H → va_S (mI lay) s.heap H locs → lv_has ls 5 [(0, .ref (lay 0)), (1, .int a1), (2, .int a2)] → W p l e rm_MO_newThing s m args below meth c H locs 0 0 (MQ below (mqi D lay cA r.1 r.2) args s 0 0 (mI lay)) (F0 m 69 ls []) := by
  obtain ⟨hx, hb, hr, hml, hown, hts, hlk, hnh⟩ := id C
  have hK := E.K
  intro S a1 a2 r h H locs ls hP hS hl
  unfold f_MO_newThing_69 at h
  refine lv_aload_n hx hb d_MO_newThing_69 rfl (lv_at hl 0 rfl) ?_
  obtain ⟨q21, e20, h⟩ := xb h
  refine mc_i (va_runV (As := []) (rest := []) ⟨hx, hb, hml, hown, hts⟩ (c_MO_good l D lay cA S q21 e20) (cwV 0 hts (xT_V wd_882 wd_884 wp_29 wd_7 wd_885) rfl rfl rfl (by decide +kernel) ⟨Nat.le_of_ble_eq_true rfl, Nat.le_of_ble_eq_true rfl⟩) (mpV E hP hS (by decide) (mc_0 _ _ _ _) rfl) rfl rfl hl.1 rfl (lv_room (Nat.le_of_ble_eq_true rfl)) d_MO_newThing_70 ⟨Nat.le_of_ble_eq_true rfl, Nat.le_of_ble_eq_true rfl⟩) hS (fun H locs hP hS => ?_)
  refine lv_if_ne (tgt := 78) hx hb d_MO_newThing_73 (by decide) (fun c_27 => ?_) (fun c_27 => ?_)
  · have h := xif_f c_27 h
    refine lv_bipush (v := (40 : Int32)) hx hb d_MO_newThing_78 (by decide) ?_
    refine lv_iload_n hx hb d_MO_newThing_80 rfl (lv_at hl 1 rfl) ?_
    refine lv_imul hx hb d_MO_newThing_81 ?_
    refine lv_aload_n hx hb d_MO_newThing_82 rfl (lv_at hl 0 rfl) ?_
    refine va_get (v := .ref (lay 13)) (C := R_MO) (T := F_MO) (N := 41) hx hb hts i_MO hown hK hP 0 (mw_at (by decide) (mc_0 _ _ _ _)) rfl 24 (by decide) (hts _ wd_724) (fun _ h9 => h9) rfl d_MO_newThing_83 ?_
    refine lv_iload_n hx hb d_MO_newThing_86 rfl (lv_at hl 1 rfl) ?_
    obtain ⟨hg22, h⟩ := xg h
    refine mal_13 hx hb E hP hg22 d_MO_newThing_87 ?_
    refine lv_iadd hx hb d_MO_newThing_88 ?_
    refine lv_istore_n (lv' := [(3, .int (((40 : Int32) * a1) + (xgi S 13 a1.toNatClampNeg))), (0, .ref (lay 0)), (1, .int a1), (2, .int a2)]) hx hb d_MO_newThing_89 rfl hl (by decide) rfl (fun ls hl => ?_)
    refine lv_aload_n hx hb d_MO_newThing_90 rfl (lv_at hl 1 rfl) ?_
    refine va_get (v := .ref (lay 17)) (C := R_MO) (T := F_MO) (N := 41) hx hb hts i_MO hown hK hP 0 (mw_at (by decide) (mc_0 _ _ _ _)) rfl 28 (by decide) (hts _ wd_728) (fun _ h9 => h9) rfl d_MO_newThing_91 ?_
    refine lv_iload_n hx hb d_MO_newThing_94 rfl (lv_at hl 0 rfl) ?_
    refine lv_aload_n hx hb d_MO_newThing_95 rfl (lv_at hl 1 rfl) ?_
    refine va_get (v := .long (xgl S 0 10)) (C := R_MO) (T := F_MO) (N := 41) hx hb hts i_MO hown hK hP 0 (mw_at (by decide) (mc_0 _ _ _ _)) rfl 10 (by decide) (hts _ wd_710) (fun _ h9 => h9) rfl d_MO_newThing_96 ?_
    obtain ⟨hg23, h⟩ := xg h
    refine mas_17 hx hb E hP hS hg23 d_MO_newThing_99 (fun H locs hP hS => ?_)
    refine lv_aload_n hx hb d_MO_newThing_100 rfl (lv_at hl 1 rfl) ?_
    refine va_get (v := .ref (lay 14)) (C := R_MO) (T := F_MO) (N := 41) hx hb hts i_MO hown hK hP 0 (mw_at (by decide) (mc_0 _ _ _ _)) rfl 25 (by decide) (hts _ wd_725) (fun _ h9 => h9) rfl d_MO_newThing_101 ?_
    refine lv_iload_n hx hb d_MO_newThing_104 rfl (lv_at hl 0 rfl) ?_
    refine lv_iload_n hx hb d_MO_newThing_105 rfl (lv_at hl 3 rfl) ?_
    obtain ⟨hg24, h⟩ := xg h
    refine mas_14 hx hb E hP hS hg24 d_MO_newThing_106 (fun H locs hP hS => ?_)
    refine lv_aload_n hx hb d_MO_newThing_107 rfl (lv_at hl 1 rfl) ?_
    refine va_get (v := .ref (lay 15)) (C := R_MO) (T := F_MO) (N := 41) hx hb hts i_MO hown hK hP 0 (mw_at (by decide) (mc_0 _ _ _ _)) rfl 26 (by decide) (hts _ wd_726) (fun _ h9 => h9) rfl d_MO_newThing_108 ?_
    refine lv_iload_n hx hb d_MO_newThing_111 rfl (lv_at hl 0 rfl) ?_
    refine lv_aload_n hx hb d_MO_newThing_112 rfl (lv_at hl 1 rfl) ?_
    refine va_get (v := .ref (lay 10)) (C := R_MO) (T := F_MO) (N := 41) hx hb hts i_MO hown hK hP 0 (mw_at (by decide) (mc_0 _ _ _ _)) rfl 21 (by decide) (hts _ wd_721) (fun _ h9 => h9) rfl d_MO_newThing_113 ?_
    refine lv_bipush (v := (6 : Int32)) hx hb d_MO_newThing_116 (by decide) ?_
    refine lv_iload_n hx hb d_MO_newThing_118 rfl (lv_at hl 2 rfl) ?_
    refine lv_imul hx hb d_MO_newThing_119 ?_
    refine lv_iload_n hx hb d_MO_newThing_120 rfl (lv_at hl 3 rfl) ?_
    refine lv_iadd hx hb d_MO_newThing_121 ?_
    obtain ⟨hg25, h⟩ := xg h
    refine mal_10 hx hb E hP hg25 d_MO_newThing_122 ?_
    obtain ⟨hg26, h⟩ := xg h
    refine mas_15 hx hb E hP hS hg26 d_MO_newThing_123 (fun H locs hP hS => ?_)
    refine lv_iconst (v := (0 : Int32)) hx hb d_MO_newThing_124 (by decide) ?_
    refine lv_istore (lv' := [(4, .int (0 : Int32)), (3, .int (((40 : Int32) * a1) + (xgi S 13 a1.toNatClampNeg))), (0, .ref (lay 0)), (1, .int a1), (2, .int a2)]) hx hb d_MO_newThing_125 hl (by decide) rfl (fun ls hl => ?_)
    exact k_MO_newThing_127 l C E 4096 (xpi (xpi (xpl S 17 (((40 : Int32) * a1) + (xgi S 13 a1.toNatClampNeg)).toNatClampNeg (xgl S 0 10)) 14 (((40 : Int32) * a1) + (xgi S 13 a1.toNatClampNeg)).toNatClampNeg a2) 15 (((40 : Int32) * a1) + (xgi S 13 a1.toNatClampNeg)).toNatClampNeg (xgi (xpi (xpl S 17 (((40 : Int32) * a1) + (xgi S 13 a1.toNatClampNeg)).toNatClampNeg (xgl S 0 10)) 14 (((40 : Int32) * a1) + (xgi S 13 a1.toNatClampNeg)).toNatClampNeg a2) 10 (((6 : Int32) * a1) + a2).toNatClampNeg)) a1 a2 (((40 : Int32) * a1) + (xgi S 13 a1.toNatClampNeg)) (0 : Int32) _ h H locs ls hP hS (lv_sub hl [2, 3, 4, 1, 0] rfl)
  · have h := xif_t c_27 h
    refine lv_iconst (v := (-1 : Int32)) hx hb d_MO_newThing_76 (by decide) ?_
    have h9 := Option.some.inj h
    subst h9
    exact W.iret (v := (-1 : Int32)) hx hb hr (fun t ht hW => ⟨⟨(-1 : Int32), (), rfl, rfl, by show va_P D xcl _ t.heap; rw [ht]; exact hP⟩, hS.F ht⟩) hS.2.2 d_MO_newThing_77
def f_MO_newThing_40 (S : XS) (a1 : Int32) (a2 : Int32) : Option (Int32 × XS) :=
  (f_MO_good S).bind fun q13 => if q13 = 0 then (f_MO_newThing_69 S a1 a2) else ((f_MO_find S a1 (xgl S 0 10)).bind fun q15 => if q15 = (-1 : Int32) then (f_MO_newThing_69 S a1 a2) else ((f_MO_fail S (3 : Int32) (xgi S 0 6)).bind fun q17 => f_MO_newThing_69 q17 a1 a2))
set_option maxHeartbeats 4000000 in
set_option maxRecDepth 100000 in
theorem k_MO_newThing_40 (l : Launch) {p : Program} {e : Env} {s : State} {m : MethodId} {args : Array Value} {below : List Frame} {meth : Method} {c : Code} {D : va_G} {lay : Nat → Nat} {cA : Nat → ClassId} (C : xB p s m args meth c R_MO b_MO_newThing ((Option.some Jvm.ClassFile.FieldType.int)) 5) (E : mE D lay cA s s.heap) : ∀ (S : XS) (a1 : Int32) (a2 : Int32) (r : Int32 × XS) (_ : f_MO_newThing_40 S a1 a2 = some r) (H : Heap) (locs : List Loc) (ls : Array Slot), va_P D xcl (mw lay cA S) H → va_S (mI lay) s.heap H locs → lv_has ls 5 [(0, .ref (lay 0)), (1, .int a1), (2, .int a2)] → W p l e rm_MO_newThing s m args below meth c H locs 0 0 (MQ below (mqi D lay cA r.1 r.2) args s 0 0 (mI lay)) (F0 m 40 ls []) := by
  obtain ⟨hx, hb, hr, hml, hown, hts, hlk, hnh⟩ := id C
  have hK := E.K
  intro S a1 a2 r h H locs ls hP hS hl
  unfold f_MO_newThing_40 at h
  refine lv_aload_n hx hb d_MO_newThing_40 rfl (lv_at hl 0 rfl) ?_
  obtain ⟨q13, e12, h⟩ := xb h
  refine mc_i (va_runV (As := []) (rest := []) ⟨hx, hb, hml, hown, hts⟩ (c_MO_good l D lay cA S q13 e12) (cwV 0 hts (xT_V wd_882 wd_884 wp_29 wd_7 wd_885) rfl rfl rfl (by decide +kernel) ⟨Nat.le_of_ble_eq_true rfl, Nat.le_of_ble_eq_true rfl⟩) (mpV E hP hS (by decide) (mc_0 _ _ _ _) rfl) rfl rfl hl.1 rfl (lv_room (Nat.le_of_ble_eq_true rfl)) d_MO_newThing_41 ⟨Nat.le_of_ble_eq_true rfl, Nat.le_of_ble_eq_true rfl⟩) hS (fun H locs hP hS => ?_)
  refine lv_if_eq (tgt := 69) hx hb d_MO_newThing_44 (by decide) (fun c_19 => ?_) (fun c_19 => ?_)
  · have h := xif_t c_19 h
    exact k_MO_newThing_69 l C E S a1 a2 _ h H locs ls hP hS hl
  · have h := xif_f c_19 h
    refine lv_aload_n hx hb d_MO_newThing_47 rfl (lv_at hl 0 rfl) ?_
    refine lv_iload_n hx hb d_MO_newThing_48 rfl (lv_at hl 1 rfl) ?_
    refine lv_aload_n hx hb d_MO_newThing_49 rfl (lv_at hl 0 rfl) ?_
    refine va_get (v := .long (xgl S 0 10)) (C := R_MO) (T := F_MO) (N := 41) hx hb hts i_MO hown hK hP 0 (mw_at (by decide) (mc_0 _ _ _ _)) rfl 10 (by decide) (hts _ wd_710) (fun _ h9 => h9) rfl d_MO_newThing_50 ?_
    obtain ⟨q15, e14, h⟩ := xb h
    refine mc_i (va_runV (As := [.int a1, .long (xgl S 0 10)]) (rest := []) ⟨hx, hb, hml, hown, hts⟩ (c_MO_find l D lay cA S a1 (xgl S 0 10) q15 e14) (cwV 2 hts (xT_V wd_933 wd_935 wp_41 wd_7 wd_936) rfl rfl rfl (by decide +kernel) ⟨Nat.le_of_ble_eq_true rfl, Nat.le_of_ble_eq_true rfl⟩) (mpV E hP hS (by decide) (mc_0 _ _ _ _) rfl) rfl rfl hl.1 rfl (lv_room (Nat.le_of_ble_eq_true rfl)) d_MO_newThing_53 ⟨Nat.le_of_ble_eq_true rfl, Nat.le_of_ble_eq_true rfl⟩) hS (fun H locs hP hS => ?_)
    refine lv_iconst (v := (-1 : Int32)) hx hb d_MO_newThing_56 (by decide) ?_
    refine lv_icmp_eq (tgt := 69) hx hb d_MO_newThing_57 (by decide) (fun c_18 => ?_) (fun c_18 => ?_)
    · have h := xif_t c_18 h
      exact k_MO_newThing_69 l C E S a1 a2 _ h H locs ls hP hS hl
    · have h := xif_f c_18 h
      refine lv_aload_n hx hb d_MO_newThing_60 rfl (lv_at hl 0 rfl) ?_
      refine lv_iconst (v := (3 : Int32)) hx hb d_MO_newThing_61 (by decide) ?_
      refine lv_aload_n hx hb d_MO_newThing_62 rfl (lv_at hl 0 rfl) ?_
      refine va_get (v := .int (xgi S 0 6)) (C := R_MO) (T := F_MO) (N := 41) hx hb hts i_MO hown hK hP 0 (mw_at (by decide) (mc_0 _ _ _ _)) rfl 6 (by decide) (hts _ wd_706) (fun _ h9 => h9) rfl d_MO_newThing_63 ?_
      obtain ⟨q17, e16, h⟩ := xb h
      refine mc_v (va_runV (As := [.int (3 : Int32), .int (xgi S 0 6)]) (rest := []) ⟨hx, hb, hml, hown, hts⟩ (c_MO_fail l D lay cA S (3 : Int32) (xgi S 0 6) q17 e16) (cwV 2 hts (xT_V wd_890 wd_892 wp_31 wd_7 wd_893) rfl rfl rfl (by decide +kernel) ⟨Nat.le_of_ble_eq_true rfl, Nat.le_of_ble_eq_true rfl⟩) (mpV E hP hS (by decide) (mc_0 _ _ _ _) rfl) rfl rfl hl.1 rfl (lv_room (Nat.le_of_ble_eq_true rfl)) d_MO_newThing_66 ⟨Nat.le_of_ble_eq_true rfl, Nat.le_of_ble_eq_true rfl⟩) hS (fun H locs hP hS => ?_)
      exact k_MO_newThing_69 l C E q17 a1 a2 _ h H locs ls hP hS hl
def f_MO_newThing_27 (S : XS) (a1 : Int32) (a2 : Int32) : Option (Int32 × XS) :=
  if (xgi S 0 8) = (1 : Int32) then (f_MO_newThing_40 S a1 a2) else ((f_MO_bad S (1 : Int32)).bind fun q10 => f_MO_newThing_40 q10 a1 a2)
set_option maxHeartbeats 4000000 in
set_option maxRecDepth 100000 in
theorem k_MO_newThing_27 (l : Launch) {p : Program} {e : Env} {s : State} {m : MethodId} {args : Array Value} {below : List Frame} {meth : Method} {c : Code} {D : va_G} {lay : Nat → Nat} {cA : Nat → ClassId} (C : xB p s m args meth c R_MO b_MO_newThing ((Option.some Jvm.ClassFile.FieldType.int)) 5) (E : mE D lay cA s s.heap) : ∀ (S : XS) (a1 : Int32) (a2 : Int32) (r : Int32 × XS) (_ : f_MO_newThing_27 S a1 a2 = some r) (H : Heap) (locs : List Loc) (ls : Array Slot), va_P D xcl (mw lay cA S) H → va_S (mI lay) s.heap H locs → lv_has ls 5 [(0, .ref (lay 0)), (1, .int a1), (2, .int a2)] → W p l e rm_MO_newThing s m args below meth c H locs 0 0 (MQ below (mqi D lay cA r.1 r.2) args s 0 0 (mI lay)) (F0 m 27 ls []) := by
  obtain ⟨hx, hb, hr, hml, hown, hts, hlk, hnh⟩ := id C
  have hK := E.K
  intro S a1 a2 r h H locs ls hP hS hl
  unfold f_MO_newThing_27 at h
  refine lv_aload_n hx hb d_MO_newThing_27 rfl (lv_at hl 0 rfl) ?_
  refine va_get (v := .int (xgi S 0 8)) (C := R_MO) (T := F_MO) (N := 41) hx hb hts i_MO hown hK hP 0 (mw_at (by decide) (mc_0 _ _ _ _)) rfl 8 (by decide) (hts _ wd_708) (fun _ h9 => h9) rfl d_MO_newThing_28 ?_
  refine lv_iconst (v := (1 : Int32)) hx hb d_MO_newThing_31 (by decide) ?_
  refine lv_icmp_eq (tgt := 40) hx hb d_MO_newThing_32 (by decide) (fun c_11 => ?_) (fun c_11 => ?_)
  · have h := xif_t c_11 h
    exact k_MO_newThing_40 l C E S a1 a2 _ h H locs ls hP hS hl
  · have h := xif_f c_11 h
    refine lv_aload_n hx hb d_MO_newThing_35 rfl (lv_at hl 0 rfl) ?_
    refine lv_iconst (v := (1 : Int32)) hx hb d_MO_newThing_36 (by decide) ?_
    obtain ⟨q10, e9, h⟩ := xb h
    refine mc_v (va_runV (As := [.int (1 : Int32)]) (rest := []) ⟨hx, hb, hml, hown, hts⟩ (c_MO_bad l D lay cA S (1 : Int32) q10 e9) (cwV 1 hts (xT_V wd_886 wd_888 wp_30 wd_7 wd_889) rfl rfl rfl (by decide +kernel) ⟨Nat.le_of_ble_eq_true rfl, Nat.le_of_ble_eq_true rfl⟩) (mpV E hP hS (by decide) (mc_0 _ _ _ _) rfl) rfl rfl hl.1 rfl (lv_room (Nat.le_of_ble_eq_true rfl)) d_MO_newThing_37 ⟨Nat.le_of_ble_eq_true rfl, Nat.le_of_ble_eq_true rfl⟩) hS (fun H locs hP hS => ?_)
    exact k_MO_newThing_40 l C E q10 a1 a2 _ h H locs ls hP hS hl
def f_MO_newThing (S : XS) (a1 : Int32) (a2 : Int32) : Option (Int32 × XS) :=
  (f_MO_next S).bind fun q2 => if ¬ ((((6 : Int32) * a1) + a2) < 0 ∨ 48 ≤ (((6 : Int32) * a1) + a2).toNatClampNeg) then ((f_MO_most q2 a2).bind fun q5 => if (xgi q2 10 (((6 : Int32) * a1) + a2).toNatClampNeg) = q5 then ((f_MO_bad q2 (4 : Int32)).bind fun q7 => f_MO_newThing_27 q7 a1 a2) else (f_MO_newThing_27 q2 a1 a2)) else none
set_option maxHeartbeats 4000000 in
set_option maxRecDepth 100000 in
theorem k_MO_newThing (l : Launch) {p : Program} {e : Env} {s : State} {m : MethodId} {args : Array Value} {below : List Frame} {meth : Method} {c : Code} {D : va_G} {lay : Nat → Nat} {cA : Nat → ClassId} (C : xB p s m args meth c R_MO b_MO_newThing ((Option.some Jvm.ClassFile.FieldType.int)) 5) (E : mE D lay cA s s.heap) : ∀ (S : XS) (a1 : Int32) (a2 : Int32) (r : Int32 × XS) (_ : f_MO_newThing S a1 a2 = some r) (H : Heap) (locs : List Loc) (ls : Array Slot), va_P D xcl (mw lay cA S) H → va_S (mI lay) s.heap H locs → lv_has ls 5 [(0, .ref (lay 0)), (1, .int a1), (2, .int a2)] → W p l e rm_MO_newThing s m args below meth c H locs 0 0 (MQ below (mqi D lay cA r.1 r.2) args s 0 0 (mI lay)) (F0 m 0 ls []) := by
  obtain ⟨hx, hb, hr, hml, hown, hts, hlk, hnh⟩ := id C
  have hK := E.K
  intro S a1 a2 r h H locs ls hP hS hl
  unfold f_MO_newThing at h
  refine lv_aload_n hx hb d_MO_newThing_0 rfl (lv_at hl 0 rfl) ?_
  obtain ⟨q2, e1, h⟩ := xb h
  refine mc_v (va_runV (As := []) (rest := []) ⟨hx, hb, hml, hown, hts⟩ (c_MO_next l D lay cA S q2 e1) (cwV 0 hts (xT_V wd_841 wd_843 wp_21 wd_7 wd_844) rfl rfl rfl (by decide +kernel) ⟨Nat.le_of_ble_eq_true rfl, Nat.le_of_ble_eq_true rfl⟩) (mpV E hP hS (by decide) (mc_0 _ _ _ _) rfl) rfl rfl hl.1 rfl (lv_room (Nat.le_of_ble_eq_true rfl)) d_MO_newThing_1 ⟨Nat.le_of_ble_eq_true rfl, Nat.le_of_ble_eq_true rfl⟩) hS (fun H locs hP hS => ?_)
  refine lv_aload_n hx hb d_MO_newThing_4 rfl (lv_at hl 0 rfl) ?_
  refine va_get (v := .ref (lay 10)) (C := R_MO) (T := F_MO) (N := 41) hx hb hts i_MO hown hK hP 0 (mw_at (by decide) (mc_0 _ _ _ _)) rfl 21 (by decide) (hts _ wd_721) (fun _ h9 => h9) rfl d_MO_newThing_5 ?_
  refine lv_bipush (v := (6 : Int32)) hx hb d_MO_newThing_8 (by decide) ?_
  refine lv_iload_n hx hb d_MO_newThing_10 rfl (lv_at hl 1 rfl) ?_
  refine lv_imul hx hb d_MO_newThing_11 ?_
  refine lv_iload_n hx hb d_MO_newThing_12 rfl (lv_at hl 2 rfl) ?_
  refine lv_iadd hx hb d_MO_newThing_13 ?_
  obtain ⟨hg3, h⟩ := xg h
  refine mal_10 hx hb E hP hg3 d_MO_newThing_14 ?_
  refine lv_iload_n hx hb d_MO_newThing_15 rfl (lv_at hl 2 rfl) ?_
  obtain ⟨q5, e4, h⟩ := xb h
  refine mc_i (va_runS (As := [.int a2]) (rest := [.int (xgi q2 10 (((6 : Int32) * a1) + a2).toNatClampNeg)]) ⟨hx, hb, hml, hown, hts⟩ (c_MO_most l D lay cA q2 a2 q5 e4) ⟨callB_of 1 hts (xT_I wd_932) rfl rfl rfl (hts _ wd_7) (hts _ wd_930) (by decide +kernel) ⟨Nat.le_of_ble_eq_true rfl, Nat.le_of_ble_eq_true rfl⟩, hts _ wd_931⟩ (mpS E hP hS) rfl rfl hl.1 rfl (lv_room (Nat.le_of_ble_eq_true rfl)) d_MO_newThing_16 ⟨Nat.le_of_ble_eq_true rfl, Nat.le_of_ble_eq_true rfl⟩) hS (fun H locs hP hS => ?_)
  refine lv_icmp_ne (tgt := 27) hx hb d_MO_newThing_19 (by decide) (fun c_8 => ?_) (fun c_8 => ?_)
  · have h := xif_f c_8 h
    exact k_MO_newThing_27 l C E q2 a1 a2 _ h H locs ls hP hS hl
  · have h := xif_t c_8 h
    refine lv_aload_n hx hb d_MO_newThing_22 rfl (lv_at hl 0 rfl) ?_
    refine lv_iconst (v := (4 : Int32)) hx hb d_MO_newThing_23 (by decide) ?_
    obtain ⟨q7, e6, h⟩ := xb h
    refine mc_v (va_runV (As := [.int (4 : Int32)]) (rest := []) ⟨hx, hb, hml, hown, hts⟩ (c_MO_bad l D lay cA q2 (4 : Int32) q7 e6) (cwV 1 hts (xT_V wd_886 wd_888 wp_30 wd_7 wd_889) rfl rfl rfl (by decide +kernel) ⟨Nat.le_of_ble_eq_true rfl, Nat.le_of_ble_eq_true rfl⟩) (mpV E hP hS (by decide) (mc_0 _ _ _ _) rfl) rfl rfl hl.1 rfl (lv_room (Nat.le_of_ble_eq_true rfl)) d_MO_newThing_24 ⟨Nat.le_of_ble_eq_true rfl, Nat.le_of_ble_eq_true rfl⟩) hS (fun H locs hP hS => ?_)
    exact k_MO_newThing_27 l C E q7 a1 a2 _ h H locs ls hP hS hl
theorem c_MO_newThing (l : Launch) (D : va_G) (lay : Nat → Nat) (cA : Nat → ClassId) (S : XS) (a1 : Int32) (a2 : Int32) (r : Int32 × XS) (h : f_MO_newThing S a1 a2 = some r) : Met l y_MO_newThing (.code y_MO_newThing b_MO_newThing 5 ((Option.some Jvm.ClassFile.FieldType.int)) :: xT) rm_MO_newThing (mPc D lay cA S [.ref (lay 0), .int a1, .int a2]) (mqi D lay cA r.1 r.2) 0 0 (mI lay) := by
  refine Met.ofW (cc := b_MO_newThing) (maxL := 5) (ret := (Option.some Jvm.ClassFile.FieldType.int)) (by decide +kernel) rfl ?_
  intro p e s m args below meth c s₁ B hml hv
  obtain ⟨rfl, hP, E⟩ := hv
  have C := xB_of B hml
  have hl := lv_entry ([.ref (lay 0), .int a1, .int a2]) (n := 5) (Nat.le_of_ble_eq_true rfl)
  rw [lg_entry_eq]
  generalize (lg_sl ([.ref (lay 0), .int a1, .int a2]) ++ List.replicate (5 - (lg_sl ([.ref (lay 0), .int a1, .int a2])).length) Slot.unset).toArray = ls at hl ⊢
  exact k_MO_newThing l C E S a1 a2 r h s.heap [] ls hP va_S.rf hl
/-! ConfigTextsModel.readProcess(I)V -/
def rm_MO_readProcess : Room := { frames := 5, cells := 0, slots := 0, locals := 114 }
theorem d_MO_readProcess_0 : decode b_MO_readProcess 0 = .ok (.aload_n 0, 1) := by decide +kernel
theorem d_MO_readProcess_1 : decode b_MO_readProcess 1 = .ok (.iload_n 1, 1) := by decide +kernel
theorem d_MO_readProcess_2 : decode b_MO_readProcess 2 = .ok (.iconst 0, 1) := by decide +kernel
theorem d_MO_readProcess_3 : decode b_MO_readProcess 3 = .ok (.invokevirtual 251, 3) := by decide +kernel
theorem d_MO_readProcess_6 : decode b_MO_readProcess 6 = .ok (.istore_n 2, 1) := by decide +kernel
theorem d_MO_readProcess_7 : decode b_MO_readProcess 7 = .ok (.iload_n 2, 1) := by decide +kernel
theorem d_MO_readProcess_8 : decode b_MO_readProcess 8 = .ok (.iconst (-1), 1) := by decide +kernel
theorem d_MO_readProcess_9 : decode b_MO_readProcess 9 = .ok (.if_icmp .ne 4, 3) := by decide +kernel
theorem d_MO_readProcess_12 : decode b_MO_readProcess 12 = .ok (.return_, 1) := by decide +kernel
theorem d_MO_readProcess_13 : decode b_MO_readProcess 13 = .ok (.aload_n 0, 1) := by decide +kernel
theorem d_MO_readProcess_14 : decode b_MO_readProcess 14 = .ok (.bipush 123, 2) := by decide +kernel
theorem d_MO_readProcess_16 : decode b_MO_readProcess 16 = .ok (.invokevirtual 238, 3) := by decide +kernel
theorem d_MO_readProcess_19 : decode b_MO_readProcess 19 = .ok (.aload_n 0, 1) := by decide +kernel
theorem d_MO_readProcess_20 : decode b_MO_readProcess 20 = .ok (.getfield 131, 3) := by decide +kernel
theorem d_MO_readProcess_23 : decode b_MO_readProcess 23 = .ok (.iconst 5, 1) := by decide +kernel
theorem d_MO_readProcess_24 : decode b_MO_readProcess 24 = .ok (.iload_n 2, 1) := by decide +kernel
theorem d_MO_readProcess_25 : decode b_MO_readProcess 25 = .ok (.imul, 1) := by decide +kernel
theorem d_MO_readProcess_26 : decode b_MO_readProcess 26 = .ok (.aload_n 0, 1) := by decide +kernel
theorem d_MO_readProcess_27 : decode b_MO_readProcess 27 = .ok (.iconst 3, 1) := by decide +kernel
theorem d_MO_readProcess_28 : decode b_MO_readProcess 28 = .ok (.iconst 0, 1) := by decide +kernel
theorem d_MO_readProcess_29 : decode b_MO_readProcess 29 = .ok (.aload_n 0, 1) := by decide +kernel
theorem d_MO_readProcess_30 : decode b_MO_readProcess 30 = .ok (.getfield 99, 3) := by decide +kernel
theorem d_MO_readProcess_33 : decode b_MO_readProcess 33 = .ok (.iload_n 1, 1) := by decide +kernel
theorem d_MO_readProcess_34 : decode b_MO_readProcess 34 = .ok (.iaload, 1) := by decide +kernel
theorem d_MO_readProcess_35 : decode b_MO_readProcess 35 = .ok (.iconst 1, 1) := by decide +kernel
theorem d_MO_readProcess_36 : decode b_MO_readProcess 36 = .ok (.isub, 1) := by decide +kernel
theorem d_MO_readProcess_37 : decode b_MO_readProcess 37 = .ok (.iconst 4, 1) := by decide +kernel
theorem d_MO_readProcess_38 : decode b_MO_readProcess 38 = .ok (.invokevirtual 255, 3) := by decide +kernel
theorem d_MO_readProcess_41 : decode b_MO_readProcess 41 = .ok (.iastore, 1) := by decide +kernel
theorem d_MO_readProcess_42 : decode b_MO_readProcess 42 = .ok (.aload_n 0, 1) := by decide +kernel
theorem d_MO_readProcess_43 : decode b_MO_readProcess 43 = .ok (.getfield 131, 3) := by decide +kernel
theorem d_MO_readProcess_46 : decode b_MO_readProcess 46 = .ok (.iconst 5, 1) := by decide +kernel
theorem d_MO_readProcess_47 : decode b_MO_readProcess 47 = .ok (.iload_n 2, 1) := by decide +kernel
theorem d_MO_readProcess_48 : decode b_MO_readProcess 48 = .ok (.imul, 1) := by decide +kernel
theorem d_MO_readProcess_49 : decode b_MO_readProcess 49 = .ok (.iconst 1, 1) := by decide +kernel
theorem d_MO_readProcess_50 : decode b_MO_readProcess 50 = .ok (.iadd, 1) := by decide +kernel
theorem d_MO_readProcess_51 : decode b_MO_readProcess 51 = .ok (.aload_n 0, 1) := by decide +kernel
theorem d_MO_readProcess_52 : decode b_MO_readProcess 52 = .ok (.iconst 4, 1) := by decide +kernel
theorem d_MO_readProcess_53 : decode b_MO_readProcess 53 = .ok (.iconst 0, 1) := by decide +kernel
theorem d_MO_readProcess_54 : decode b_MO_readProcess 54 = .ok (.bipush 15, 2) := by decide +kernel
theorem d_MO_readProcess_56 : decode b_MO_readProcess 56 = .ok (.iconst 1, 1) := by decide +kernel
theorem d_MO_readProcess_57 : decode b_MO_readProcess 57 = .ok (.invokevirtual 255, 3) := by decide +kernel
theorem d_MO_readProcess_60 : decode b_MO_readProcess 60 = .ok (.iastore, 1) := by decide +kernel
theorem d_MO_readProcess_61 : decode b_MO_readProcess 61 = .ok (.aload_n 0, 1) := by decide +kernel
theorem d_MO_readProcess_62 : decode b_MO_readProcess 62 = .ok (.iconst 5, 1) := by decide +kernel
theorem d_MO_readProcess_63 : decode b_MO_readProcess 63 = .ok (.invokevirtual 228, 3) := by decide +kernel
theorem d_MO_readProcess_66 : decode b_MO_readProcess 66 = .ok (.ifCond .eq 23, 3) := by decide +kernel
theorem d_MO_readProcess_69 : decode b_MO_readProcess 69 = .ok (.aload_n 0, 1) := by decide +kernel
theorem d_MO_readProcess_70 : decode b_MO_readProcess 70 = .ok (.getfield 131, 3) := by decide +kernel
theorem d_MO_readProcess_73 : decode b_MO_readProcess 73 = .ok (.iconst 5, 1) := by decide +kernel
theorem d_MO_readProcess_74 : decode b_MO_readProcess 74 = .ok (.iload_n 2, 1) := by decide +kernel
theorem d_MO_readProcess_75 : decode b_MO_readProcess 75 = .ok (.imul, 1) := by decide +kernel
theorem d_MO_readProcess_76 : decode b_MO_readProcess 76 = .ok (.iconst 2, 1) := by decide +kernel
theorem d_MO_readProcess_77 : decode b_MO_readProcess 77 = .ok (.iadd, 1) := by decide +kernel
theorem d_MO_readProcess_78 : decode b_MO_readProcess 78 = .ok (.aload_n 0, 1) := by decide +kernel
theorem d_MO_readProcess_79 : decode b_MO_readProcess 79 = .ok (.iconst 5, 1) := by decide +kernel
theorem d_MO_readProcess_80 : decode b_MO_readProcess 80 = .ok (.iconst 1, 1) := by decide +kernel
theorem d_MO_readProcess_81 : decode b_MO_readProcess 81 = .ok (.ldc_w 259, 3) := by decide +kernel
theorem d_MO_readProcess_84 : decode b_MO_readProcess 84 = .ok (.iconst 1, 1) := by decide +kernel
theorem d_MO_readProcess_85 : decode b_MO_readProcess 85 = .ok (.invokevirtual 255, 3) := by decide +kernel
theorem d_MO_readProcess_88 : decode b_MO_readProcess 88 = .ok (.iastore, 1) := by decide +kernel
theorem d_MO_readProcess_89 : decode b_MO_readProcess 89 = .ok (.aload_n 0, 1) := by decide +kernel
theorem d_MO_readProcess_90 : decode b_MO_readProcess 90 = .ok (.bipush 6, 2) := by decide +kernel
theorem d_MO_readProcess_92 : decode b_MO_readProcess 92 = .ok (.invokevirtual 228, 3) := by decide +kernel
theorem d_MO_readProcess_95 : decode b_MO_readProcess 95 = .ok (.ifCond .eq 24, 3) := by decide +kernel
theorem d_MO_readProcess_98 : decode b_MO_readProcess 98 = .ok (.aload_n 0, 1) := by decide +kernel
theorem d_MO_readProcess_99 : decode b_MO_readProcess 99 = .ok (.getfield 131, 3) := by decide +kernel
theorem d_MO_readProcess_102 : decode b_MO_readProcess 102 = .ok (.iconst 5, 1) := by decide +kernel
theorem d_MO_readProcess_103 : decode b_MO_readProcess 103 = .ok (.iload_n 2, 1) := by decide +kernel
theorem d_MO_readProcess_104 : decode b_MO_readProcess 104 = .ok (.imul, 1) := by decide +kernel
theorem d_MO_readProcess_105 : decode b_MO_readProcess 105 = .ok (.iconst 3, 1) := by decide +kernel
theorem d_MO_readProcess_106 : decode b_MO_readProcess 106 = .ok (.iadd, 1) := by decide +kernel
theorem d_MO_readProcess_107 : decode b_MO_readProcess 107 = .ok (.aload_n 0, 1) := by decide +kernel
theorem d_MO_readProcess_108 : decode b_MO_readProcess 108 = .ok (.bipush 6, 2) := by decide +kernel
theorem d_MO_readProcess_110 : decode b_MO_readProcess 110 = .ok (.iconst 1, 1) := by decide +kernel
theorem d_MO_readProcess_111 : decode b_MO_readProcess 111 = .ok (.ldc_w 259, 3) := by decide +kernel
theorem d_MO_readProcess_114 : decode b_MO_readProcess 114 = .ok (.iconst 1, 1) := by decide +kernel
theorem d_MO_readProcess_115 : decode b_MO_readProcess 115 = .ok (.invokevirtual 255, 3) := by decide +kernel
theorem d_MO_readProcess_118 : decode b_MO_readProcess 118 = .ok (.iastore, 1) := by decide +kernel
theorem d_MO_readProcess_119 : decode b_MO_readProcess 119 = .ok (.aload_n 0, 1) := by decide +kernel
theorem d_MO_readProcess_120 : decode b_MO_readProcess 120 = .ok (.bipush 7, 2) := by decide +kernel
theorem d_MO_readProcess_122 : decode b_MO_readProcess 122 = .ok (.invokevirtual 228, 3) := by decide +kernel
theorem d_MO_readProcess_125 : decode b_MO_readProcess 125 = .ok (.ifCond .eq 47, 3) := by decide +kernel
theorem d_MO_readProcess_128 : decode b_MO_readProcess 128 = .ok (.aload_n 0, 1) := by decide +kernel
theorem d_MO_readProcess_129 : decode b_MO_readProcess 129 = .ok (.getfield 103, 3) := by decide +kernel
theorem d_MO_readProcess_132 : decode b_MO_readProcess 132 = .ok (.iload_n 1, 1) := by decide +kernel
theorem d_MO_readProcess_133 : decode b_MO_readProcess 133 = .ok (.iaload, 1) := by decide +kernel
theorem d_MO_readProcess_134 : decode b_MO_readProcess 134 = .ok (.iconst (-1), 1) := by decide +kernel
theorem d_MO_readProcess_135 : decode b_MO_readProcess 135 = .ok (.if_icmp .eq 13, 3) := by decide +kernel
theorem d_MO_readProcess_138 : decode b_MO_readProcess 138 = .ok (.aload_n 0, 1) := by decide +kernel
theorem d_MO_readProcess_139 : decode b_MO_readProcess 139 = .ok (.bipush 7, 2) := by decide +kernel
theorem d_MO_readProcess_141 : decode b_MO_readProcess 141 = .ok (.aload_n 0, 1) := by decide +kernel
theorem d_MO_readProcess_142 : decode b_MO_readProcess 142 = .ok (.getfield 185, 3) := by decide +kernel
theorem d_MO_readProcess_145 : decode b_MO_readProcess 145 = .ok (.invokevirtual 210, 3) := by decide +kernel
theorem d_MO_readProcess_148 : decode b_MO_readProcess 148 = .ok (.aload_n 0, 1) := by decide +kernel
theorem d_MO_readProcess_149 : decode b_MO_readProcess 149 = .ok (.getfield 103, 3) := by decide +kernel
theorem d_MO_readProcess_152 : decode b_MO_readProcess 152 = .ok (.iload_n 1, 1) := by decide +kernel
theorem d_MO_readProcess_153 : decode b_MO_readProcess 153 = .ok (.aload_n 0, 1) := by decide +kernel
theorem d_MO_readProcess_154 : decode b_MO_readProcess 154 = .ok (.getfield 128, 3) := by decide +kernel
theorem d_MO_readProcess_157 : decode b_MO_readProcess 157 = .ok (.iload_n 2, 1) := by decide +kernel
theorem d_MO_readProcess_158 : decode b_MO_readProcess 158 = .ok (.iaload, 1) := by decide +kernel
theorem d_MO_readProcess_159 : decode b_MO_readProcess 159 = .ok (.iastore, 1) := by decide +kernel
theorem d_MO_readProcess_160 : decode b_MO_readProcess 160 = .ok (.aload_n 0, 1) := by decide +kernel
theorem d_MO_readProcess_161 : decode b_MO_readProcess 161 = .ok (.bipush 7, 2) := by decide +kernel
theorem d_MO_readProcess_163 : decode b_MO_readProcess 163 = .ok (.invokevirtual 231, 3) := by decide +kernel
theorem d_MO_readProcess_166 : decode b_MO_readProcess 166 = .ok (.aload_n 0, 1) := by decide +kernel
theorem d_MO_readProcess_167 : decode b_MO_readProcess 167 = .ok (.bipush 59, 2) := by decide +kernel
theorem d_MO_readProcess_169 : decode b_MO_readProcess 169 = .ok (.invokevirtual 238, 3) := by decide +kernel
theorem d_MO_readProcess_172 : decode b_MO_readProcess 172 = .ok (.aload_n 0, 1) := by decide +kernel
theorem d_MO_readProcess_173 : decode b_MO_readProcess 173 = .ok (.bipush 8, 2) := by decide +kernel
theorem d_MO_readProcess_175 : decode b_MO_readProcess 175 = .ok (.invokevirtual 260, 3) := by decide +kernel
theorem d_MO_readProcess_178 : decode b_MO_readProcess 178 = .ok (.ifCond .eq 20, 3) := by decide +kernel
theorem d_MO_readProcess_181 : decode b_MO_readProcess 181 = .ok (.aload_n 0, 1) := by decide +kernel
theorem d_MO_readProcess_182 : decode b_MO_readProcess 182 = .ok (.getfield 131, 3) := by decide +kernel
theorem d_MO_readProcess_185 : decode b_MO_readProcess 185 = .ok (.iconst 5, 1) := by decide +kernel
theorem d_MO_readProcess_186 : decode b_MO_readProcess 186 = .ok (.iload_n 2, 1) := by decide +kernel
theorem d_MO_readProcess_187 : decode b_MO_readProcess 187 = .ok (.imul, 1) := by decide +kernel
theorem d_MO_readProcess_188 : decode b_MO_readProcess 188 = .ok (.iconst 4, 1) := by decide +kernel
theorem d_MO_readProcess_189 : decode b_MO_readProcess 189 = .ok (.iadd, 1) := by decide +kernel
theorem d_MO_readProcess_190 : decode b_MO_readProcess 190 = .ok (.iconst 1, 1) := by decide +kernel
theorem d_MO_readProcess_191 : decode b_MO_readProcess 191 = .ok (.iastore, 1) := by decide +kernel
theorem d_MO_readProcess_192 : decode b_MO_readProcess 192 = .ok (.aload_n 0, 1) := by decide +kernel
theorem d_MO_readProcess_193 : decode b_MO_readProcess 193 = .ok (.bipush 59, 2) := by decide +kernel
theorem d_MO_readProcess_195 : decode b_MO_readProcess 195 = .ok (.invokevirtual 238, 3) := by decide +kernel
theorem d_MO_readProcess_198 : decode b_MO_readProcess 198 = .ok (.aload_n 0, 1) := by decide +kernel
theorem d_MO_readProcess_199 : decode b_MO_readProcess 199 = .ok (.bipush 125, 2) := by decide +kernel
theorem d_MO_readProcess_201 : decode b_MO_readProcess 201 = .ok (.invokevirtual 238, 3) := by decide +kernel
theorem d_MO_readProcess_204 : decode b_MO_readProcess 204 = .ok (.return_, 1) := by decide +kernel
def f_MO_readProcess_172 (S : XS) (a2 : Int32) : Option (XS) :=
  (f_MO_accept S (8 : Int32)).bind fun q33 => if q33.1 = 0 then ((f_MO_sign q33.2 (125 : Int32)).bind fun q35 => some q35) else (if ¬ ((((5 : Int32) * a2) + (4 : Int32)) < 0 ∨ 1600 ≤ (((5 : Int32) * a2) + (4 : Int32)).toNatClampNeg) then ((f_MO_sign (xpi q33.2 16 (((5 : Int32) * a2) + (4 : Int32)).toNatClampNeg (1 : Int32)) (59 : Int32)).bind fun q38 => (f_MO_sign q38 (125 : Int32)).bind fun q40 => some q40) else none)
set_option maxHeartbeats 4000000 in
set_option maxRecDepth 100000 in
theorem k_MO_readProcess_172 (l : Launch) {p : Program} {e : Env} {s : State} {m : MethodId} {args : Array Value} {below : List Frame} {meth : Method} {c : Code} {D : va_G} {lay : Nat → Nat} {cA : Nat → ClassId} (C : xB p s m args meth c R_MO b_MO_readProcess ((Option.none : Option Jvm.ClassFile.FieldType)) 3) (E : mE D lay cA s s.heap) : ∀ (S : XS) (a2 : Int32) (r : XS) (_ : f_MO_readProcess_172 S a2 = some r) (H : Heap) (locs : List Loc) (ls : Array Slot), va_P D xcl (mw lay cA S) H → va_S (mI lay) s.heap H locs → lv_has ls 3 [(0, .ref (lay 0)), (2, .int a2)] → W p l e rm_MO_readProcess s m args below meth c H locs 0 0 (MQ below (mqv D lay cA r) args s 0 0 (mI lay)) (F0 m 172 ls []) := by
  obtain ⟨hx, hb, hr, hml, hown, hts, hlk, hnh⟩ := id C
  have hK := E.K
  intro S a2 r h H locs ls hP hS hl
  unfold f_MO_readProcess_172 at h
  refine lv_aload_n hx hb d_MO_readProcess_172 rfl (lv_at hl 0 rfl) ?_
  refine lv_bipush (v := (8 : Int32)) hx hb d_MO_readProcess_173 (by decide) ?_
  obtain ⟨q33, e32, h⟩ := xb h
  refine mc_i (va_runV (As := [.int (8 : Int32)]) (rest := []) ⟨hx, hb, hml, hown, hts⟩ (c_MO_accept l D lay cA S (8 : Int32) q33 e32) (cwV 1 hts (xT_V wd_938 wd_940 wp_42 wd_7 wd_941) rfl rfl rfl (by decide +kernel) ⟨Nat.le_of_ble_eq_true rfl, Nat.le_of_ble_eq_true rfl⟩) (mpV E hP hS (by decide) (mc_0 _ _ _ _) rfl) rfl rfl hl.1 rfl (lv_room (Nat.le_of_ble_eq_true rfl)) d_MO_readProcess_175 ⟨Nat.le_of_ble_eq_true rfl, Nat.le_of_ble_eq_true rfl⟩) hS (fun H locs hP hS => ?_)
  refine lv_if_eq (tgt := 198) hx hb d_MO_readProcess_178 (by decide) (fun c_41 => ?_) (fun c_41 => ?_)
  · have h := xif_t c_41 h
    refine lv_aload_n hx hb d_MO_readProcess_198 rfl (lv_at hl 0 rfl) ?_
    refine lv_bipush (v := (125 : Int32)) hx hb d_MO_readProcess_199 (by decide) ?_
    obtain ⟨q35, e34, h⟩ := xb h
    refine mc_v (va_runV (As := [.int (125 : Int32)]) (rest := []) ⟨hx, hb, hml, hown, hts⟩ (c_MO_sign l D lay cA q33.2 (125 : Int32) q35 e34) (cwV 1 hts (xT_V wd_902 wd_904 wp_34 wd_7 wd_905) rfl rfl rfl (by decide +kernel) ⟨Nat.le_of_ble_eq_true rfl, Nat.le_of_ble_eq_true rfl⟩) (mpV E hP hS (by decide) (mc_0 _ _ _ _) rfl) rfl rfl hl.1 rfl (lv_room (Nat.le_of_ble_eq_true rfl)) d_MO_readProcess_201 ⟨Nat.le_of_ble_eq_true rfl, Nat.le_of_ble_eq_true rfl⟩) hS (fun H locs hP hS => ?_)
    have h9 := Option.some.inj h
    subst h9
    exact W.vret hx hb hr (fun t ht hW => ⟨⟨(), rfl, trivial, by show va_P D xcl _ t.heap; rw [ht]; exact hP⟩, hS.F ht⟩) hS.2.2 d_MO_readProcess_204
  · have h := xif_f c_41 h
    refine lv_aload_n hx hb d_MO_readProcess_181 rfl (lv_at hl 0 rfl) ?_
    refine va_get (v := .ref (lay 16)) (C := R_MO) (T := F_MO) (N := 41) hx hb hts i_MO hown hK hP 0 (mw_at (by decide) (mc_0 _ _ _ _)) rfl 27 (by decide) (hts _ wd_727) (fun _ h9 => h9) rfl d_MO_readProcess_182 ?_
    refine lv_iconst (v := (5 : Int32)) hx hb d_MO_readProcess_185 (by decide) ?_
    refine lv_iload_n hx hb d_MO_readProcess_186 rfl (lv_at hl 1 rfl) ?_
    refine lv_imul hx hb d_MO_readProcess_187 ?_
    refine lv_iconst (v := (4 : Int32)) hx hb d_MO_readProcess_188 (by decide) ?_
    refine lv_iadd hx hb d_MO_readProcess_189 ?_
    refine lv_iconst (v := (1 : Int32)) hx hb d_MO_readProcess_190 (by decide) ?_
    obtain ⟨hg36, h⟩ := xg h
    refine mas_16 hx hb E hP hS hg36 d_MO_readProcess_191 (fun H locs hP hS => ?_)
    refine lv_aload_n hx hb d_MO_readProcess_192 rfl (lv_at hl 0 rfl) ?_
    refine lv_bipush (v := (59 : Int32)) hx hb d_MO_readProcess_193 (by decide) ?_
    obtain ⟨q38, e37, h⟩ := xb h
    refine mc_v (va_runV (As := [.int (59 : Int32)]) (rest := []) ⟨hx, hb, hml, hown, hts⟩ (c_MO_sign l D lay cA (xpi q33.2 16 (((5 : Int32) * a2) + (4 : Int32)).toNatClampNeg (1 : Int32)) (59 : Int32) q38 e37) (cwV 1 hts (xT_V wd_902 wd_904 wp_34 wd_7 wd_905) rfl rfl rfl (by decide +kernel) ⟨Nat.le_of_ble_eq_true rfl, Nat.le_of_ble_eq_true rfl⟩) (mpV E hP hS (by decide) (mc_0 _ _ _ _) rfl) rfl rfl hl.1 rfl (lv_room (Nat.le_of_ble_eq_true rfl)) d_MO_readProcess_195 ⟨Nat.le_of_ble_eq_true rfl, Nat.le_of_ble_eq_true rfl⟩) hS (fun H locs hP hS => ?_)
    refine lv_aload_n hx hb d_MO_readProcess_198 rfl (lv_at hl 0 rfl) ?_
    refine lv_bipush (v := (125 : Int32)) hx hb d_MO_readProcess_199 (by decide) ?_
    obtain ⟨q40, e39, h⟩ := xb h
    refine mc_v (va_runV (As := [.int (125 : Int32)]) (rest := []) ⟨hx, hb, hml, hown, hts⟩ (c_MO_sign l D lay cA q38 (125 : Int32) q40 e39) (cwV 1 hts (xT_V wd_902 wd_904 wp_34 wd_7 wd_905) rfl rfl rfl (by decide +kernel) ⟨Nat.le_of_ble_eq_true rfl, Nat.le_of_ble_eq_true rfl⟩) (mpV E hP hS (by decide) (mc_0 _ _ _ _) rfl) rfl rfl hl.1 rfl (lv_room (Nat.le_of_ble_eq_true rfl)) d_MO_readProcess_201 ⟨Nat.le_of_ble_eq_true rfl, Nat.le_of_ble_eq_true rfl⟩) hS (fun H locs hP hS => ?_)
    have h9 := Option.some.inj h
    subst h9
    exact W.vret hx hb hr (fun t ht hW => ⟨⟨(), rfl, trivial, by show va_P D xcl _ t.heap; rw [ht]; exact hP⟩, hS.F ht⟩) hS.2.2 d_MO_readProcess_204
def f_MO_readProcess_148 (S : XS) (a1 : Int32) (a2 : Int32) : Option (XS) :=
  if ¬ (a2 < 0 ∨ 320 ≤ a2.toNatClampNeg) then (if ¬ (a1 < 0 ∨ 8 ≤ a1.toNatClampNeg) then ((f_MO_need (xpi S 7 a1.toNatClampNeg (xgi S 15 a2.toNatClampNeg)) (7 : Int32)).bind fun q45 => (f_MO_sign q45 (59 : Int32)).bind fun q47 => f_MO_readProcess_172 q47 a2) else none) else none
set_option maxHeartbeats 4000000 in
set_option maxRecDepth 100000 in
theorem k_MO_readProcess_148 (l : Launch) {p : Program} {e : Env} {s : State} {m : MethodId} {args : Array Value} {below : List Frame} {meth : Method} {c : Code} {D : va_G} {lay : Nat → Nat} {cA : Nat → ClassId} (C : xB p s m args meth c R_MO b_MO_readProcess ((Option.none : Option Jvm.ClassFile.FieldType)) 3) (E : mE D lay cA s s.heap) : ∀ (S : XS) (a1 : Int32) (a2 : Int32) (r : XS) (_ : f_MO_readProcess_148 S a1 a2 = some r) (H : Heap) (locs : List Loc) (ls : Array Slot), va_P D xcl (mw lay cA S) H → va_S (mI lay) s.heap H locs → lv_has ls 3 [(0, .ref (lay 0)), (1, .int a1), (2, .int a2)] → W p l e rm_MO_readProcess s m args below meth c H locs 0 0 (MQ below (mqv D lay cA r) args s 0 0 (mI lay)) (F0 m 148 ls []) := by
  obtain ⟨hx, hb, hr, hml, hown, hts, hlk, hnh⟩ := id C
  have hK := E.K
  intro S a1 a2 r h H locs ls hP hS hl
  unfold f_MO_readProcess_148 at h
  refine lv_aload_n hx hb d_MO_readProcess_148 rfl (lv_at hl 0 rfl) ?_
  refine va_get (v := .ref (lay 7)) (C := R_MO) (T := F_MO) (N := 41) hx hb hts i_MO hown hK hP 0 (mw_at (by decide) (mc_0 _ _ _ _)) rfl 18 (by decide) (hts _ wd_718) (fun _ h9 => h9) rfl d_MO_readProcess_149 ?_
  refine lv_iload_n hx hb d_MO_readProcess_152 rfl (lv_at hl 1 rfl) ?_
  refine lv_aload_n hx hb d_MO_readProcess_153 rfl (lv_at hl 0 rfl) ?_
  refine va_get (v := .ref (lay 15)) (C := R_MO) (T := F_MO) (N := 41) hx hb hts i_MO hown hK hP 0 (mw_at (by decide) (mc_0 _ _ _ _)) rfl 26 (by decide) (hts _ wd_726) (fun _ h9 => h9) rfl d_MO_readProcess_154 ?_
  refine lv_iload_n hx hb d_MO_readProcess_157 rfl (lv_at hl 2 rfl) ?_
  obtain ⟨hg42, h⟩ := xg h
  refine mal_15 hx hb E hP hg42 d_MO_readProcess_158 ?_
  obtain ⟨hg43, h⟩ := xg h
  refine mas_7 hx hb E hP hS hg43 d_MO_readProcess_159 (fun H locs hP hS => ?_)
  refine lv_aload_n hx hb d_MO_readProcess_160 rfl (lv_at hl 0 rfl) ?_
  refine lv_bipush (v := (7 : Int32)) hx hb d_MO_readProcess_161 (by decide) ?_
  obtain ⟨q45, e44, h⟩ := xb h
  refine mc_v (va_runV (As := [.int (7 : Int32)]) (rest := []) ⟨hx, hb, hml, hown, hts⟩ (c_MO_need l D lay cA (xpi S 7 a1.toNatClampNeg (xgi S 15 a2.toNatClampNeg)) (7 : Int32) q45 e44) (cwV 1 hts (xT_V wd_874 wd_876 wp_27 wd_7 wd_877) rfl rfl rfl (by decide +kernel) ⟨Nat.le_of_ble_eq_true rfl, Nat.le_of_ble_eq_true rfl⟩) (mpV E hP hS (by decide) (mc_0 _ _ _ _) rfl) rfl rfl hl.1 rfl (lv_room (Nat.le_of_ble_eq_true rfl)) d_MO_readProcess_163 ⟨Nat.le_of_ble_eq_true rfl, Nat.le_of_ble_eq_true rfl⟩) hS (fun H locs hP hS => ?_)
  refine lv_aload_n hx hb d_MO_readProcess_166 rfl (lv_at hl 0 rfl) ?_
  refine lv_bipush (v := (59 : Int32)) hx hb d_MO_readProcess_167 (by decide) ?_
  obtain ⟨q47, e46, h⟩ := xb h
  refine mc_v (va_runV (As := [.int (59 : Int32)]) (rest := []) ⟨hx, hb, hml, hown, hts⟩ (c_MO_sign l D lay cA q45 (59 : Int32) q47 e46) (cwV 1 hts (xT_V wd_902 wd_904 wp_34 wd_7 wd_905) rfl rfl rfl (by decide +kernel) ⟨Nat.le_of_ble_eq_true rfl, Nat.le_of_ble_eq_true rfl⟩) (mpV E hP hS (by decide) (mc_0 _ _ _ _) rfl) rfl rfl hl.1 rfl (lv_room (Nat.le_of_ble_eq_true rfl)) d_MO_readProcess_169 ⟨Nat.le_of_ble_eq_true rfl, Nat.le_of_ble_eq_true rfl⟩) hS (fun H locs hP hS => ?_)
  exact k_MO_readProcess_172 l C E q47 a2 _ h H locs ls hP hS (lv_sub hl [0, 2] rfl)
def f_MO_readProcess_119 (S : XS) (a1 : Int32) (a2 : Int32) : Option (XS) :=
  (f_MO_isWord S (7 : Int32)).bind fun q26 => if q26 = 0 then (f_MO_readProcess_172 S a2) else (if ¬ (a1 < 0 ∨ 8 ≤ a1.toNatClampNeg) then (if (xgi S 7 a1.toNatClampNeg) = (-1 : Int32) then (f_MO_readProcess_148 S a1 a2) else ((f_MO_fail S (7 : Int32) (xgi S 0 6)).bind fun q29 => f_MO_readProcess_148 q29 a1 a2)) else none)
set_option maxHeartbeats 4000000 in
set_option maxRecDepth 100000 in
theorem k_MO_readProcess_119 (l : Launch) {p : Program} {e : Env} {s : State} {m : MethodId} {args : Array Value} {below : List Frame} {meth : Method} {c : Code} {D : va_G} {lay : Nat → Nat} {cA : Nat → ClassId} (C : xB p s m args meth c R_MO b_MO_readProcess ((Option.none : Option Jvm.ClassFile.FieldType)) 3) (E : mE D lay cA s s.heap) : ∀ (S : XS) (a1 : Int32) (a2 : Int32) (r : XS) (_ : f_MO_readProcess_119 S a1 a2 = some r) (H : Heap) (locs : List Loc) (ls : Array Slot), va_P D xcl (mw lay cA S) H → va_S (mI lay) s.heap H locs → lv_has ls 3 [(0, .ref (lay 0)), (1, .int a1), (2, .int a2)] → W p l e rm_MO_readProcess s m args below meth c H locs 0 0 (MQ below (mqv D lay cA r) args s 0 0 (mI lay)) (F0 m 119 ls []) := by
  obtain ⟨hx, hb, hr, hml, hown, hts, hlk, hnh⟩ := id C
  have hK := E.K
  intro S a1 a2 r h H locs ls hP hS hl
  unfold f_MO_readProcess_119 at h
  refine lv_aload_n hx hb d_MO_readProcess_119 rfl (lv_at hl 0 rfl) ?_
  refine lv_bipush (v := (7 : Int32)) hx hb d_MO_readProcess_120 (by decide) ?_
  obtain ⟨q26, e25, h⟩ := xb h
  refine mc_i (va_runV (As := [.int (7 : Int32)]) (rest := []) ⟨hx, hb, hml, hown, hts⟩ (c_MO_isWord l D lay cA S (7 : Int32) q26 e25) (cwV 1 hts (xT_V wd_878 wd_880 wp_28 wd_7 wd_881) rfl rfl rfl (by decide +kernel) ⟨Nat.le_of_ble_eq_true rfl, Nat.le_of_ble_eq_true rfl⟩) (mpV E hP hS (by decide) (mc_0 _ _ _ _) rfl) rfl rfl hl.1 rfl (lv_room (Nat.le_of_ble_eq_true rfl)) d_MO_readProcess_122 ⟨Nat.le_of_ble_eq_true rfl, Nat.le_of_ble_eq_true rfl⟩) hS (fun H locs hP hS => ?_)
  refine lv_if_eq (tgt := 172) hx hb d_MO_readProcess_125 (by decide) (fun c_31 => ?_) (fun c_31 => ?_)
  · have h := xif_t c_31 h
    exact k_MO_readProcess_172 l C E S a2 _ h H locs ls hP hS (lv_sub hl [0, 2] rfl)
  · have h := xif_f c_31 h
    refine lv_aload_n hx hb d_MO_readProcess_128 rfl (lv_at hl 0 rfl) ?_
    refine va_get (v := .ref (lay 7)) (C := R_MO) (T := F_MO) (N := 41) hx hb hts i_MO hown hK hP 0 (mw_at (by decide) (mc_0 _ _ _ _)) rfl 18 (by decide) (hts _ wd_718) (fun _ h9 => h9) rfl d_MO_readProcess_129 ?_
    refine lv_iload_n hx hb d_MO_readProcess_132 rfl (lv_at hl 1 rfl) ?_
    obtain ⟨hg27, h⟩ := xg h
    refine mal_7 hx hb E hP hg27 d_MO_readProcess_133 ?_
    refine lv_iconst (v := (-1 : Int32)) hx hb d_MO_readProcess_134 (by decide) ?_
    refine lv_icmp_eq (tgt := 148) hx hb d_MO_readProcess_135 (by decide) (fun c_30 => ?_) (fun c_30 => ?_)
    · have h := xif_t c_30 h
      exact k_MO_readProcess_148 l C E S a1 a2 _ h H locs ls hP hS hl
    · have h := xif_f c_30 h
      refine lv_aload_n hx hb d_MO_readProcess_138 rfl (lv_at hl 0 rfl) ?_
      refine lv_bipush (v := (7 : Int32)) hx hb d_MO_readProcess_139 (by decide) ?_
      refine lv_aload_n hx hb d_MO_readProcess_141 rfl (lv_at hl 0 rfl) ?_
      refine va_get (v := .int (xgi S 0 6)) (C := R_MO) (T := F_MO) (N := 41) hx hb hts i_MO hown hK hP 0 (mw_at (by decide) (mc_0 _ _ _ _)) rfl 6 (by decide) (hts _ wd_706) (fun _ h9 => h9) rfl d_MO_readProcess_142 ?_
      obtain ⟨q29, e28, h⟩ := xb h
      refine mc_v (va_runV (As := [.int (7 : Int32), .int (xgi S 0 6)]) (rest := []) ⟨hx, hb, hml, hown, hts⟩ (c_MO_fail l D lay cA S (7 : Int32) (xgi S 0 6) q29 e28) (cwV 2 hts (xT_V wd_890 wd_892 wp_31 wd_7 wd_893) rfl rfl rfl (by decide +kernel) ⟨Nat.le_of_ble_eq_true rfl, Nat.le_of_ble_eq_true rfl⟩) (mpV E hP hS (by decide) (mc_0 _ _ _ _) rfl) rfl rfl hl.1 rfl (lv_room (Nat.le_of_ble_eq_true rfl)) d_MO_readProcess_145 ⟨Nat.le_of_ble_eq_true rfl, Nat.le_of_ble_eq_true rfl⟩) hS (fun H locs hP hS => ?_)
      exact k_MO_readProcess_148 l C E q29 a1 a2 _ h H locs ls hP hS hl
def f_MO_readProcess_89 (S : XS) (a1 : Int32) (a2 : Int32) : Option (XS) :=
  (f_MO_isWord S (6 : Int32)).bind fun q20 => if q20 = 0 then (f_MO_readProcess_119 S a1 a2) else ((f_MO_part S (6 : Int32) (1 : Int32) (100000 : Int32) (1 : Int32)).bind fun q22 => if ¬ ((((5 : Int32) * a2) + (3 : Int32)) < 0 ∨ 1600 ≤ (((5 : Int32) * a2) + (3 : Int32)).toNatClampNeg) then (f_MO_readProcess_119 (xpi q22.2 16 (((5 : Int32) * a2) + (3 : Int32)).toNatClampNeg q22.1) a1 a2) else none)
set_option maxHeartbeats 4000000 in
set_option maxRecDepth 100000 in
theorem k_MO_readProcess_89 (l : Launch) {p : Program} {e : Env} {s : State} {m : MethodId} {args : Array Value} {below : List Frame} {meth : Method} {c : Code} {D : va_G} {lay : Nat → Nat} {cA : Nat → ClassId} (C : xB p s m args meth c R_MO b_MO_readProcess ((Option.none : Option Jvm.ClassFile.FieldType)) 3) (E : mE D lay cA s s.heap) : ∀ (S : XS) (a1 : Int32) (a2 : Int32) (r : XS) (_ : f_MO_readProcess_89 S a1 a2 = some r) (H : Heap) (locs : List Loc) (ls : Array Slot), va_P D xcl (mw lay cA S) H → va_S (mI lay) s.heap H locs → lv_has ls 3 [(0, .ref (lay 0)), (1, .int a1), (2, .int a2)] → W p l e rm_MO_readProcess s m args below meth c H locs 0 0 (MQ below (mqv D lay cA r) args s 0 0 (mI lay)) (F0 m 89 ls []) := by
  obtain ⟨hx, hb, hr, hml, hown, hts, hlk, hnh⟩ := id C
  have hK := E.K
  intro S a1 a2 r h H locs ls hP hS hl
  unfold f_MO_readProcess_89 at h
  refine lv_aload_n hx hb d_MO_readProcess_89 rfl (lv_at hl 0 rfl) ?_
  refine lv_bipush (v := (6 : Int32)) hx hb d_MO_readProcess_90 (by decide) ?_
  obtain ⟨q20, e19, h⟩ := xb h
  refine mc_i (va_runV (As := [.int (6 : Int32)]) (rest := []) ⟨hx, hb, hml, hown, hts⟩ (c_MO_isWord l D lay cA S (6 : Int32) q20 e19) (cwV 1 hts (xT_V wd_878 wd_880 wp_28 wd_7 wd_881) rfl rfl rfl (by decide +kernel) ⟨Nat.le_of_ble_eq_true rfl, Nat.le_of_ble_eq_true rfl⟩) (mpV E hP hS (by decide) (mc_0 _ _ _ _) rfl) rfl rfl hl.1 rfl (lv_room (Nat.le_of_ble_eq_true rfl)) d_MO_readProcess_92 ⟨Nat.le_of_ble_eq_true rfl, Nat.le_of_ble_eq_true rfl⟩) hS (fun H locs hP hS => ?_)
  refine lv_if_eq (tgt := 119) hx hb d_MO_readProcess_95 (by decide) (fun c_24 => ?_) (fun c_24 => ?_)
  · have h := xif_t c_24 h
    exact k_MO_readProcess_119 l C E S a1 a2 _ h H locs ls hP hS hl
  · have h := xif_f c_24 h
    refine lv_aload_n hx hb d_MO_readProcess_98 rfl (lv_at hl 0 rfl) ?_
    refine va_get (v := .ref (lay 16)) (C := R_MO) (T := F_MO) (N := 41) hx hb hts i_MO hown hK hP 0 (mw_at (by decide) (mc_0 _ _ _ _)) rfl 27 (by decide) (hts _ wd_727) (fun _ h9 => h9) rfl d_MO_readProcess_99 ?_
    refine lv_iconst (v := (5 : Int32)) hx hb d_MO_readProcess_102 (by decide) ?_
    refine lv_iload_n hx hb d_MO_readProcess_103 rfl (lv_at hl 2 rfl) ?_
    refine lv_imul hx hb d_MO_readProcess_104 ?_
    refine lv_iconst (v := (3 : Int32)) hx hb d_MO_readProcess_105 (by decide) ?_
    refine lv_iadd hx hb d_MO_readProcess_106 ?_
    refine lv_aload_n hx hb d_MO_readProcess_107 rfl (lv_at hl 0 rfl) ?_
    refine lv_bipush (v := (6 : Int32)) hx hb d_MO_readProcess_108 (by decide) ?_
    refine lv_iconst (v := (1 : Int32)) hx hb d_MO_readProcess_110 (by decide) ?_
    refine lv_ldcw (v := (100000 : Int32)) hx hb hown (hts _ wd_937) d_MO_readProcess_111 ?_
    refine lv_iconst (v := (1 : Int32)) hx hb d_MO_readProcess_114 (by decide) ?_
    obtain ⟨q22, e21, h⟩ := xb h
    refine mc_i (va_runV (As := [.int (6 : Int32), .int (1 : Int32), .int (100000 : Int32), .int (1 : Int32)]) (rest := [.int (((5 : Int32) * a2) + (3 : Int32)), .ref (lay 16)]) ⟨hx, hb, hml, hown, hts⟩ (c_MO_part l D lay cA S (6 : Int32) (1 : Int32) (100000 : Int32) (1 : Int32) q22 e21) (cwV 4 hts (xT_V wd_910 wd_912 wp_36 wd_7 wd_913) rfl rfl rfl (by decide +kernel) ⟨Nat.le_of_ble_eq_true rfl, Nat.le_of_ble_eq_true rfl⟩) (mpV E hP hS (by decide) (mc_0 _ _ _ _) rfl) rfl rfl hl.1 rfl (lv_room (Nat.le_of_ble_eq_true rfl)) d_MO_readProcess_115 ⟨Nat.le_of_ble_eq_true rfl, Nat.le_of_ble_eq_true rfl⟩) hS (fun H locs hP hS => ?_)
    obtain ⟨hg23, h⟩ := xg h
    refine mas_16 hx hb E hP hS hg23 d_MO_readProcess_118 (fun H locs hP hS => ?_)
    exact k_MO_readProcess_119 l C E (xpi q22.2 16 (((5 : Int32) * a2) + (3 : Int32)).toNatClampNeg q22.1) a1 a2 _ h H locs ls hP hS hl
def f_MO_readProcess (S : XS) (a1 : Int32) : Option (XS) :=
  (f_MO_newThing S a1 (0 : Int32)).bind fun q2 => if q2.1 = (-1 : Int32) then (some q2.2) else ((f_MO_sign q2.2 (123 : Int32)).bind fun q4 => if ¬ (a1 < 0 ∨ 8 ≤ a1.toNatClampNeg) then ((f_MO_part q4 (3 : Int32) (0 : Int32) ((xgi q4 6 a1.toNatClampNeg) - (1 : Int32)) (4 : Int32)).bind fun q7 => if ¬ (((5 : Int32) * q2.1) < 0 ∨ 1600 ≤ ((5 : Int32) * q2.1).toNatClampNeg) then ((f_MO_part (xpi q7.2 16 ((5 : Int32) * q2.1).toNatClampNeg q7.1) (4 : Int32) (0 : Int32) (15 : Int32) (1 : Int32)).bind fun q10 => if ¬ ((((5 : Int32) * q2.1) + (1 : Int32)) < 0 ∨ 1600 ≤ (((5 : Int32) * q2.1) + (1 : Int32)).toNatClampNeg) then ((f_MO_isWord (xpi q10.2 16 (((5 : Int32) * q2.1) + (1 : Int32)).toNatClampNeg q10.1) (5 : Int32)).bind fun q13 => if q13 = 0 then (f_MO_readProcess_89 (xpi q10.2 16 (((5 : Int32) * q2.1) + (1 : Int32)).toNatClampNeg q10.1) a1 q2.1) else ((f_MO_part (xpi q10.2 16 (((5 : Int32) * q2.1) + (1 : Int32)).toNatClampNeg q10.1) (5 : Int32) (1 : Int32) (100000 : Int32) (1 : Int32)).bind fun q15 => if ¬ ((((5 : Int32) * q2.1) + (2 : Int32)) < 0 ∨ 1600 ≤ (((5 : Int32) * q2.1) + (2 : Int32)).toNatClampNeg) then (f_MO_readProcess_89 (xpi q15.2 16 (((5 : Int32) * q2.1) + (2 : Int32)).toNatClampNeg q15.1) a1 q2.1) else none)) else none) else none) else none)
set_option maxHeartbeats 4000000 in
set_option maxRecDepth 100000 in
theorem k_MO_readProcess (l : Launch) {p : Program} {e : Env} {s : State} {m : MethodId} {args : Array Value} {below : List Frame} {meth : Method} {c : Code} {D : va_G} {lay : Nat → Nat} {cA : Nat → ClassId} (C : xB p s m args meth c R_MO b_MO_readProcess ((Option.none : Option Jvm.ClassFile.FieldType)) 3) (E : mE D lay cA s s.heap) : ∀ (S : XS) (a1 : Int32) (r : XS) (_ : f_MO_readProcess S a1 = some r) (H : Heap) (locs : List Loc) (ls : Array Slot), va_P D xcl (mw lay cA S) H → va_S (mI lay) s.heap H locs → lv_has ls 3 [(0, .ref (lay 0)), (1, .int a1)] → W p l e rm_MO_readProcess s m args below meth c H locs 0 0 (MQ below (mqv D lay cA r) args s 0 0 (mI lay)) (F0 m 0 ls []) := by
  obtain ⟨hx, hb, hr, hml, hown, hts, hlk, hnh⟩ := id C
  have hK := E.K
  intro S a1 r h H locs ls hP hS hl
  unfold f_MO_readProcess at h
  refine lv_aload_n hx hb d_MO_readProcess_0 rfl (lv_at hl 0 rfl) ?_
  refine lv_iload_n hx hb d_MO_readProcess_1 rfl (lv_at hl 1 rfl) ?_
  refine lv_iconst (v := (0 : Int32)) hx hb d_MO_readProcess_2 (by decide) ?_
  obtain ⟨q2, e1, h⟩ := xb h
  refine mc_i (va_runV (As := [.int a1, .int (0 : Int32)]) (rest := []) ⟨hx, hb, hml, hown, hts⟩ (c_MO_newThing l D lay cA S a1 (0 : Int32) q2 e1) (cwV 2 hts (xT_V wd_926 wd_928 wp_40 wd_7 wd_929) rfl rfl rfl (by decide +kernel) ⟨Nat.le_of_ble_eq_true rfl, Nat.le_of_ble_eq_true rfl⟩) (mpV E hP hS (by decide) (mc_0 _ _ _ _) rfl) rfl rfl hl.1 rfl (lv_room (Nat.le_of_ble_eq_true rfl)) d_MO_readProcess_3 ⟨Nat.le_of_ble_eq_true rfl, Nat.le_of_ble_eq_true rfl⟩) hS (fun H locs hP hS => ?_)
  refine lv_istore_n (lv' := [(2, .int q2.1), (0, .ref (lay 0)), (1, .int a1)]) hx hb d_MO_readProcess_6 rfl hl (by decide) rfl (fun ls hl => ?_)
  refine lv_iload_n hx hb d_MO_readProcess_7 rfl (lv_at hl 0 rfl) ?_
  refine lv_iconst (v := (-1 : Int32)) hx hb d_MO_readProcess_8 (by decide) ?_
  refine lv_icmp_ne (tgt := 13) hx hb d_MO_readProcess_9 (by decide) (fun c_18 => ?_) (fun c_18 => ?_)
  · have h := xif_f c_18 h
    refine lv_aload_n hx hb d_MO_readProcess_13 rfl (lv_at hl 1 rfl) ?_
    refine lv_bipush (v := (123 : Int32)) hx hb d_MO_readProcess_14 (by decide) ?_
    obtain ⟨q4, e3, h⟩ := xb h
    refine mc_v (va_runV (As := [.int (123 : Int32)]) (rest := []) ⟨hx, hb, hml, hown, hts⟩ (c_MO_sign l D lay cA q2.2 (123 : Int32) q4 e3) (cwV 1 hts (xT_V wd_902 wd_904 wp_34 wd_7 wd_905) rfl rfl rfl (by decide +kernel) ⟨Nat.le_of_ble_eq_true rfl, Nat.le_of_ble_eq_true rfl⟩) (mpV E hP hS (by decide) (mc_0 _ _ _ _) rfl) rfl rfl hl.1 rfl (lv_room (Nat.le_of_ble_eq_true rfl)) d_MO_readProcess_16 ⟨Nat.le_of_ble_eq_true rfl, Nat.le_of_ble_eq_true rfl⟩) hS (fun H locs hP hS => ?_)
    refine lv_aload_n hx hb d_MO_readProcess_19 rfl (lv_at hl 1 rfl) ?_
    refine va_get (v := .ref (lay 16)) (C := R_MO) (T := F_MO) (N := 41) hx hb hts i_MO hown hK hP 0 (mw_at (by decide) (mc_0 _ _ _ _)) rfl 27 (by decide) (hts _ wd_727) (fun _ h9 => h9) rfl d_MO_readProcess_20 ?_
    refine lv_iconst (v := (5 : Int32)) hx hb d_MO_readProcess_23 (by decide) ?_
    refine lv_iload_n hx hb d_MO_readProcess_24 rfl (lv_at hl 0 rfl) ?_
    refine lv_imul hx hb d_MO_readProcess_25 ?_
    refine lv_aload_n hx hb d_MO_readProcess_26 rfl (lv_at hl 1 rfl) ?_
    refine lv_iconst (v := (3 : Int32)) hx hb d_MO_readProcess_27 (by decide) ?_
    refine lv_iconst (v := (0 : Int32)) hx hb d_MO_readProcess_28 (by decide) ?_
    refine lv_aload_n hx hb d_MO_readProcess_29 rfl (lv_at hl 1 rfl) ?_
    refine va_get (v := .ref (lay 6)) (C := R_MO) (T := F_MO) (N := 41) hx hb hts i_MO hown hK hP 0 (mw_at (by decide) (mc_0 _ _ _ _)) rfl 17 (by decide) (hts _ wd_717) (fun _ h9 => h9) rfl d_MO_readProcess_30 ?_
    refine lv_iload_n hx hb d_MO_readProcess_33 rfl (lv_at hl 2 rfl) ?_
    obtain ⟨hg5, h⟩ := xg h
    refine mal_6 hx hb E hP hg5 d_MO_readProcess_34 ?_
    refine lv_iconst (v := (1 : Int32)) hx hb d_MO_readProcess_35 (by decide) ?_
    refine lv_isub hx hb d_MO_readProcess_36 ?_
    refine lv_iconst (v := (4 : Int32)) hx hb d_MO_readProcess_37 (by decide) ?_
    obtain ⟨q7, e6, h⟩ := xb h
    refine mc_i (va_runV (As := [.int (3 : Int32), .int (0 : Int32), .int ((xgi q4 6 a1.toNatClampNeg) - (1 : Int32)), .int (4 : Int32)]) (rest := [.int ((5 : Int32) * q2.1), .ref (lay 16)]) ⟨hx, hb, hml, hown, hts⟩ (c_MO_part l D lay cA q4 (3 : Int32) (0 : Int32) ((xgi q4 6 a1.toNatClampNeg) - (1 : Int32)) (4 : Int32) q7 e6) (cwV 4 hts (xT_V wd_910 wd_912 wp_36 wd_7 wd_913) rfl rfl rfl (by decide +kernel) ⟨Nat.le_of_ble_eq_true rfl, Nat.le_of_ble_eq_true rfl⟩) (mpV E hP hS (by decide) (mc_0 _ _ _ _) rfl) rfl rfl hl.1 rfl (lv_room (Nat.le_of_ble_eq_true rfl)) d_MO_readProcess_38 ⟨Nat.le_of_ble_eq_true rfl, Nat.le_of_ble_eq_true rfl⟩) hS (fun H locs hP hS => ?_)
    obtain ⟨hg8, h⟩ := xg h
    refine mas_16 hx hb E hP hS hg8 d_MO_readProcess_41 (fun H locs hP hS => ?_)
    refine lv_aload_n hx hb d_MO_readProcess_42 rfl (lv_at hl 1 rfl) ?_
    refine va_get (v := .ref (lay 16)) (C := R_MO) (T := F_MO) (N := 41) hx hb hts i_MO hown hK hP 0 (mw_at (by decide) (mc_0 _ _ _ _)) rfl 27 (by decide) (hts _ wd_727) (fun _ h9 => h9) rfl d_MO_readProcess_43 ?_
    refine lv_iconst (v := (5 : Int32)) hx hb d_MO_readProcess_46 (by decide) ?_
    refine lv_iload_n hx hb d_MO_readProcess_47 rfl (lv_at hl 0 rfl) ?_
    refine lv_imul hx hb d_MO_readProcess_48 ?_
    refine lv_iconst (v := (1 : Int32)) hx hb d_MO_readProcess_49 (by decide) ?_
    refine lv_iadd hx hb d_MO_readProcess_50 ?_
    refine lv_aload_n hx hb d_MO_readProcess_51 rfl (lv_at hl 1 rfl) ?_
    refine lv_iconst (v := (4 : Int32)) hx hb d_MO_readProcess_52 (by decide) ?_
    refine lv_iconst (v := (0 : Int32)) hx hb d_MO_readProcess_53 (by decide) ?_
    refine lv_bipush (v := (15 : Int32)) hx hb d_MO_readProcess_54 (by decide) ?_
    refine lv_iconst (v := (1 : Int32)) hx hb d_MO_readProcess_56 (by decide) ?_
    obtain ⟨q10, e9, h⟩ := xb h
    refine mc_i (va_runV (As := [.int (4 : Int32), .int (0 : Int32), .int (15 : Int32), .int (1 : Int32)]) (rest := [.int (((5 : Int32) * q2.1) + (1 : Int32)), .ref (lay 16)]) ⟨hx, hb, hml, hown, hts⟩ (c_MO_part l D lay cA (xpi q7.2 16 ((5 : Int32) * q2.1).toNatClampNeg q7.1) (4 : Int32) (0 : Int32) (15 : Int32) (1 : Int32) q10 e9) (cwV 4 hts (xT_V wd_910 wd_912 wp_36 wd_7 wd_913) rfl rfl rfl (by decide +kernel) ⟨Nat.le_of_ble_eq_true rfl, Nat.le_of_ble_eq_true rfl⟩) (mpV E hP hS (by decide) (mc_0 _ _ _ _) rfl) rfl rfl hl.1 rfl (lv_room (Nat.le_of_ble_eq_true rfl)) d_MO_readProcess_57 ⟨Nat.le_of_ble_eq_true rfl, Nat.le_of_ble_eq_true rfl⟩) hS (fun H locs hP hS => ?_)
    obtain ⟨hg11, h⟩ := xg h
    refine mas_16 hx hb E hP hS hg11 d_MO_readProcess_60 (fun H locs hP hS => ?_)
    refine lv_aload_n hx hb d_MO_readProcess_61 rfl (lv_at hl 1 rfl) ?_
    refine lv_iconst (v := (5 : Int32)) hx hb d_MO_readProcess_62 (by decide) ?_
    obtain ⟨q13, e12, h⟩ := xb h
    refine mc_i (va_runV (As := [.int (5 : Int32)]) (rest := []) ⟨hx, hb, hml, hown, hts⟩ (c_MO_isWord l D lay cA (xpi q10.2 16 (((5 : Int32) * q2.1) + (1 : Int32)).toNatClampNeg q10.1) (5 : Int32) q13 e12) (cwV 1 hts (xT_V wd_878 wd_880 wp_28 wd_7 wd_881) rfl rfl rfl (by decide +kernel) ⟨Nat.le_of_ble_eq_true rfl, Nat.le_of_ble_eq_true rfl⟩) (mpV E hP hS (by decide) (mc_0 _ _ _ _) rfl) rfl rfl hl.1 rfl (lv_room (Nat.le_of_ble_eq_true rfl)) d_MO_readProcess_63 ⟨Nat.le_of_ble_eq_true rfl, Nat.le_of_ble_eq_true rfl⟩) hS (fun H locs hP hS => ?_)
    refine lv_if_eq (tgt := 89) hx hb d_MO_readProcess_66 (by decide) (fun c_17 => ?_) (fun c_17 => ?_)
    · have h := xif_t c_17 h
      exact k_MO_readProcess_89 l C E (xpi q10.2 16 (((5 : Int32) * q2.1) + (1 : Int32)).toNatClampNeg q10.1) a1 q2.1 _ h H locs ls hP hS (lv_sub hl [1, 2, 0] rfl)
    · have h := xif_f c_17 h
      refine lv_aload_n hx hb d_MO_readProcess_69 rfl (lv_at hl 1 rfl) ?_
      refine va_get (v := .ref (lay 16)) (C := R_MO) (T := F_MO) (N := 41) hx hb hts i_MO hown hK hP 0 (mw_at (by decide) (mc_0 _ _ _ _)) rfl 27 (by decide) (hts _ wd_727) (fun _ h9 => h9) rfl d_MO_readProcess_70 ?_
      refine lv_iconst (v := (5 : Int32)) hx hb d_MO_readProcess_73 (by decide) ?_
      refine lv_iload_n hx hb d_MO_readProcess_74 rfl (lv_at hl 0 rfl) ?_
      refine lv_imul hx hb d_MO_readProcess_75 ?_
      refine lv_iconst (v := (2 : Int32)) hx hb d_MO_readProcess_76 (by decide) ?_
      refine lv_iadd hx hb d_MO_readProcess_77 ?_
      refine lv_aload_n hx hb d_MO_readProcess_78 rfl (lv_at hl 1 rfl) ?_
      refine lv_iconst (v := (5 : Int32)) hx hb d_MO_readProcess_79 (by decide) ?_
      refine lv_iconst (v := (1 : Int32)) hx hb d_MO_readProcess_80 (by decide) ?_
      refine lv_ldcw (v := (100000 : Int32)) hx hb hown (hts _ wd_937) d_MO_readProcess_81 ?_
      refine lv_iconst (v := (1 : Int32)) hx hb d_MO_readProcess_84 (by decide) ?_
      obtain ⟨q15, e14, h⟩ := xb h
      refine mc_i (va_runV (As := [.int (5 : Int32), .int (1 : Int32), .int (100000 : Int32), .int (1 : Int32)]) (rest := [.int (((5 : Int32) * q2.1) + (2 : Int32)), .ref (lay 16)]) ⟨hx, hb, hml, hown, hts⟩ (c_MO_part l D lay cA (xpi q10.2 16 (((5 : Int32) * q2.1) + (1 : Int32)).toNatClampNeg q10.1) (5 : Int32) (1 : Int32) (100000 : Int32) (1 : Int32) q15 e14) (cwV 4 hts (xT_V wd_910 wd_912 wp_36 wd_7 wd_913) rfl rfl rfl (by decide +kernel) ⟨Nat.le_of_ble_eq_true rfl, Nat.le_of_ble_eq_true rfl⟩) (mpV E hP hS (by decide) (mc_0 _ _ _ _) rfl) rfl rfl hl.1 rfl (lv_room (Nat.le_of_ble_eq_true rfl)) d_MO_readProcess_85 ⟨Nat.le_of_ble_eq_true rfl, Nat.le_of_ble_eq_true rfl⟩) hS (fun H locs hP hS => ?_)
      obtain ⟨hg16, h⟩ := xg h
      refine mas_16 hx hb E hP hS hg16 d_MO_readProcess_88 (fun H locs hP hS => ?_)
      exact k_MO_readProcess_89 l C E (xpi q15.2 16 (((5 : Int32) * q2.1) + (2 : Int32)).toNatClampNeg q15.1) a1 q2.1 _ h H locs ls hP hS (lv_sub hl [1, 2, 0] rfl)
  · have h := xif_t c_18 h
    have h9 := Option.some.inj h
    subst h9
    exact W.vret hx hb hr (fun t ht hW => ⟨⟨(), rfl, trivial, by show va_P D xcl _ t.heap; rw [ht]; exact hP⟩, hS.F ht⟩) hS.2.2 d_MO_readProcess_12
theorem c_MO_readProcess (l : Launch) (D : va_G) (lay : Nat → Nat) (cA : Nat → ClassId) (S : XS) (a1 : Int32) (r : XS) (h : f_MO_readProcess S a1 = some r) : Met l y_MO_readProcess (.code y_MO_readProcess b_MO_readProcess 3 ((Option.none : Option Jvm.ClassFile.FieldType)) :: xT) rm_MO_readProcess (mPc D lay cA S [.ref (lay 0), .int a1]) (mqv D lay cA r) 0 0 (mI lay) := by
  refine Met.ofW (cc := b_MO_readProcess) (maxL := 3) (ret := (Option.none : Option Jvm.ClassFile.FieldType)) (by decide +kernel) rfl ?_
  intro p e s m args below meth c s₁ B hml hv
  obtain ⟨rfl, hP, E⟩ := hv
  have C := xB_of B hml
  have hl := lv_entry ([.ref (lay 0), .int a1]) (n := 3) (Nat.le_of_ble_eq_true rfl)
  rw [lg_entry_eq]
  generalize (lg_sl ([.ref (lay 0), .int a1]) ++ List.replicate (3 - (lg_sl ([.ref (lay 0), .int a1])).length) Slot.unset).toArray = ls at hl ⊢
  exact k_MO_readProcess l C E S a1 r h s.heap [] ls hP va_S.rf hl
/-! ConfigTextsModel.semaphore(I)V -/
def rm_MO_semaphore : Room := { frames := 4, cells := 0, slots := 0, locals := 89 }
theorem d_MO_semaphore_0 : decode b_MO_semaphore 0 = .ok (.aload_n 0, 1) := by decide +kernel
theorem d_MO_semaphore_1 : decode b_MO_semaphore 1 = .ok (.iload_n 1, 1) := by decide +kernel
theorem d_MO_semaphore_2 : decode b_MO_semaphore 2 = .ok (.iconst 1, 1) := by decide +kernel
theorem d_MO_semaphore_3 : decode b_MO_semaphore 3 = .ok (.invokevirtual 251, 3) := by decide +kernel
theorem d_MO_semaphore_6 : decode b_MO_semaphore 6 = .ok (.istore_n 2, 1) := by decide +kernel
theorem d_MO_semaphore_7 : decode b_MO_semaphore 7 = .ok (.iload_n 2, 1) := by decide +kernel
theorem d_MO_semaphore_8 : decode b_MO_semaphore 8 = .ok (.iconst (-1), 1) := by decide +kernel
theorem d_MO_semaphore_9 : decode b_MO_semaphore 9 = .ok (.if_icmp .ne 4, 3) := by decide +kernel
theorem d_MO_semaphore_12 : decode b_MO_semaphore 12 = .ok (.return_, 1) := by decide +kernel
theorem d_MO_semaphore_13 : decode b_MO_semaphore 13 = .ok (.aload_n 0, 1) := by decide +kernel
theorem d_MO_semaphore_14 : decode b_MO_semaphore 14 = .ok (.getfield 131, 3) := by decide +kernel
theorem d_MO_semaphore_17 : decode b_MO_semaphore 17 = .ok (.iconst 5, 1) := by decide +kernel
theorem d_MO_semaphore_18 : decode b_MO_semaphore 18 = .ok (.iload_n 2, 1) := by decide +kernel
theorem d_MO_semaphore_19 : decode b_MO_semaphore 19 = .ok (.imul, 1) := by decide +kernel
theorem d_MO_semaphore_20 : decode b_MO_semaphore 20 = .ok (.aload_n 0, 1) := by decide +kernel
theorem d_MO_semaphore_21 : decode b_MO_semaphore 21 = .ok (.iconst 0, 1) := by decide +kernel
theorem d_MO_semaphore_22 : decode b_MO_semaphore 22 = .ok (.bipush 100, 2) := by decide +kernel
theorem d_MO_semaphore_24 : decode b_MO_semaphore 24 = .ok (.iconst 1, 1) := by decide +kernel
theorem d_MO_semaphore_25 : decode b_MO_semaphore 25 = .ok (.invokevirtual 234, 3) := by decide +kernel
theorem d_MO_semaphore_28 : decode b_MO_semaphore 28 = .ok (.iastore, 1) := by decide +kernel
theorem d_MO_semaphore_29 : decode b_MO_semaphore 29 = .ok (.aload_n 0, 1) := by decide +kernel
theorem d_MO_semaphore_30 : decode b_MO_semaphore 30 = .ok (.bipush 58, 2) := by decide +kernel
theorem d_MO_semaphore_32 : decode b_MO_semaphore 32 = .ok (.invokevirtual 238, 3) := by decide +kernel
theorem d_MO_semaphore_35 : decode b_MO_semaphore 35 = .ok (.aload_n 0, 1) := by decide +kernel
theorem d_MO_semaphore_36 : decode b_MO_semaphore 36 = .ok (.getfield 131, 3) := by decide +kernel
theorem d_MO_semaphore_39 : decode b_MO_semaphore 39 = .ok (.iconst 5, 1) := by decide +kernel
theorem d_MO_semaphore_40 : decode b_MO_semaphore 40 = .ok (.iload_n 2, 1) := by decide +kernel
theorem d_MO_semaphore_41 : decode b_MO_semaphore 41 = .ok (.imul, 1) := by decide +kernel
theorem d_MO_semaphore_42 : decode b_MO_semaphore 42 = .ok (.iaload, 1) := by decide +kernel
theorem d_MO_semaphore_43 : decode b_MO_semaphore 43 = .ok (.iconst 1, 1) := by decide +kernel
theorem d_MO_semaphore_44 : decode b_MO_semaphore 44 = .ok (.if_icmp .le 14, 3) := by decide +kernel
theorem d_MO_semaphore_47 : decode b_MO_semaphore 47 = .ok (.aload_n 0, 1) := by decide +kernel
theorem d_MO_semaphore_48 : decode b_MO_semaphore 48 = .ok (.getfield 131, 3) := by decide +kernel
theorem d_MO_semaphore_51 : decode b_MO_semaphore 51 = .ok (.iconst 5, 1) := by decide +kernel
theorem d_MO_semaphore_52 : decode b_MO_semaphore 52 = .ok (.iload_n 2, 1) := by decide +kernel
theorem d_MO_semaphore_53 : decode b_MO_semaphore 53 = .ok (.imul, 1) := by decide +kernel
theorem d_MO_semaphore_54 : decode b_MO_semaphore 54 = .ok (.iaload, 1) := by decide +kernel
theorem d_MO_semaphore_55 : decode b_MO_semaphore 55 = .ok (.goto 4, 3) := by decide +kernel
theorem d_MO_semaphore_58 : decode b_MO_semaphore 58 = .ok (.iconst 1, 1) := by decide +kernel
theorem d_MO_semaphore_59 : decode b_MO_semaphore 59 = .ok (.istore_n 3, 1) := by decide +kernel
theorem d_MO_semaphore_60 : decode b_MO_semaphore 60 = .ok (.aload_n 0, 1) := by decide +kernel
theorem d_MO_semaphore_61 : decode b_MO_semaphore 61 = .ok (.getfield 131, 3) := by decide +kernel
theorem d_MO_semaphore_64 : decode b_MO_semaphore 64 = .ok (.iconst 5, 1) := by decide +kernel
theorem d_MO_semaphore_65 : decode b_MO_semaphore 65 = .ok (.iload_n 2, 1) := by decide +kernel
theorem d_MO_semaphore_66 : decode b_MO_semaphore 66 = .ok (.imul, 1) := by decide +kernel
theorem d_MO_semaphore_67 : decode b_MO_semaphore 67 = .ok (.iconst 1, 1) := by decide +kernel
theorem d_MO_semaphore_68 : decode b_MO_semaphore 68 = .ok (.iadd, 1) := by decide +kernel
theorem d_MO_semaphore_69 : decode b_MO_semaphore 69 = .ok (.aload_n 0, 1) := by decide +kernel
theorem d_MO_semaphore_70 : decode b_MO_semaphore 70 = .ok (.iload_n 3, 1) := by decide +kernel
theorem d_MO_semaphore_71 : decode b_MO_semaphore 71 = .ok (.bipush 100, 2) := by decide +kernel
theorem d_MO_semaphore_73 : decode b_MO_semaphore 73 = .ok (.iconst 1, 1) := by decide +kernel
theorem d_MO_semaphore_74 : decode b_MO_semaphore 74 = .ok (.invokevirtual 234, 3) := by decide +kernel
theorem d_MO_semaphore_77 : decode b_MO_semaphore 77 = .ok (.iastore, 1) := by decide +kernel
theorem d_MO_semaphore_78 : decode b_MO_semaphore 78 = .ok (.aload_n 0, 1) := by decide +kernel
theorem d_MO_semaphore_79 : decode b_MO_semaphore 79 = .ok (.bipush 59, 2) := by decide +kernel
theorem d_MO_semaphore_81 : decode b_MO_semaphore 81 = .ok (.invokevirtual 238, 3) := by decide +kernel
theorem d_MO_semaphore_84 : decode b_MO_semaphore 84 = .ok (.return_, 1) := by decide +kernel
def f_MO_semaphore_59 (S : XS) (a2 : Int32) (t0 : Int32) : Option (XS) :=
  (f_MO_number S t0 (100 : Int32) (1 : Int32)).bind fun q13 => if ¬ ((((5 : Int32) * a2) + (1 : Int32)) < 0 ∨ 1600 ≤ (((5 : Int32) * a2) + (1 : Int32)).toNatClampNeg) then ((f_MO_sign (xpi q13.2 16 (((5 : Int32) * a2) + (1 : Int32)).toNatClampNeg q13.1) (59 : Int32)).bind fun q16 => some q16) else none
set_option maxHeartbeats 4000000 in
set_option maxRecDepth 100000 in
theorem k_MO_semaphore_59 (l : Launch) {p : Program} {e : Env} {s : State} {m : MethodId} {args : Array Value} {below : List Frame} {meth : Method} {c : Code} {D : va_G} {lay : Nat → Nat} {cA : Nat → ClassId} (C : xB p s m args meth c R_MO b_MO_semaphore ((Option.none : Option Jvm.ClassFile.FieldType)) 4) (E : mE D lay cA s s.heap) : ∀ (S : XS) (a2 : Int32) (t0 : Int32) (r : XS) (_ : f_MO_semaphore_59 S a2 t0 = some r) (H : Heap) (locs : List Loc) (ls : Array Slot), va_P D xcl (mw lay cA S) H → va_S (mI lay) s.heap H locs → lv_has ls 4 [(0, .ref (lay 0)), (2, .int a2)] → W p l e rm_MO_semaphore s m args below meth c H locs 0 0 (MQ below (mqv D lay cA r) args s 0 0 (mI lay)) (F0 m 59 ls [.int t0]) := by
  obtain ⟨hx, hb, hr, hml, hown, hts, hlk, hnh⟩ := id C
  have hK := E.K
  intro S a2 t0 r h H locs ls hP hS hl
  unfold f_MO_semaphore_59 at h
  refine lv_istore_n (lv' := [(3, .int t0), (0, .ref (lay 0)), (2, .int a2)]) hx hb d_MO_semaphore_59 rfl hl (by decide) rfl (fun ls hl => ?_)
  refine lv_aload_n hx hb d_MO_semaphore_60 rfl (lv_at hl 1 rfl) ?_
  refine va_get (v := .ref (lay 16)) (C := R_MO) (T := F_MO) (N := 41) hx hb hts i_MO hown hK hP 0 (mw_at (by decide) (mc_0 _ _ _ _)) rfl 27 (by decide) (hts _ wd_727) (fun _ h9 => h9) rfl d_MO_semaphore_61 ?_
  refine lv_iconst (v := (5 : Int32)) hx hb d_MO_semaphore_64 (by decide) ?_
  refine lv_iload_n hx hb d_MO_semaphore_65 rfl (lv_at hl 2 rfl) ?_
  refine lv_imul hx hb d_MO_semaphore_66 ?_
  refine lv_iconst (v := (1 : Int32)) hx hb d_MO_semaphore_67 (by decide) ?_
  refine lv_iadd hx hb d_MO_semaphore_68 ?_
  refine lv_aload_n hx hb d_MO_semaphore_69 rfl (lv_at hl 1 rfl) ?_
  refine lv_iload_n hx hb d_MO_semaphore_70 rfl (lv_at hl 0 rfl) ?_
  refine lv_bipush (v := (100 : Int32)) hx hb d_MO_semaphore_71 (by decide) ?_
  refine lv_iconst (v := (1 : Int32)) hx hb d_MO_semaphore_73 (by decide) ?_
  obtain ⟨q13, e12, h⟩ := xb h
  refine mc_i (va_runV (As := [.int t0, .int (100 : Int32), .int (1 : Int32)]) (rest := [.int (((5 : Int32) * a2) + (1 : Int32)), .ref (lay 16)]) ⟨hx, hb, hml, hown, hts⟩ (c_MO_number l D lay cA S t0 (100 : Int32) (1 : Int32) q13 e12) (cwV 3 hts (xT_V wd_914 wd_916 wp_37 wd_7 wd_917) rfl rfl rfl (by decide +kernel) ⟨Nat.le_of_ble_eq_true rfl, Nat.le_of_ble_eq_true rfl⟩) (mpV E hP hS (by decide) (mc_0 _ _ _ _) rfl) rfl rfl hl.1 rfl (lv_room (Nat.le_of_ble_eq_true rfl)) d_MO_semaphore_74 ⟨Nat.le_of_ble_eq_true rfl, Nat.le_of_ble_eq_true rfl⟩) hS (fun H locs hP hS => ?_)
  obtain ⟨hg14, h⟩ := xg h
  refine mas_16 hx hb E hP hS hg14 d_MO_semaphore_77 (fun H locs hP hS => ?_)
  refine lv_aload_n hx hb d_MO_semaphore_78 rfl (lv_at hl 1 rfl) ?_
  refine lv_bipush (v := (59 : Int32)) hx hb d_MO_semaphore_79 (by decide) ?_
  obtain ⟨q16, e15, h⟩ := xb h
  refine mc_v (va_runV (As := [.int (59 : Int32)]) (rest := []) ⟨hx, hb, hml, hown, hts⟩ (c_MO_sign l D lay cA (xpi q13.2 16 (((5 : Int32) * a2) + (1 : Int32)).toNatClampNeg q13.1) (59 : Int32) q16 e15) (cwV 1 hts (xT_V wd_902 wd_904 wp_34 wd_7 wd_905) rfl rfl rfl (by decide +kernel) ⟨Nat.le_of_ble_eq_true rfl, Nat.le_of_ble_eq_true rfl⟩) (mpV E hP hS (by decide) (mc_0 _ _ _ _) rfl) rfl rfl hl.1 rfl (lv_room (Nat.le_of_ble_eq_true rfl)) d_MO_semaphore_81 ⟨Nat.le_of_ble_eq_true rfl, Nat.le_of_ble_eq_true rfl⟩) hS (fun H locs hP hS => ?_)
  have h9 := Option.some.inj h
  subst h9
  exact W.vret hx hb hr (fun t ht hW => ⟨⟨(), rfl, trivial, by show va_P D xcl _ t.heap; rw [ht]; exact hP⟩, hS.F ht⟩) hS.2.2 d_MO_semaphore_84
def f_MO_semaphore (S : XS) (a1 : Int32) : Option (XS) :=
  (f_MO_newThing S a1 (1 : Int32)).bind fun q2 => if q2.1 = (-1 : Int32) then (some q2.2) else ((f_MO_number q2.2 (0 : Int32) (100 : Int32) (1 : Int32)).bind fun q4 => if ¬ (((5 : Int32) * q2.1) < 0 ∨ 1600 ≤ ((5 : Int32) * q2.1).toNatClampNeg) then ((f_MO_sign (xpi q4.2 16 ((5 : Int32) * q2.1).toNatClampNeg q4.1) (58 : Int32)).bind fun q7 => if ¬ (((5 : Int32) * q2.1) < 0 ∨ 1600 ≤ ((5 : Int32) * q2.1).toNatClampNeg) then (if (xgi q7 16 ((5 : Int32) * q2.1).toNatClampNeg) ≤ (1 : Int32) then (f_MO_semaphore_59 q7 q2.1 (1 : Int32)) else (if ¬ (((5 : Int32) * q2.1) < 0 ∨ 1600 ≤ ((5 : Int32) * q2.1).toNatClampNeg) then (f_MO_semaphore_59 q7 q2.1 (xgi q7 16 ((5 : Int32) * q2.1).toNatClampNeg)) else none)) else none) else none)
set_option maxHeartbeats 4000000 in
set_option maxRecDepth 100000 in
theorem k_MO_semaphore (l : Launch) {p : Program} {e : Env} {s : State} {m : MethodId} {args : Array Value} {below : List Frame} {meth : Method} {c : Code} {D : va_G} {lay : Nat → Nat} {cA : Nat → ClassId} (C : xB p s m args meth c R_MO b_MO_semaphore ((Option.none : Option Jvm.ClassFile.FieldType)) 4) (E : mE D lay cA s s.heap) : ∀ (S : XS) (a1 : Int32) (r : XS) (_ : f_MO_semaphore S a1 = some r) (H : Heap) (locs : List Loc) (ls : Array Slot), va_P D xcl (mw lay cA S) H → va_S (mI lay) s.heap H locs → lv_has ls 4 [(0, .ref (lay 0)), (1, .int a1)] → W p l e rm_MO_semaphore s m args below meth c H locs 0 0 (MQ below (mqv D lay cA r) args s 0 0 (mI lay)) (F0 m 0 ls []) := by
  obtain ⟨hx, hb, hr, hml, hown, hts, hlk, hnh⟩ := id C
  have hK := E.K
  intro S a1 r h H locs ls hP hS hl
  unfold f_MO_semaphore at h
  refine lv_aload_n hx hb d_MO_semaphore_0 rfl (lv_at hl 0 rfl) ?_
  refine lv_iload_n hx hb d_MO_semaphore_1 rfl (lv_at hl 1 rfl) ?_
  refine lv_iconst (v := (1 : Int32)) hx hb d_MO_semaphore_2 (by decide) ?_
  obtain ⟨q2, e1, h⟩ := xb h
  refine mc_i (va_runV (As := [.int a1, .int (1 : Int32)]) (rest := []) ⟨hx, hb, hml, hown, hts⟩ (c_MO_newThing l D lay cA S a1 (1 : Int32) q2 e1) (cwV 2 hts (xT_V wd_926 wd_928 wp_40 wd_7 wd_929) rfl rfl rfl (by decide +kernel) ⟨Nat.le_of_ble_eq_true rfl, Nat.le_of_ble_eq_true rfl⟩) (mpV E hP hS (by decide) (mc_0 _ _ _ _) rfl) rfl rfl hl.1 rfl (lv_room (Nat.le_of_ble_eq_true rfl)) d_MO_semaphore_3 ⟨Nat.le_of_ble_eq_true rfl, Nat.le_of_ble_eq_true rfl⟩) hS (fun H locs hP hS => ?_)
  refine lv_istore_n (lv' := [(2, .int q2.1), (0, .ref (lay 0)), (1, .int a1)]) hx hb d_MO_semaphore_6 rfl hl (by decide) rfl (fun ls hl => ?_)
  refine lv_iload_n hx hb d_MO_semaphore_7 rfl (lv_at hl 0 rfl) ?_
  refine lv_iconst (v := (-1 : Int32)) hx hb d_MO_semaphore_8 (by decide) ?_
  refine lv_icmp_ne (tgt := 13) hx hb d_MO_semaphore_9 (by decide) (fun c_11 => ?_) (fun c_11 => ?_)
  · have h := xif_f c_11 h
    refine lv_aload_n hx hb d_MO_semaphore_13 rfl (lv_at hl 1 rfl) ?_
    refine va_get (v := .ref (lay 16)) (C := R_MO) (T := F_MO) (N := 41) hx hb hts i_MO hown hK hP 0 (mw_at (by decide) (mc_0 _ _ _ _)) rfl 27 (by decide) (hts _ wd_727) (fun _ h9 => h9) rfl d_MO_semaphore_14 ?_
    refine lv_iconst (v := (5 : Int32)) hx hb d_MO_semaphore_17 (by decide) ?_
    refine lv_iload_n hx hb d_MO_semaphore_18 rfl (lv_at hl 0 rfl) ?_
    refine lv_imul hx hb d_MO_semaphore_19 ?_
    refine lv_aload_n hx hb d_MO_semaphore_20 rfl (lv_at hl 1 rfl) ?_
    refine lv_iconst (v := (0 : Int32)) hx hb d_MO_semaphore_21 (by decide) ?_
    refine lv_bipush (v := (100 : Int32)) hx hb d_MO_semaphore_22 (by decide) ?_
    refine lv_iconst (v := (1 : Int32)) hx hb d_MO_semaphore_24 (by decide) ?_
    obtain ⟨q4, e3, h⟩ := xb h
    refine mc_i (va_runV (As := [.int (0 : Int32), .int (100 : Int32), .int (1 : Int32)]) (rest := [.int ((5 : Int32) * q2.1), .ref (lay 16)]) ⟨hx, hb, hml, hown, hts⟩ (c_MO_number l D lay cA q2.2 (0 : Int32) (100 : Int32) (1 : Int32) q4 e3) (cwV 3 hts (xT_V wd_914 wd_916 wp_37 wd_7 wd_917) rfl rfl rfl (by decide +kernel) ⟨Nat.le_of_ble_eq_true rfl, Nat.le_of_ble_eq_true rfl⟩) (mpV E hP hS (by decide) (mc_0 _ _ _ _) rfl) rfl rfl hl.1 rfl (lv_room (Nat.le_of_ble_eq_true rfl)) d_MO_semaphore_25 ⟨Nat.le_of_ble_eq_true rfl, Nat.le_of_ble_eq_true rfl⟩) hS (fun H locs hP hS => ?_)
    obtain ⟨hg5, h⟩ := xg h
    refine mas_16 hx hb E hP hS hg5 d_MO_semaphore_28 (fun H locs hP hS => ?_)
    refine lv_aload_n hx hb d_MO_semaphore_29 rfl (lv_at hl 1 rfl) ?_
    refine lv_bipush (v := (58 : Int32)) hx hb d_MO_semaphore_30 (by decide) ?_
    obtain ⟨q7, e6, h⟩ := xb h
    refine mc_v (va_runV (As := [.int (58 : Int32)]) (rest := []) ⟨hx, hb, hml, hown, hts⟩ (c_MO_sign l D lay cA (xpi q4.2 16 ((5 : Int32) * q2.1).toNatClampNeg q4.1) (58 : Int32) q7 e6) (cwV 1 hts (xT_V wd_902 wd_904 wp_34 wd_7 wd_905) rfl rfl rfl (by decide +kernel) ⟨Nat.le_of_ble_eq_true rfl, Nat.le_of_ble_eq_true rfl⟩) (mpV E hP hS (by decide) (mc_0 _ _ _ _) rfl) rfl rfl hl.1 rfl (lv_room (Nat.le_of_ble_eq_true rfl)) d_MO_semaphore_32 ⟨Nat.le_of_ble_eq_true rfl, Nat.le_of_ble_eq_true rfl⟩) hS (fun H locs hP hS => ?_)
    refine lv_aload_n hx hb d_MO_semaphore_35 rfl (lv_at hl 1 rfl) ?_
    refine va_get (v := .ref (lay 16)) (C := R_MO) (T := F_MO) (N := 41) hx hb hts i_MO hown hK hP 0 (mw_at (by decide) (mc_0 _ _ _ _)) rfl 27 (by decide) (hts _ wd_727) (fun _ h9 => h9) rfl d_MO_semaphore_36 ?_
    refine lv_iconst (v := (5 : Int32)) hx hb d_MO_semaphore_39 (by decide) ?_
    refine lv_iload_n hx hb d_MO_semaphore_40 rfl (lv_at hl 0 rfl) ?_
    refine lv_imul hx hb d_MO_semaphore_41 ?_
    obtain ⟨hg8, h⟩ := xg h
    refine mal_16 hx hb E hP hg8 d_MO_semaphore_42 ?_
    refine lv_iconst (v := (1 : Int32)) hx hb d_MO_semaphore_43 (by decide) ?_
    refine lv_icmp_le (tgt := 58) hx hb d_MO_semaphore_44 (by decide) (fun c_10 => ?_) (fun c_10 => ?_)
    · have h := xif_t c_10 h
      refine lv_iconst (v := (1 : Int32)) hx hb d_MO_semaphore_58 (by decide) ?_
      exact k_MO_semaphore_59 l C E q7 q2.1 (1 : Int32) _ h H locs ls hP hS (lv_sub hl [1, 0] rfl)
    · have h := xif_f c_10 h
      refine lv_aload_n hx hb d_MO_semaphore_47 rfl (lv_at hl 1 rfl) ?_
      refine va_get (v := .ref (lay 16)) (C := R_MO) (T := F_MO) (N := 41) hx hb hts i_MO hown hK hP 0 (mw_at (by decide) (mc_0 _ _ _ _)) rfl 27 (by decide) (hts _ wd_727) (fun _ h9 => h9) rfl d_MO_semaphore_48 ?_
      refine lv_iconst (v := (5 : Int32)) hx hb d_MO_semaphore_51 (by decide) ?_
      refine lv_iload_n hx hb d_MO_semaphore_52 rfl (lv_at hl 0 rfl) ?_
      refine lv_imul hx hb d_MO_semaphore_53 ?_
      obtain ⟨hg9, h⟩ := xg h
      refine mal_16 hx hb E hP hg9 d_MO_semaphore_54 ?_
      refine lv_goto (tgt := 59) hx hb d_MO_semaphore_55 (by decide) ?_
      exact k_MO_semaphore_59 l C E q7 q2.1 (xgi q7 16 ((5 : Int32) * q2.1).toNatClampNeg) _ h H locs ls hP hS (lv_sub hl [1, 0] rfl)
  · have h := xif_t c_11 h
    have h9 := Option.some.inj h
    subst h9
    exact W.vret hx hb hr (fun t ht hW => ⟨⟨(), rfl, trivial, by show va_P D xcl _ t.heap; rw [ht]; exact hP⟩, hS.F ht⟩) hS.2.2 d_MO_semaphore_12
theorem c_MO_semaphore (l : Launch) (D : va_G) (lay : Nat → Nat) (cA : Nat → ClassId) (S : XS) (a1 : Int32) (r : XS) (h : f_MO_semaphore S a1 = some r) : Met l y_MO_semaphore (.code y_MO_semaphore b_MO_semaphore 4 ((Option.none : Option Jvm.ClassFile.FieldType)) :: xT) rm_MO_semaphore (mPc D lay cA S [.ref (lay 0), .int a1]) (mqv D lay cA r) 0 0 (mI lay) := by
  refine Met.ofW (cc := b_MO_semaphore) (maxL := 4) (ret := (Option.none : Option Jvm.ClassFile.FieldType)) (by decide +kernel) rfl ?_
  intro p e s m args below meth c s₁ B hml hv
  obtain ⟨rfl, hP, E⟩ := hv
  have C := xB_of B hml
  have hl := lv_entry ([.ref (lay 0), .int a1]) (n := 4) (Nat.le_of_ble_eq_true rfl)
  rw [lg_entry_eq]
  generalize (lg_sl ([.ref (lay 0), .int a1]) ++ List.replicate (4 - (lg_sl ([.ref (lay 0), .int a1])).length) Slot.unset).toArray = ls at hl ⊢
  exact k_MO_semaphore l C E S a1 r h s.heap [] ls hP va_S.rf hl
/-! ConfigTextsModel.buffer(I)V -/
def rm_MO_buffer : Room := { frames := 4, cells := 0, slots := 0, locals := 89 }
theorem d_MO_buffer_0 : decode b_MO_buffer 0 = .ok (.aload_n 0, 1) := by decide +kernel
theorem d_MO_buffer_1 : decode b_MO_buffer 1 = .ok (.iload_n 1, 1) := by decide +kernel
theorem d_MO_buffer_2 : decode b_MO_buffer 2 = .ok (.iconst 3, 1) := by decide +kernel
theorem d_MO_buffer_3 : decode b_MO_buffer 3 = .ok (.invokevirtual 251, 3) := by decide +kernel
theorem d_MO_buffer_6 : decode b_MO_buffer 6 = .ok (.istore_n 2, 1) := by decide +kernel
theorem d_MO_buffer_7 : decode b_MO_buffer 7 = .ok (.iload_n 2, 1) := by decide +kernel
theorem d_MO_buffer_8 : decode b_MO_buffer 8 = .ok (.iconst (-1), 1) := by decide +kernel
theorem d_MO_buffer_9 : decode b_MO_buffer 9 = .ok (.if_icmp .eq 25, 3) := by decide +kernel
theorem d_MO_buffer_12 : decode b_MO_buffer 12 = .ok (.aload_n 0, 1) := by decide +kernel
theorem d_MO_buffer_13 : decode b_MO_buffer 13 = .ok (.getfield 131, 3) := by decide +kernel
theorem d_MO_buffer_16 : decode b_MO_buffer 16 = .ok (.iconst 5, 1) := by decide +kernel
theorem d_MO_buffer_17 : decode b_MO_buffer 17 = .ok (.iload_n 2, 1) := by decide +kernel
theorem d_MO_buffer_18 : decode b_MO_buffer 18 = .ok (.imul, 1) := by decide +kernel
theorem d_MO_buffer_19 : decode b_MO_buffer 19 = .ok (.aload_n 0, 1) := by decide +kernel
theorem d_MO_buffer_20 : decode b_MO_buffer 20 = .ok (.iconst 1, 1) := by decide +kernel
theorem d_MO_buffer_21 : decode b_MO_buffer 21 = .ok (.bipush 8, 2) := by decide +kernel
theorem d_MO_buffer_23 : decode b_MO_buffer 23 = .ok (.iconst 1, 1) := by decide +kernel
theorem d_MO_buffer_24 : decode b_MO_buffer 24 = .ok (.invokevirtual 234, 3) := by decide +kernel
theorem d_MO_buffer_27 : decode b_MO_buffer 27 = .ok (.iastore, 1) := by decide +kernel
theorem d_MO_buffer_28 : decode b_MO_buffer 28 = .ok (.aload_n 0, 1) := by decide +kernel
theorem d_MO_buffer_29 : decode b_MO_buffer 29 = .ok (.bipush 59, 2) := by decide +kernel
theorem d_MO_buffer_31 : decode b_MO_buffer 31 = .ok (.invokevirtual 238, 3) := by decide +kernel
theorem d_MO_buffer_34 : decode b_MO_buffer 34 = .ok (.return_, 1) := by decide +kernel
def f_MO_buffer (S : XS) (a1 : Int32) : Option (XS) :=
  (f_MO_newThing S a1 (3 : Int32)).bind fun q2 => if q2.1 = (-1 : Int32) then (some q2.2) else ((f_MO_number q2.2 (1 : Int32) (8 : Int32) (1 : Int32)).bind fun q4 => if ¬ (((5 : Int32) * q2.1) < 0 ∨ 1600 ≤ ((5 : Int32) * q2.1).toNatClampNeg) then ((f_MO_sign (xpi q4.2 16 ((5 : Int32) * q2.1).toNatClampNeg q4.1) (59 : Int32)).bind fun q7 => some q7) else none)
set_option maxHeartbeats 4000000 in
set_option maxRecDepth 100000 in
theorem k_MO_buffer (l : Launch) {p : Program} {e : Env} {s : State} {m : MethodId} {args : Array Value} {below : List Frame} {meth : Method} {c : Code} {D : va_G} {lay : Nat → Nat} {cA : Nat → ClassId} (C : xB p s m args meth c R_MO b_MO_buffer ((Option.none : Option Jvm.ClassFile.FieldType)) 3) (E : mE D lay cA s s.heap) : ∀ (S : XS) (a1 : Int32) (r : XS) (_ : f_MO_buffer S a1 = some r) (H : Heap) (locs : List Loc) (ls : Array Slot), va_P D xcl (mw lay cA S) H → va_S (mI lay) s.heap H locs → lv_has ls 3 [(0, .ref (lay 0)), (1, .int a1)] → W p l e rm_MO_buffer s m args below meth c H locs 0 0 (MQ below (mqv D lay cA r) args s 0 0 (mI lay)) (F0 m 0 ls []) := by
  obtain ⟨hx, hb, hr, hml, hown, hts, hlk, hnh⟩ := id C
  have hK := E.K
  intro S a1 r h H locs ls hP hS hl
  unfold f_MO_buffer at h
  refine lv_aload_n hx hb d_MO_buffer_0 rfl (lv_at hl 0 rfl) ?_
  refine lv_iload_n hx hb d_MO_buffer_1 rfl (lv_at hl 1 rfl) ?_
  refine lv_iconst (v := (3 : Int32)) hx hb d_MO_buffer_2 (by decide) ?_
  obtain ⟨q2, e1, h⟩ := xb h
  refine mc_i (va_runV (As := [.int a1, .int (3 : Int32)]) (rest := []) ⟨hx, hb, hml, hown, hts⟩ (c_MO_newThing l D lay cA S a1 (3 : Int32) q2 e1) (cwV 2 hts (xT_V wd_926 wd_928 wp_40 wd_7 wd_929) rfl rfl rfl (by decide +kernel) ⟨Nat.le_of_ble_eq_true rfl, Nat.le_of_ble_eq_true rfl⟩) (mpV E hP hS (by decide) (mc_0 _ _ _ _) rfl) rfl rfl hl.1 rfl (lv_room (Nat.le_of_ble_eq_true rfl)) d_MO_buffer_3 ⟨Nat.le_of_ble_eq_true rfl, Nat.le_of_ble_eq_true rfl⟩) hS (fun H locs hP hS => ?_)
  refine lv_istore_n (lv' := [(2, .int q2.1), (0, .ref (lay 0)), (1, .int a1)]) hx hb d_MO_buffer_6 rfl hl (by decide) rfl (fun ls hl => ?_)
  refine lv_iload_n hx hb d_MO_buffer_7 rfl (lv_at hl 0 rfl) ?_
  refine lv_iconst (v := (-1 : Int32)) hx hb d_MO_buffer_8 (by decide) ?_
  refine lv_icmp_eq (tgt := 34) hx hb d_MO_buffer_9 (by decide) (fun c_8 => ?_) (fun c_8 => ?_)
  · have h := xif_t c_8 h
    have h9 := Option.some.inj h
    subst h9
    exact W.vret hx hb hr (fun t ht hW => ⟨⟨(), rfl, trivial, by show va_P D xcl _ t.heap; rw [ht]; exact hP⟩, hS.F ht⟩) hS.2.2 d_MO_buffer_34
  · have h := xif_f c_8 h
    refine lv_aload_n hx hb d_MO_buffer_12 rfl (lv_at hl 1 rfl) ?_
    refine va_get (v := .ref (lay 16)) (C := R_MO) (T := F_MO) (N := 41) hx hb hts i_MO hown hK hP 0 (mw_at (by decide) (mc_0 _ _ _ _)) rfl 27 (by decide) (hts _ wd_727) (fun _ h9 => h9) rfl d_MO_buffer_13 ?_
    refine lv_iconst (v := (5 : Int32)) hx hb d_MO_buffer_16 (by decide) ?_
    refine lv_iload_n hx hb d_MO_buffer_17 rfl (lv_at hl 0 rfl) ?_
    refine lv_imul hx hb d_MO_buffer_18 ?_
    refine lv_aload_n hx hb d_MO_buffer_19 rfl (lv_at hl 1 rfl) ?_
    refine lv_iconst (v := (1 : Int32)) hx hb d_MO_buffer_20 (by decide) ?_
    refine lv_bipush (v := (8 : Int32)) hx hb d_MO_buffer_21 (by decide) ?_
    refine lv_iconst (v := (1 : Int32)) hx hb d_MO_buffer_23 (by decide) ?_
    obtain ⟨q4, e3, h⟩ := xb h
    refine mc_i (va_runV (As := [.int (1 : Int32), .int (8 : Int32), .int (1 : Int32)]) (rest := [.int ((5 : Int32) * q2.1), .ref (lay 16)]) ⟨hx, hb, hml, hown, hts⟩ (c_MO_number l D lay cA q2.2 (1 : Int32) (8 : Int32) (1 : Int32) q4 e3) (cwV 3 hts (xT_V wd_914 wd_916 wp_37 wd_7 wd_917) rfl rfl rfl (by decide +kernel) ⟨Nat.le_of_ble_eq_true rfl, Nat.le_of_ble_eq_true rfl⟩) (mpV E hP hS (by decide) (mc_0 _ _ _ _) rfl) rfl rfl hl.1 rfl (lv_room (Nat.le_of_ble_eq_true rfl)) d_MO_buffer_24 ⟨Nat.le_of_ble_eq_true rfl, Nat.le_of_ble_eq_true rfl⟩) hS (fun H locs hP hS => ?_)
    obtain ⟨hg5, h⟩ := xg h
    refine mas_16 hx hb E hP hS hg5 d_MO_buffer_27 (fun H locs hP hS => ?_)
    refine lv_aload_n hx hb d_MO_buffer_28 rfl (lv_at hl 1 rfl) ?_
    refine lv_bipush (v := (59 : Int32)) hx hb d_MO_buffer_29 (by decide) ?_
    obtain ⟨q7, e6, h⟩ := xb h
    refine mc_v (va_runV (As := [.int (59 : Int32)]) (rest := []) ⟨hx, hb, hml, hown, hts⟩ (c_MO_sign l D lay cA (xpi q4.2 16 ((5 : Int32) * q2.1).toNatClampNeg q4.1) (59 : Int32) q7 e6) (cwV 1 hts (xT_V wd_902 wd_904 wp_34 wd_7 wd_905) rfl rfl rfl (by decide +kernel) ⟨Nat.le_of_ble_eq_true rfl, Nat.le_of_ble_eq_true rfl⟩) (mpV E hP hS (by decide) (mc_0 _ _ _ _) rfl) rfl rfl hl.1 rfl (lv_room (Nat.le_of_ble_eq_true rfl)) d_MO_buffer_31 ⟨Nat.le_of_ble_eq_true rfl, Nat.le_of_ble_eq_true rfl⟩) hS (fun H locs hP hS => ?_)
    have h9 := Option.some.inj h
    subst h9
    exact W.vret hx hb hr (fun t ht hW => ⟨⟨(), rfl, trivial, by show va_P D xcl _ t.heap; rw [ht]; exact hP⟩, hS.F ht⟩) hS.2.2 d_MO_buffer_34
theorem c_MO_buffer (l : Launch) (D : va_G) (lay : Nat → Nat) (cA : Nat → ClassId) (S : XS) (a1 : Int32) (r : XS) (h : f_MO_buffer S a1 = some r) : Met l y_MO_buffer (.code y_MO_buffer b_MO_buffer 3 ((Option.none : Option Jvm.ClassFile.FieldType)) :: xT) rm_MO_buffer (mPc D lay cA S [.ref (lay 0), .int a1]) (mqv D lay cA r) 0 0 (mI lay) := by
  refine Met.ofW (cc := b_MO_buffer) (maxL := 3) (ret := (Option.none : Option Jvm.ClassFile.FieldType)) (by decide +kernel) rfl ?_
  intro p e s m args below meth c s₁ B hml hv
  obtain ⟨rfl, hP, E⟩ := hv
  have C := xB_of B hml
  have hl := lv_entry ([.ref (lay 0), .int a1]) (n := 3) (Nat.le_of_ble_eq_true rfl)
  rw [lg_entry_eq]
  generalize (lg_sl ([.ref (lay 0), .int a1]) ++ List.replicate (3 - (lg_sl ([.ref (lay 0), .int a1])).length) Slot.unset).toArray = ls at hl ⊢
  exact k_MO_buffer l C E S a1 r h s.heap [] ls hP va_S.rf hl
/-! ConfigTextsModel.plain(II)V -/
def rm_MO_plain : Room := { frames := 4, cells := 0, slots := 0, locals := 89 }
theorem d_MO_plain_0 : decode b_MO_plain 0 = .ok (.aload_n 0, 1) := by decide +kernel
theorem d_MO_plain_1 : decode b_MO_plain 1 = .ok (.iload_n 1, 1) := by decide +kernel
theorem d_MO_plain_2 : decode b_MO_plain 2 = .ok (.iload_n 2, 1) := by decide +kernel
theorem d_MO_plain_3 : decode b_MO_plain 3 = .ok (.invokevirtual 251, 3) := by decide +kernel
theorem d_MO_plain_6 : decode b_MO_plain 6 = .ok (.istore_n 3, 1) := by decide +kernel
theorem d_MO_plain_7 : decode b_MO_plain 7 = .ok (.iload_n 3, 1) := by decide +kernel
theorem d_MO_plain_8 : decode b_MO_plain 8 = .ok (.iconst (-1), 1) := by decide +kernel
theorem d_MO_plain_9 : decode b_MO_plain 9 = .ok (.if_icmp .eq 9, 3) := by decide +kernel
theorem d_MO_plain_12 : decode b_MO_plain 12 = .ok (.aload_n 0, 1) := by decide +kernel
theorem d_MO_plain_13 : decode b_MO_plain 13 = .ok (.bipush 59, 2) := by decide +kernel
theorem d_MO_plain_15 : decode b_MO_plain 15 = .ok (.invokevirtual 238, 3) := by decide +kernel
theorem d_MO_plain_18 : decode b_MO_plain 18 = .ok (.return_, 1) := by decide +kernel
def f_MO_plain (S : XS) (a1 : Int32) (a2 : Int32) : Option (XS) :=
  (f_MO_newThing S a1 a2).bind fun q2 => if q2.1 = (-1 : Int32) then (some q2.2) else ((f_MO_sign q2.2 (59 : Int32)).bind fun q4 => some q4)
set_option maxHeartbeats 4000000 in
set_option maxRecDepth 100000 in
theorem k_MO_plain (l : Launch) {p : Program} {e : Env} {s : State} {m : MethodId} {args : Array Value} {below : List Frame} {meth : Method} {c : Code} {D : va_G} {lay : Nat → Nat} {cA : Nat → ClassId} (C : xB p s m args meth c R_MO b_MO_plain ((Option.none : Option Jvm.ClassFile.FieldType)) 4) (E : mE D lay cA s s.heap) : ∀ (S : XS) (a1 : Int32) (a2 : Int32) (r : XS) (_ : f_MO_plain S a1 a2 = some r) (H : Heap) (locs : List Loc) (ls : Array Slot), va_P D xcl (mw lay cA S) H → va_S (mI lay) s.heap H locs → lv_has ls 4 [(0, .ref (lay 0)), (1, .int a1), (2, .int a2)] → W p l e rm_MO_plain s m args below meth c H locs 0 0 (MQ below (mqv D lay cA r) args s 0 0 (mI lay)) (F0 m 0 ls []) := by
  obtain ⟨hx, hb, hr, hml, hown, hts, hlk, hnh⟩ := id C
  have hK := E.K
  intro S a1 a2 r h H locs ls hP hS hl
  unfold f_MO_plain at h
  refine lv_aload_n hx hb d_MO_plain_0 rfl (lv_at hl 0 rfl) ?_
  refine lv_iload_n hx hb d_MO_plain_1 rfl (lv_at hl 1 rfl) ?_
  refine lv_iload_n hx hb d_MO_plain_2 rfl (lv_at hl 2 rfl) ?_
  obtain ⟨q2, e1, h⟩ := xb h
  refine mc_i (va_runV (As := [.int a1, .int a2]) (rest := []) ⟨hx, hb, hml, hown, hts⟩ (c_MO_newThing l D lay cA S a1 a2 q2 e1) (cwV 2 hts (xT_V wd_926 wd_928 wp_40 wd_7 wd_929) rfl rfl rfl (by decide +kernel) ⟨Nat.le_of_ble_eq_true rfl, Nat.le_of_ble_eq_true rfl⟩) (mpV E hP hS (by decide) (mc_0 _ _ _ _) rfl) rfl rfl hl.1 rfl (lv_room (Nat.le_of_ble_eq_true rfl)) d_MO_plain_3 ⟨Nat.le_of_ble_eq_true rfl, Nat.le_of_ble_eq_true rfl⟩) hS (fun H locs hP hS => ?_)
  refine lv_istore_n (lv' := [(3, .int q2.1), (0, .ref (lay 0)), (1, .int a1), (2, .int a2)]) hx hb d_MO_plain_6 rfl hl (by decide) rfl (fun ls hl => ?_)
  refine lv_iload_n hx hb d_MO_plain_7 rfl (lv_at hl 0 rfl) ?_
  refine lv_iconst (v := (-1 : Int32)) hx hb d_MO_plain_8 (by decide) ?_
  refine lv_icmp_eq (tgt := 18) hx hb d_MO_plain_9 (by decide) (fun c_5 => ?_) (fun c_5 => ?_)
  · have h := xif_t c_5 h
    have h9 := Option.some.inj h
    subst h9
    exact W.vret hx hb hr (fun t ht hW => ⟨⟨(), rfl, trivial, by show va_P D xcl _ t.heap; rw [ht]; exact hP⟩, hS.F ht⟩) hS.2.2 d_MO_plain_18
  · have h := xif_f c_5 h
    refine lv_aload_n hx hb d_MO_plain_12 rfl (lv_at hl 1 rfl) ?_
    refine lv_bipush (v := (59 : Int32)) hx hb d_MO_plain_13 (by decide) ?_
    obtain ⟨q4, e3, h⟩ := xb h
    refine mc_v (va_runV (As := [.int (59 : Int32)]) (rest := []) ⟨hx, hb, hml, hown, hts⟩ (c_MO_sign l D lay cA q2.2 (59 : Int32) q4 e3) (cwV 1 hts (xT_V wd_902 wd_904 wp_34 wd_7 wd_905) rfl rfl rfl (by decide +kernel) ⟨Nat.le_of_ble_eq_true rfl, Nat.le_of_ble_eq_true rfl⟩) (mpV E hP hS (by decide) (mc_0 _ _ _ _) rfl) rfl rfl hl.1 rfl (lv_room (Nat.le_of_ble_eq_true rfl)) d_MO_plain_15 ⟨Nat.le_of_ble_eq_true rfl, Nat.le_of_ble_eq_true rfl⟩) hS (fun H locs hP hS => ?_)
    have h9 := Option.some.inj h
    subst h9
    exact W.vret hx hb hr (fun t ht hW => ⟨⟨(), rfl, trivial, by show va_P D xcl _ t.heap; rw [ht]; exact hP⟩, hS.F ht⟩) hS.2.2 d_MO_plain_18
theorem c_MO_plain (l : Launch) (D : va_G) (lay : Nat → Nat) (cA : Nat → ClassId) (S : XS) (a1 : Int32) (a2 : Int32) (r : XS) (h : f_MO_plain S a1 a2 = some r) : Met l y_MO_plain (.code y_MO_plain b_MO_plain 4 ((Option.none : Option Jvm.ClassFile.FieldType)) :: xT) rm_MO_plain (mPc D lay cA S [.ref (lay 0), .int a1, .int a2]) (mqv D lay cA r) 0 0 (mI lay) := by
  refine Met.ofW (cc := b_MO_plain) (maxL := 4) (ret := (Option.none : Option Jvm.ClassFile.FieldType)) (by decide +kernel) rfl ?_
  intro p e s m args below meth c s₁ B hml hv
  obtain ⟨rfl, hP, E⟩ := hv
  have C := xB_of B hml
  have hl := lv_entry ([.ref (lay 0), .int a1, .int a2]) (n := 4) (Nat.le_of_ble_eq_true rfl)
  rw [lg_entry_eq]
  generalize (lg_sl ([.ref (lay 0), .int a1, .int a2]) ++ List.replicate (4 - (lg_sl ([.ref (lay 0), .int a1, .int a2])).length) Slot.unset).toArray = ls at hl ⊢
  exact k_MO_plain l C E S a1 a2 r h s.heap [] ls hP va_S.rf hl
/-! ConfigTextsModel.port(I)V -/
def rm_MO_port : Room := { frames := 4, cells := 0, slots := 0, locals := 89 }
theorem d_MO_port_0 : decode b_MO_port 0 = .ok (.aload_n 0, 1) := by decide +kernel
theorem d_MO_port_1 : decode b_MO_port 1 = .ok (.iload_n 1, 1) := by decide +kernel
theorem d_MO_port_2 : decode b_MO_port 2 = .ok (.iconst 5, 1) := by decide +kernel
theorem d_MO_port_3 : decode b_MO_port 3 = .ok (.invokevirtual 251, 3) := by decide +kernel
theorem d_MO_port_6 : decode b_MO_port 6 = .ok (.istore_n 2, 1) := by decide +kernel
theorem d_MO_port_7 : decode b_MO_port 7 = .ok (.iload_n 2, 1) := by decide +kernel
theorem d_MO_port_8 : decode b_MO_port 8 = .ok (.iconst (-1), 1) := by decide +kernel
theorem d_MO_port_9 : decode b_MO_port 9 = .ok (.if_icmp .ne 4, 3) := by decide +kernel
theorem d_MO_port_12 : decode b_MO_port 12 = .ok (.return_, 1) := by decide +kernel
theorem d_MO_port_13 : decode b_MO_port 13 = .ok (.aload_n 0, 1) := by decide +kernel
theorem d_MO_port_14 : decode b_MO_port 14 = .ok (.getfield 131, 3) := by decide +kernel
theorem d_MO_port_17 : decode b_MO_port 17 = .ok (.iconst 5, 1) := by decide +kernel
theorem d_MO_port_18 : decode b_MO_port 18 = .ok (.iload_n 2, 1) := by decide +kernel
theorem d_MO_port_19 : decode b_MO_port 19 = .ok (.imul, 1) := by decide +kernel
theorem d_MO_port_20 : decode b_MO_port 20 = .ok (.iconst 2, 1) := by decide +kernel
theorem d_MO_port_21 : decode b_MO_port 21 = .ok (.iadd, 1) := by decide +kernel
theorem d_MO_port_22 : decode b_MO_port 22 = .ok (.iconst (-1), 1) := by decide +kernel
theorem d_MO_port_23 : decode b_MO_port 23 = .ok (.iastore, 1) := by decide +kernel
theorem d_MO_port_24 : decode b_MO_port 24 = .ok (.aload_n 0, 1) := by decide +kernel
theorem d_MO_port_25 : decode b_MO_port 25 = .ok (.bipush 15, 2) := by decide +kernel
theorem d_MO_port_27 : decode b_MO_port 27 = .ok (.invokevirtual 260, 3) := by decide +kernel
theorem d_MO_port_30 : decode b_MO_port 30 = .ok (.ifCond .eq 15, 3) := by decide +kernel
theorem d_MO_port_33 : decode b_MO_port 33 = .ok (.aload_n 0, 1) := by decide +kernel
theorem d_MO_port_34 : decode b_MO_port 34 = .ok (.getfield 131, 3) := by decide +kernel
theorem d_MO_port_37 : decode b_MO_port 37 = .ok (.iconst 5, 1) := by decide +kernel
theorem d_MO_port_38 : decode b_MO_port 38 = .ok (.iload_n 2, 1) := by decide +kernel
theorem d_MO_port_39 : decode b_MO_port 39 = .ok (.imul, 1) := by decide +kernel
theorem d_MO_port_40 : decode b_MO_port 40 = .ok (.iconst 1, 1) := by decide +kernel
theorem d_MO_port_41 : decode b_MO_port 41 = .ok (.iastore, 1) := by decide +kernel
theorem d_MO_port_42 : decode b_MO_port 42 = .ok (.goto 9, 3) := by decide +kernel
theorem d_MO_port_45 : decode b_MO_port 45 = .ok (.aload_n 0, 1) := by decide +kernel
theorem d_MO_port_46 : decode b_MO_port 46 = .ok (.bipush 14, 2) := by decide +kernel
theorem d_MO_port_48 : decode b_MO_port 48 = .ok (.invokevirtual 231, 3) := by decide +kernel
theorem d_MO_port_51 : decode b_MO_port 51 = .ok (.aload_n 0, 1) := by decide +kernel
theorem d_MO_port_52 : decode b_MO_port 52 = .ok (.bipush 19, 2) := by decide +kernel
theorem d_MO_port_54 : decode b_MO_port 54 = .ok (.invokevirtual 260, 3) := by decide +kernel
theorem d_MO_port_57 : decode b_MO_port 57 = .ok (.ifCond .eq 17, 3) := by decide +kernel
theorem d_MO_port_60 : decode b_MO_port 60 = .ok (.aload_n 0, 1) := by decide +kernel
theorem d_MO_port_61 : decode b_MO_port 61 = .ok (.getfield 131, 3) := by decide +kernel
theorem d_MO_port_64 : decode b_MO_port 64 = .ok (.iconst 5, 1) := by decide +kernel
theorem d_MO_port_65 : decode b_MO_port 65 = .ok (.iload_n 2, 1) := by decide +kernel
theorem d_MO_port_66 : decode b_MO_port 66 = .ok (.imul, 1) := by decide +kernel
theorem d_MO_port_67 : decode b_MO_port 67 = .ok (.iconst 1, 1) := by decide +kernel
theorem d_MO_port_68 : decode b_MO_port 68 = .ok (.iadd, 1) := by decide +kernel
theorem d_MO_port_69 : decode b_MO_port 69 = .ok (.iconst 1, 1) := by decide +kernel
theorem d_MO_port_70 : decode b_MO_port 70 = .ok (.iastore, 1) := by decide +kernel
theorem d_MO_port_71 : decode b_MO_port 71 = .ok (.goto 9, 3) := by decide +kernel
theorem d_MO_port_74 : decode b_MO_port 74 = .ok (.aload_n 0, 1) := by decide +kernel
theorem d_MO_port_75 : decode b_MO_port 75 = .ok (.bipush 18, 2) := by decide +kernel
theorem d_MO_port_77 : decode b_MO_port 77 = .ok (.invokevirtual 231, 3) := by decide +kernel
theorem d_MO_port_80 : decode b_MO_port 80 = .ok (.aload_n 0, 1) := by decide +kernel
theorem d_MO_port_81 : decode b_MO_port 81 = .ok (.bipush 59, 2) := by decide +kernel
theorem d_MO_port_83 : decode b_MO_port 83 = .ok (.invokevirtual 238, 3) := by decide +kernel
theorem d_MO_port_86 : decode b_MO_port 86 = .ok (.return_, 1) := by decide +kernel
def f_MO_port_51 (S : XS) (a2 : Int32) : Option (XS) :=
  (f_MO_accept S (19 : Int32)).bind fun q12 => if q12.1 = 0 then ((f_MO_need q12.2 (18 : Int32)).bind fun q14 => (f_MO_sign q14 (59 : Int32)).bind fun q16 => some q16) else (if ¬ ((((5 : Int32) * a2) + (1 : Int32)) < 0 ∨ 1600 ≤ (((5 : Int32) * a2) + (1 : Int32)).toNatClampNeg) then ((f_MO_sign (xpi q12.2 16 (((5 : Int32) * a2) + (1 : Int32)).toNatClampNeg (1 : Int32)) (59 : Int32)).bind fun q19 => some q19) else none)
set_option maxHeartbeats 4000000 in
set_option maxRecDepth 100000 in
theorem k_MO_port_51 (l : Launch) {p : Program} {e : Env} {s : State} {m : MethodId} {args : Array Value} {below : List Frame} {meth : Method} {c : Code} {D : va_G} {lay : Nat → Nat} {cA : Nat → ClassId} (C : xB p s m args meth c R_MO b_MO_port ((Option.none : Option Jvm.ClassFile.FieldType)) 3) (E : mE D lay cA s s.heap) : ∀ (S : XS) (a2 : Int32) (r : XS) (_ : f_MO_port_51 S a2 = some r) (H : Heap) (locs : List Loc) (ls : Array Slot), va_P D xcl (mw lay cA S) H → va_S (mI lay) s.heap H locs → lv_has ls 3 [(0, .ref (lay 0)), (2, .int a2)] → W p l e rm_MO_port s m args below meth c H locs 0 0 (MQ below (mqv D lay cA r) args s 0 0 (mI lay)) (F0 m 51 ls []) := by
  obtain ⟨hx, hb, hr, hml, hown, hts, hlk, hnh⟩ := id C
  have hK := E.K
  intro S a2 r h H locs ls hP hS hl
  unfold f_MO_port_51 at h
  refine lv_aload_n hx hb d_MO_port_51 rfl (lv_at hl 0 rfl) ?_
  refine lv_bipush (v := (19 : Int32)) hx hb d_MO_port_52 (by decide) ?_
  obtain ⟨q12, e11, h⟩ := xb h
  refine mc_i (va_runV (As := [.int (19 : Int32)]) (rest := []) ⟨hx, hb, hml, hown, hts⟩ (c_MO_accept l D lay cA S (19 : Int32) q12 e11) (cwV 1 hts (xT_V wd_938 wd_940 wp_42 wd_7 wd_941) rfl rfl rfl (by decide +kernel) ⟨Nat.le_of_ble_eq_true rfl, Nat.le_of_ble_eq_true rfl⟩) (mpV E hP hS (by decide) (mc_0 _ _ _ _) rfl) rfl rfl hl.1 rfl (lv_room (Nat.le_of_ble_eq_true rfl)) d_MO_port_54 ⟨Nat.le_of_ble_eq_true rfl, Nat.le_of_ble_eq_true rfl⟩) hS (fun H locs hP hS => ?_)
  refine lv_if_eq (tgt := 74) hx hb d_MO_port_57 (by decide) (fun c_20 => ?_) (fun c_20 => ?_)
  · have h := xif_t c_20 h
    refine lv_aload_n hx hb d_MO_port_74 rfl (lv_at hl 0 rfl) ?_
    refine lv_bipush (v := (18 : Int32)) hx hb d_MO_port_75 (by decide) ?_
    obtain ⟨q14, e13, h⟩ := xb h
    refine mc_v (va_runV (As := [.int (18 : Int32)]) (rest := []) ⟨hx, hb, hml, hown, hts⟩ (c_MO_need l D lay cA q12.2 (18 : Int32) q14 e13) (cwV 1 hts (xT_V wd_874 wd_876 wp_27 wd_7 wd_877) rfl rfl rfl (by decide +kernel) ⟨Nat.le_of_ble_eq_true rfl, Nat.le_of_ble_eq_true rfl⟩) (mpV E hP hS (by decide) (mc_0 _ _ _ _) rfl) rfl rfl hl.1 rfl (lv_room (Nat.le_of_ble_eq_true rfl)) d_MO_port_77 ⟨Nat.le_of_ble_eq_true rfl, Nat.le_of_ble_eq_true rfl⟩) hS (fun H locs hP hS => ?_)
    refine lv_aload_n hx hb d_MO_port_80 rfl (lv_at hl 0 rfl) ?_
    refine lv_bipush (v := (59 : Int32)) hx hb d_MO_port_81 (by decide) ?_
    obtain ⟨q16, e15, h⟩ := xb h
    refine mc_v (va_runV (As := [.int (59 : Int32)]) (rest := []) ⟨hx, hb, hml, hown, hts⟩ (c_MO_sign l D lay cA q14 (59 : Int32) q16 e15) (cwV 1 hts (xT_V wd_902 wd_904 wp_34 wd_7 wd_905) rfl rfl rfl (by decide +kernel) ⟨Nat.le_of_ble_eq_true rfl, Nat.le_of_ble_eq_true rfl⟩) (mpV E hP hS (by decide) (mc_0 _ _ _ _) rfl) rfl rfl hl.1 rfl (lv_room (Nat.le_of_ble_eq_true rfl)) d_MO_port_83 ⟨Nat.le_of_ble_eq_true rfl, Nat.le_of_ble_eq_true rfl⟩) hS (fun H locs hP hS => ?_)
    have h9 := Option.some.inj h
    subst h9
    exact W.vret hx hb hr (fun t ht hW => ⟨⟨(), rfl, trivial, by show va_P D xcl _ t.heap; rw [ht]; exact hP⟩, hS.F ht⟩) hS.2.2 d_MO_port_86
  · have h := xif_f c_20 h
    refine lv_aload_n hx hb d_MO_port_60 rfl (lv_at hl 0 rfl) ?_
    refine va_get (v := .ref (lay 16)) (C := R_MO) (T := F_MO) (N := 41) hx hb hts i_MO hown hK hP 0 (mw_at (by decide) (mc_0 _ _ _ _)) rfl 27 (by decide) (hts _ wd_727) (fun _ h9 => h9) rfl d_MO_port_61 ?_
    refine lv_iconst (v := (5 : Int32)) hx hb d_MO_port_64 (by decide) ?_
    refine lv_iload_n hx hb d_MO_port_65 rfl (lv_at hl 1 rfl) ?_
    refine lv_imul hx hb d_MO_port_66 ?_
    refine lv_iconst (v := (1 : Int32)) hx hb d_MO_port_67 (by decide) ?_
    refine lv_iadd hx hb d_MO_port_68 ?_
    refine lv_iconst (v := (1 : Int32)) hx hb d_MO_port_69 (by decide) ?_
    obtain ⟨hg17, h⟩ := xg h
    refine mas_16 hx hb E hP hS hg17 d_MO_port_70 (fun H locs hP hS => ?_)
    refine lv_goto (tgt := 80) hx hb d_MO_port_71 (by decide) ?_
    refine lv_aload_n hx hb d_MO_port_80 rfl (lv_at hl 0 rfl) ?_
    refine lv_bipush (v := (59 : Int32)) hx hb d_MO_port_81 (by decide) ?_
    obtain ⟨q19, e18, h⟩ := xb h
    refine mc_v (va_runV (As := [.int (59 : Int32)]) (rest := []) ⟨hx, hb, hml, hown, hts⟩ (c_MO_sign l D lay cA (xpi q12.2 16 (((5 : Int32) * a2) + (1 : Int32)).toNatClampNeg (1 : Int32)) (59 : Int32) q19 e18) (cwV 1 hts (xT_V wd_902 wd_904 wp_34 wd_7 wd_905) rfl rfl rfl (by decide +kernel) ⟨Nat.le_of_ble_eq_true rfl, Nat.le_of_ble_eq_true rfl⟩) (mpV E hP hS (by decide) (mc_0 _ _ _ _) rfl) rfl rfl hl.1 rfl (lv_room (Nat.le_of_ble_eq_true rfl)) d_MO_port_83 ⟨Nat.le_of_ble_eq_true rfl, Nat.le_of_ble_eq_true rfl⟩) hS (fun H locs hP hS => ?_)
    have h9 := Option.some.inj h
    subst h9
    exact W.vret hx hb hr (fun t ht hW => ⟨⟨(), rfl, trivial, by show va_P D xcl _ t.heap; rw [ht]; exact hP⟩, hS.F ht⟩) hS.2.2 d_MO_port_86
def f_MO_port (S : XS) (a1 : Int32) : Option (XS) :=
  (f_MO_newThing S a1 (5 : Int32)).bind fun q2 => if q2.1 = (-1 : Int32) then (some q2.2) else (if ¬ ((((5 : Int32) * q2.1) + (2 : Int32)) < 0 ∨ 1600 ≤ (((5 : Int32) * q2.1) + (2 : Int32)).toNatClampNeg) then ((f_MO_accept (xpi q2.2 16 (((5 : Int32) * q2.1) + (2 : Int32)).toNatClampNeg (-1 : Int32)) (15 : Int32)).bind fun q5 => if q5.1 = 0 then ((f_MO_need q5.2 (14 : Int32)).bind fun q7 => f_MO_port_51 q7 q2.1) else (if ¬ (((5 : Int32) * q2.1) < 0 ∨ 1600 ≤ ((5 : Int32) * q2.1).toNatClampNeg) then (f_MO_port_51 (xpi q5.2 16 ((5 : Int32) * q2.1).toNatClampNeg (1 : Int32)) q2.1) else none)) else none)
set_option maxHeartbeats 4000000 in
set_option maxRecDepth 100000 in
theorem k_MO_port (l : Launch) {p : Program} {e : Env} {s : State} {m : MethodId} {args : Array Value} {below : List Frame} {meth : Method} {c : Code} {D : va_G} {lay : Nat → Nat} {cA : Nat → ClassId} (C : xB p s m args meth c R_MO b_MO_port ((Option.none : Option Jvm.ClassFile.FieldType)) 3) (E : mE D lay cA s s.heap) : ∀ (S : XS) (a1 : Int32) (r : XS) (_ : f_MO_port S a1 = some r) (H : Heap) (locs : List Loc) (ls : Array Slot), va_P D xcl (mw lay cA S) H → va_S (mI lay) s.heap H locs → lv_has ls 3 [(0, .ref (lay 0)), (1, .int a1)] → W p l e rm_MO_port s m args below meth c H locs 0 0 (MQ below (mqv D lay cA r) args s 0 0 (mI lay)) (F0 m 0 ls []) := by
  obtain ⟨hx, hb, hr, hml, hown, hts, hlk, hnh⟩ := id C
  have hK := E.K
  intro S a1 r h H locs ls hP hS hl
  unfold f_MO_port at h
  refine lv_aload_n hx hb d_MO_port_0 rfl (lv_at hl 0 rfl) ?_
  refine lv_iload_n hx hb d_MO_port_1 rfl (lv_at hl 1 rfl) ?_
  refine lv_iconst (v := (5 : Int32)) hx hb d_MO_port_2 (by decide) ?_
  obtain ⟨q2, e1, h⟩ := xb h
  refine mc_i (va_runV (As := [.int a1, .int (5 : Int32)]) (rest := []) ⟨hx, hb, hml, hown, hts⟩ (c_MO_newThing l D lay cA S a1 (5 : Int32) q2 e1) (cwV 2 hts (xT_V wd_926 wd_928 wp_40 wd_7 wd_929) rfl rfl rfl (by decide +kernel) ⟨Nat.le_of_ble_eq_true rfl, Nat.le_of_ble_eq_true rfl⟩) (mpV E hP hS (by decide) (mc_0 _ _ _ _) rfl) rfl rfl hl.1 rfl (lv_room (Nat.le_of_ble_eq_true rfl)) d_MO_port_3 ⟨Nat.le_of_ble_eq_true rfl, Nat.le_of_ble_eq_true rfl⟩) hS (fun H locs hP hS => ?_)
  refine lv_istore_n (lv' := [(2, .int q2.1), (0, .ref (lay 0)), (1, .int a1)]) hx hb d_MO_port_6 rfl hl (by decide) rfl (fun ls hl => ?_)
  refine lv_iload_n hx hb d_MO_port_7 rfl (lv_at hl 0 rfl) ?_
  refine lv_iconst (v := (-1 : Int32)) hx hb d_MO_port_8 (by decide) ?_
  refine lv_icmp_ne (tgt := 13) hx hb d_MO_port_9 (by decide) (fun c_10 => ?_) (fun c_10 => ?_)
  · have h := xif_f c_10 h
    refine lv_aload_n hx hb d_MO_port_13 rfl (lv_at hl 1 rfl) ?_
    refine va_get (v := .ref (lay 16)) (C := R_MO) (T := F_MO) (N := 41) hx hb hts i_MO hown hK hP 0 (mw_at (by decide) (mc_0 _ _ _ _)) rfl 27 (by decide) (hts _ wd_727) (fun _ h9 => h9) rfl d_MO_port_14 ?_
    refine lv_iconst (v := (5 : Int32)) hx hb d_MO_port_17 (by decide) ?_
    refine lv_iload_n hx hb d_MO_port_18 rfl (lv_at hl 0 rfl) ?_
    refine lv_imul hx hb d_MO_port_19 ?_
    refine lv_iconst (v := (2 : Int32)) hx hb d_MO_port_20 (by decide) ?_
    refine lv_iadd hx hb d_MO_port_21 ?_
    refine lv_iconst (v := (-1 : Int32)) hx hb d_MO_port_22 (by decide) ?_
    obtain ⟨hg3, h⟩ := xg h
    refine mas_16 hx hb E hP hS hg3 d_MO_port_23 (fun H locs hP hS => ?_)
    refine lv_aload_n hx hb d_MO_port_24 rfl (lv_at hl 1 rfl) ?_
    refine lv_bipush (v := (15 : Int32)) hx hb d_MO_port_25 (by decide) ?_
    obtain ⟨q5, e4, h⟩ := xb h
    refine mc_i (va_runV (As := [.int (15 : Int32)]) (rest := []) ⟨hx, hb, hml, hown, hts⟩ (c_MO_accept l D lay cA (xpi q2.2 16 (((5 : Int32) * q2.1) + (2 : Int32)).toNatClampNeg (-1 : Int32)) (15 : Int32) q5 e4) (cwV 1 hts (xT_V wd_938 wd_940 wp_42 wd_7 wd_941) rfl rfl rfl (by decide +kernel) ⟨Nat.le_of_ble_eq_true rfl, Nat.le_of_ble_eq_true rfl⟩) (mpV E hP hS (by decide) (mc_0 _ _ _ _) rfl) rfl rfl hl.1 rfl (lv_room (Nat.le_of_ble_eq_true rfl)) d_MO_port_27 ⟨Nat.le_of_ble_eq_true rfl, Nat.le_of_ble_eq_true rfl⟩) hS (fun H locs hP hS => ?_)
    refine lv_if_eq (tgt := 45) hx hb d_MO_port_30 (by decide) (fun c_9 => ?_) (fun c_9 => ?_)
    · have h := xif_t c_9 h
      refine lv_aload_n hx hb d_MO_port_45 rfl (lv_at hl 1 rfl) ?_
      refine lv_bipush (v := (14 : Int32)) hx hb d_MO_port_46 (by decide) ?_
      obtain ⟨q7, e6, h⟩ := xb h
      refine mc_v (va_runV (As := [.int (14 : Int32)]) (rest := []) ⟨hx, hb, hml, hown, hts⟩ (c_MO_need l D lay cA q5.2 (14 : Int32) q7 e6) (cwV 1 hts (xT_V wd_874 wd_876 wp_27 wd_7 wd_877) rfl rfl rfl (by decide +kernel) ⟨Nat.le_of_ble_eq_true rfl, Nat.le_of_ble_eq_true rfl⟩) (mpV E hP hS (by decide) (mc_0 _ _ _ _) rfl) rfl rfl hl.1 rfl (lv_room (Nat.le_of_ble_eq_true rfl)) d_MO_port_48 ⟨Nat.le_of_ble_eq_true rfl, Nat.le_of_ble_eq_true rfl⟩) hS (fun H locs hP hS => ?_)
      exact k_MO_port_51 l C E q7 q2.1 _ h H locs ls hP hS (lv_sub hl [1, 0] rfl)
    · have h := xif_f c_9 h
      refine lv_aload_n hx hb d_MO_port_33 rfl (lv_at hl 1 rfl) ?_
      refine va_get (v := .ref (lay 16)) (C := R_MO) (T := F_MO) (N := 41) hx hb hts i_MO hown hK hP 0 (mw_at (by decide) (mc_0 _ _ _ _)) rfl 27 (by decide) (hts _ wd_727) (fun _ h9 => h9) rfl d_MO_port_34 ?_
      refine lv_iconst (v := (5 : Int32)) hx hb d_MO_port_37 (by decide) ?_
      refine lv_iload_n hx hb d_MO_port_38 rfl (lv_at hl 0 rfl) ?_
      refine lv_imul hx hb d_MO_port_39 ?_
      refine lv_iconst (v := (1 : Int32)) hx hb d_MO_port_40 (by decide) ?_
      obtain ⟨hg8, h⟩ := xg h
      refine mas_16 hx hb E hP hS hg8 d_MO_port_41 (fun H locs hP hS => ?_)
      refine lv_goto (tgt := 51) hx hb d_MO_port_42 (by decide) ?_
      exact k_MO_port_51 l C E (xpi q5.2 16 ((5 : Int32) * q2.1).toNatClampNeg (1 : Int32)) q2.1 _ h H locs ls hP hS (lv_sub hl [1, 0] rfl)
  · have h := xif_t c_10 h
    have h9 := Option.some.inj h
    subst h9
    exact W.vret hx hb hr (fun t ht hW => ⟨⟨(), rfl, trivial, by show va_P D xcl _ t.heap; rw [ht]; exact hP⟩, hS.F ht⟩) hS.2.2 d_MO_port_12
theorem c_MO_port (l : Launch) (D : va_G) (lay : Nat → Nat) (cA : Nat → ClassId) (S : XS) (a1 : Int32) (r : XS) (h : f_MO_port S a1 = some r) : Met l y_MO_port (.code y_MO_port b_MO_port 3 ((Option.none : Option Jvm.ClassFile.FieldType)) :: xT) rm_MO_port (mPc D lay cA S [.ref (lay 0), .int a1]) (mqv D lay cA r) 0 0 (mI lay) := by
  refine Met.ofW (cc := b_MO_port) (maxL := 3) (ret := (Option.none : Option Jvm.ClassFile.FieldType)) (by decide +kernel) rfl ?_
  intro p e s m args below meth c s₁ B hml hv
  obtain ⟨rfl, hP, E⟩ := hv
  have C := xB_of B hml
  have hl := lv_entry ([.ref (lay 0), .int a1]) (n := 3) (Nat.le_of_ble_eq_true rfl)
  rw [lg_entry_eq]
  generalize (lg_sl ([.ref (lay 0), .int a1]) ++ List.replicate (3 - (lg_sl ([.ref (lay 0), .int a1])).length) Slot.unset).toArray = ls at hl ⊢
  exact k_MO_port l C E S a1 r h s.heap [] ls hP va_S.rf hl
/-! ConfigTextsModel.kindHere()I -/
def rm_MO_kindHere : Room := { frames := 0, cells := 0, slots := 0, locals := 0 }
theorem d_MO_kindHere_0 : decode b_MO_kindHere 0 = .ok (.iconst 0, 1) := by decide +kernel
theorem d_MO_kindHere_1 : decode b_MO_kindHere 1 = .ok (.istore_n 1, 1) := by decide +kernel
theorem d_MO_kindHere_2 : decode b_MO_kindHere 2 = .ok (.iload_n 1, 1) := by decide +kernel
theorem d_MO_kindHere_3 : decode b_MO_kindHere 3 = .ok (.iconst 4, 1) := by decide +kernel
theorem d_MO_kindHere_4 : decode b_MO_kindHere 4 = .ok (.if_icmp .ge 41, 3) := by decide +kernel
theorem d_MO_kindHere_7 : decode b_MO_kindHere 7 = .ok (.aload_n 0, 1) := by decide +kernel
theorem d_MO_kindHere_8 : decode b_MO_kindHere 8 = .ok (.getfield 197, 3) := by decide +kernel
theorem d_MO_kindHere_11 : decode b_MO_kindHere 11 = .ok (.iconst 1, 1) := by decide +kernel
theorem d_MO_kindHere_12 : decode b_MO_kindHere 12 = .ok (.if_icmp .eq 11, 3) := by decide +kernel
theorem d_MO_kindHere_15 : decode b_MO_kindHere 15 = .ok (.aload_n 0, 1) := by decide +kernel
theorem d_MO_kindHere_16 : decode b_MO_kindHere 16 = .ok (.getfield 197, 3) := by decide +kernel
theorem d_MO_kindHere_19 : decode b_MO_kindHere 19 = .ok (.iconst 2, 1) := by decide +kernel
theorem d_MO_kindHere_20 : decode b_MO_kindHere 20 = .ok (.if_icmp .ne 19, 3) := by decide +kernel
theorem d_MO_kindHere_23 : decode b_MO_kindHere 23 = .ok (.aload_n 0, 1) := by decide +kernel
theorem d_MO_kindHere_24 : decode b_MO_kindHere 24 = .ok (.getfield 65, 3) := by decide +kernel
theorem d_MO_kindHere_27 : decode b_MO_kindHere 27 = .ok (.iload_n 1, 1) := by decide +kernel
theorem d_MO_kindHere_28 : decode b_MO_kindHere 28 = .ok (.laload, 1) := by decide +kernel
theorem d_MO_kindHere_29 : decode b_MO_kindHere 29 = .ok (.aload_n 0, 1) := by decide +kernel
theorem d_MO_kindHere_30 : decode b_MO_kindHere 30 = .ok (.getfield 167, 3) := by decide +kernel
theorem d_MO_kindHere_33 : decode b_MO_kindHere 33 = .ok (.lcmp, 1) := by decide +kernel
theorem d_MO_kindHere_34 : decode b_MO_kindHere 34 = .ok (.ifCond .ne 5, 3) := by decide +kernel
theorem d_MO_kindHere_37 : decode b_MO_kindHere 37 = .ok (.iload_n 1, 1) := by decide +kernel
theorem d_MO_kindHere_38 : decode b_MO_kindHere 38 = .ok (.ireturn, 1) := by decide +kernel
theorem d_MO_kindHere_39 : decode b_MO_kindHere 39 = .ok (.iinc 1 1, 3) := by decide +kernel
theorem d_MO_kindHere_42 : decode b_MO_kindHere 42 = .ok (.goto (-40), 3) := by decide +kernel
theorem d_MO_kindHere_45 : decode b_MO_kindHere 45 = .ok (.iconst (-1), 1) := by decide +kernel
theorem d_MO_kindHere_46 : decode b_MO_kindHere 46 = .ok (.ireturn, 1) := by decide +kernel
def f_MO_kindHere_2 : Nat → XS → Int32 → Option (Int32)
  | 0, _, _ => none
  | n + 1, S, a1 =>
    if (4 : Int32) ≤ a1 then (some (-1 : Int32)) else (if (xgi S 0 8) = (1 : Int32) then (if ¬ (a1 < 0 ∨ 4 ≤ a1.toNatClampNeg) then (if (lg_cmp (xgl S 2 a1.toNatClampNeg) (xgl S 0 10)) = 0 then (some a1) else (f_MO_kindHere_2 n S (a1 + (1 : Int32)))) else none) else (if (xgi S 0 8) = (2 : Int32) then (if ¬ (a1 < 0 ∨ 4 ≤ a1.toNatClampNeg) then (if (lg_cmp (xgl S 2 a1.toNatClampNeg) (xgl S 0 10)) = 0 then (some a1) else (f_MO_kindHere_2 n S (a1 + (1 : Int32)))) else none) else (f_MO_kindHere_2 n S (a1 + (1 : Int32)))))
set_option maxHeartbeats 4000000 in
set_option maxRecDepth 100000 in
theorem k_MO_kindHere_2 (l : Launch) {p : Program} {e : Env} {s : State} {m : MethodId} {args : Array Value} {below : List Frame} {meth : Method} {c : Code} {D : va_G} {lay : Nat → Nat} {cA : Nat → ClassId} (C : xB p s m args meth c R_MO b_MO_kindHere ((Option.some Jvm.ClassFile.FieldType.int)) 2) (E : mE D lay cA s s.heap) : ∀ (n : Nat) (S : XS) (a1 : Int32) (r : Int32) (_ : f_MO_kindHere_2 n S a1 = some r) (H : Heap) (locs : List Loc) (ls : Array Slot), va_P D xcl (mw lay cA S) H → va_S (mI lay) s.heap H locs → lv_has ls 2 [(0, .ref (lay 0)), (1, .int a1)] → W p l e rm_MO_kindHere s m args below meth c H locs 0 0 (MQ below (mqi D lay cA r S) args s 0 0 (mI lay)) (F0 m 2 ls []) := by
  obtain ⟨hx, hb, hr, hml, hown, hts, hlk, hnh⟩ := id C
  have hK := E.K
  intro n
  induction n with
  | zero => intro S a1 r h; rw [f_MO_kindHere_2] at h; cases h
  | succ n ih =>
    intro S a1 r h H locs ls hP hS hl
    rw [f_MO_kindHere_2] at h
    refine lv_iload_n hx hb d_MO_kindHere_2 rfl (lv_at hl 1 rfl) ?_
    refine lv_iconst (v := (4 : Int32)) hx hb d_MO_kindHere_3 (by decide) ?_
    refine lv_icmp_ge (tgt := 45) hx hb d_MO_kindHere_4 (by decide) (fun c_7 => ?_) (fun c_7 => ?_)
    · have h := xif_t c_7 h
      refine lv_iconst (v := (-1 : Int32)) hx hb d_MO_kindHere_45 (by decide) ?_
      have h9 := Option.some.inj h
      subst h9
      exact W.iret (v := (-1 : Int32)) hx hb hr (fun t ht hW => ⟨⟨(-1 : Int32), (), rfl, rfl, by show va_P D xcl _ t.heap; rw [ht]; exact hP⟩, hS.F ht⟩) hS.2.2 d_MO_kindHere_46
    · have h := xif_f c_7 h
      refine lv_aload_n hx hb d_MO_kindHere_7 rfl (lv_at hl 0 rfl) ?_
      refine va_get (v := .int (xgi S 0 8)) (C := R_MO) (T := F_MO) (N := 41) hx hb hts i_MO hown hK hP 0 (mw_at (by decide) (mc_0 _ _ _ _)) rfl 8 (by decide) (hts _ wd_708) (fun _ h9 => h9) rfl d_MO_kindHere_8 ?_
      refine lv_iconst (v := (1 : Int32)) hx hb d_MO_kindHere_11 (by decide) ?_
      refine lv_icmp_eq (tgt := 23) hx hb d_MO_kindHere_12 (by decide) (fun c_6 => ?_) (fun c_6 => ?_)
      · have h := xif_t c_6 h
        refine lv_aload_n hx hb d_MO_kindHere_23 rfl (lv_at hl 0 rfl) ?_
        refine va_get (v := .ref (lay 2)) (C := R_MO) (T := F_MO) (N := 41) hx hb hts i_MO hown hK hP 0 (mw_at (by decide) (mc_0 _ _ _ _)) rfl 2 (by decide) (hts _ wd_702) (fun _ h9 => h9) rfl d_MO_kindHere_24 ?_
        refine lv_iload_n hx hb d_MO_kindHere_27 rfl (lv_at hl 1 rfl) ?_
        obtain ⟨hg1, h⟩ := xg h
        refine mal_2 hx hb E hP hg1 d_MO_kindHere_28 ?_
        refine lv_aload_n hx hb d_MO_kindHere_29 rfl (lv_at hl 0 rfl) ?_
        refine va_get (v := .long (xgl S 0 10)) (C := R_MO) (T := F_MO) (N := 41) hx hb hts i_MO hown hK hP 0 (mw_at (by decide) (mc_0 _ _ _ _)) rfl 10 (by decide) (hts _ wd_710) (fun _ h9 => h9) rfl d_MO_kindHere_30 ?_
        refine W.lcmp hx hb d_MO_kindHere_33 ?_
        refine lv_if_ne (tgt := 39) hx hb d_MO_kindHere_34 (by decide) (fun c_2 => ?_) (fun c_2 => ?_)
        · have h := xif_f c_2 h
          refine lv_iinc (v := a1 + (1 : Int32)) (lv' := [(1, .int (a1 + (1 : Int32))), (0, .ref (lay 0))]) hx hb d_MO_kindHere_39 hl (k := 1) rfl (by rfl) (by decide) rfl (fun ls hl => ?_)
          refine lv_goto (tgt := 2) hx hb d_MO_kindHere_42 (by decide) ?_
          exact ih S (a1 + (1 : Int32)) _ h H locs ls hP hS (lv_sub hl [1, 0] rfl)
        · have h := xif_t c_2 h
          refine lv_iload_n hx hb d_MO_kindHere_37 rfl (lv_at hl 1 rfl) ?_
          have h9 := Option.some.inj h
          subst h9
          exact W.iret (v := a1) hx hb hr (fun t ht hW => ⟨⟨a1, (), rfl, rfl, by show va_P D xcl _ t.heap; rw [ht]; exact hP⟩, hS.F ht⟩) hS.2.2 d_MO_kindHere_38
      · have h := xif_f c_6 h
        refine lv_aload_n hx hb d_MO_kindHere_15 rfl (lv_at hl 0 rfl) ?_
        refine va_get (v := .int (xgi S 0 8)) (C := R_MO) (T := F_MO) (N := 41) hx hb hts i_MO hown hK hP 0 (mw_at (by decide) (mc_0 _ _ _ _)) rfl 8 (by decide) (hts _ wd_708) (fun _ h9 => h9) rfl d_MO_kindHere_16 ?_
        refine lv_iconst (v := (2 : Int32)) hx hb d_MO_kindHere_19 (by decide) ?_
        refine lv_icmp_ne (tgt := 39) hx hb d_MO_kindHere_20 (by decide) (fun c_5 => ?_) (fun c_5 => ?_)
        · have h := xif_f c_5 h
          refine lv_iinc (v := a1 + (1 : Int32)) (lv' := [(1, .int (a1 + (1 : Int32))), (0, .ref (lay 0))]) hx hb d_MO_kindHere_39 hl (k := 1) rfl (by rfl) (by decide) rfl (fun ls hl => ?_)
          refine lv_goto (tgt := 2) hx hb d_MO_kindHere_42 (by decide) ?_
          exact ih S (a1 + (1 : Int32)) _ h H locs ls hP hS (lv_sub hl [1, 0] rfl)
        · have h := xif_t c_5 h
          refine lv_aload_n hx hb d_MO_kindHere_23 rfl (lv_at hl 0 rfl) ?_
          refine va_get (v := .ref (lay 2)) (C := R_MO) (T := F_MO) (N := 41) hx hb hts i_MO hown hK hP 0 (mw_at (by decide) (mc_0 _ _ _ _)) rfl 2 (by decide) (hts _ wd_702) (fun _ h9 => h9) rfl d_MO_kindHere_24 ?_
          refine lv_iload_n hx hb d_MO_kindHere_27 rfl (lv_at hl 1 rfl) ?_
          obtain ⟨hg3, h⟩ := xg h
          refine mal_2 hx hb E hP hg3 d_MO_kindHere_28 ?_
          refine lv_aload_n hx hb d_MO_kindHere_29 rfl (lv_at hl 0 rfl) ?_
          refine va_get (v := .long (xgl S 0 10)) (C := R_MO) (T := F_MO) (N := 41) hx hb hts i_MO hown hK hP 0 (mw_at (by decide) (mc_0 _ _ _ _)) rfl 10 (by decide) (hts _ wd_710) (fun _ h9 => h9) rfl d_MO_kindHere_30 ?_
          refine W.lcmp hx hb d_MO_kindHere_33 ?_
          refine lv_if_ne (tgt := 39) hx hb d_MO_kindHere_34 (by decide) (fun c_4 => ?_) (fun c_4 => ?_)
          · have h := xif_f c_4 h
            refine lv_iinc (v := a1 + (1 : Int32)) (lv' := [(1, .int (a1 + (1 : Int32))), (0, .ref (lay 0))]) hx hb d_MO_kindHere_39 hl (k := 1) rfl (by rfl) (by decide) rfl (fun ls hl => ?_)
            refine lv_goto (tgt := 2) hx hb d_MO_kindHere_42 (by decide) ?_
            exact ih S (a1 + (1 : Int32)) _ h H locs ls hP hS (lv_sub hl [1, 0] rfl)
          · have h := xif_t c_4 h
            refine lv_iload_n hx hb d_MO_kindHere_37 rfl (lv_at hl 1 rfl) ?_
            have h9 := Option.some.inj h
            subst h9
            exact W.iret (v := a1) hx hb hr (fun t ht hW => ⟨⟨a1, (), rfl, rfl, by show va_P D xcl _ t.heap; rw [ht]; exact hP⟩, hS.F ht⟩) hS.2.2 d_MO_kindHere_38
def f_MO_kindHere (S : XS)  : Option (Int32) :=
  f_MO_kindHere_2 4096 S (0 : Int32)
set_option maxHeartbeats 4000000 in
set_option maxRecDepth 100000 in
theorem k_MO_kindHere (l : Launch) {p : Program} {e : Env} {s : State} {m : MethodId} {args : Array Value} {below : List Frame} {meth : Method} {c : Code} {D : va_G} {lay : Nat → Nat} {cA : Nat → ClassId} (C : xB p s m args meth c R_MO b_MO_kindHere ((Option.some Jvm.ClassFile.FieldType.int)) 2) (E : mE D lay cA s s.heap) : ∀ (S : XS)  (r : Int32) (_ : f_MO_kindHere S = some r) (H : Heap) (locs : List Loc) (ls : Array Slot), va_P D xcl (mw lay cA S) H → va_S (mI lay) s.heap H locs → lv_has ls 2 [(0, .ref (lay 0))] → W p l e rm_MO_kindHere s m args below meth c H locs 0 0 (MQ below (mqi D lay cA r S) args s 0 0 (mI lay)) (F0 m 0 ls []) := by
  obtain ⟨hx, hb, hr, hml, hown, hts, hlk, hnh⟩ := id C
  have hK := E.K
  intro S r h H locs ls hP hS hl
  unfold f_MO_kindHere at h
  refine lv_iconst (v := (0 : Int32)) hx hb d_MO_kindHere_0 (by decide) ?_
  refine lv_istore_n (lv' := [(1, .int (0 : Int32)), (0, .ref (lay 0))]) hx hb d_MO_kindHere_1 rfl hl (by decide) rfl (fun ls hl => ?_)
  exact k_MO_kindHere_2 l C E 4096 S (0 : Int32) _ h H locs ls hP hS (lv_sub hl [1, 0] rfl)
theorem c_MO_kindHere (l : Launch) (D : va_G) (lay : Nat → Nat) (cA : Nat → ClassId) (S : XS)  (r : Int32) (h : f_MO_kindHere S  = some r) : Met l y_MO_kindHere (.code y_MO_kindHere b_MO_kindHere 2 ((Option.some Jvm.ClassFile.FieldType.int)) :: xT) rm_MO_kindHere (mPc D lay cA S [.ref (lay 0)]) (mqi D lay cA r S) 0 0 (mI lay) := by
  refine Met.ofW (cc := b_MO_kindHere) (maxL := 2) (ret := (Option.some Jvm.ClassFile.FieldType.int)) (by decide +kernel) rfl ?_
  intro p e s m args below meth c s₁ B hml hv
  obtain ⟨rfl, hP, E⟩ := hv
  have C := xB_of B hml
  have hl := lv_entry ([.ref (lay 0)]) (n := 2) (Nat.le_of_ble_eq_true rfl)
  rw [lg_entry_eq]
  generalize (lg_sl ([.ref (lay 0)]) ++ List.replicate (2 - (lg_sl ([.ref (lay 0)])).length) Slot.unset).toArray = ls at hl ⊢
  exact k_MO_kindHere l C E S  r h s.heap [] ls hP va_S.rf hl
/-! ConfigTextsModel.actionHere()I -/
def rm_MO_actionHere : Room := { frames := 0, cells := 0, slots := 0, locals := 0 }
theorem d_MO_actionHere_0 : decode b_MO_actionHere 0 = .ok (.iconst 0, 1) := by decide +kernel
theorem d_MO_actionHere_1 : decode b_MO_actionHere 1 = .ok (.istore_n 1, 1) := by decide +kernel
theorem d_MO_actionHere_2 : decode b_MO_actionHere 2 = .ok (.iload_n 1, 1) := by decide +kernel
theorem d_MO_actionHere_3 : decode b_MO_actionHere 3 = .ok (.bipush 7, 2) := by decide +kernel
theorem d_MO_actionHere_5 : decode b_MO_actionHere 5 = .ok (.if_icmp .ge 33, 3) := by decide +kernel
theorem d_MO_actionHere_8 : decode b_MO_actionHere 8 = .ok (.aload_n 0, 1) := by decide +kernel
theorem d_MO_actionHere_9 : decode b_MO_actionHere 9 = .ok (.getfield 197, 3) := by decide +kernel
theorem d_MO_actionHere_12 : decode b_MO_actionHere 12 = .ok (.iconst 1, 1) := by decide +kernel
theorem d_MO_actionHere_13 : decode b_MO_actionHere 13 = .ok (.if_icmp .ne 19, 3) := by decide +kernel
theorem d_MO_actionHere_16 : decode b_MO_actionHere 16 = .ok (.aload_n 0, 1) := by decide +kernel
theorem d_MO_actionHere_17 : decode b_MO_actionHere 17 = .ok (.getfield 82, 3) := by decide +kernel
theorem d_MO_actionHere_20 : decode b_MO_actionHere 20 = .ok (.iload_n 1, 1) := by decide +kernel
theorem d_MO_actionHere_21 : decode b_MO_actionHere 21 = .ok (.laload, 1) := by decide +kernel
theorem d_MO_actionHere_22 : decode b_MO_actionHere 22 = .ok (.aload_n 0, 1) := by decide +kernel
theorem d_MO_actionHere_23 : decode b_MO_actionHere 23 = .ok (.getfield 167, 3) := by decide +kernel
theorem d_MO_actionHere_26 : decode b_MO_actionHere 26 = .ok (.lcmp, 1) := by decide +kernel
theorem d_MO_actionHere_27 : decode b_MO_actionHere 27 = .ok (.ifCond .ne 5, 3) := by decide +kernel
theorem d_MO_actionHere_30 : decode b_MO_actionHere 30 = .ok (.iload_n 1, 1) := by decide +kernel
theorem d_MO_actionHere_31 : decode b_MO_actionHere 31 = .ok (.ireturn, 1) := by decide +kernel
theorem d_MO_actionHere_32 : decode b_MO_actionHere 32 = .ok (.iinc 1 1, 3) := by decide +kernel
theorem d_MO_actionHere_35 : decode b_MO_actionHere 35 = .ok (.goto (-33), 3) := by decide +kernel
theorem d_MO_actionHere_38 : decode b_MO_actionHere 38 = .ok (.iconst (-1), 1) := by decide +kernel
theorem d_MO_actionHere_39 : decode b_MO_actionHere 39 = .ok (.ireturn, 1) := by decide +kernel
def f_MO_actionHere_2 : Nat → XS → Int32 → Option (Int32)
  | 0, _, _ => none
  | n + 1, S, a1 =>
    if (7 : Int32) ≤ a1 then (some (-1 : Int32)) else (if (xgi S 0 8) = (1 : Int32) then (if ¬ (a1 < 0 ∨ 7 ≤ a1.toNatClampNeg) then (if (lg_cmp (xgl S 3 a1.toNatClampNeg) (xgl S 0 10)) = 0 then (some a1) else (f_MO_actionHere_2 n S (a1 + (1 : Int32)))) else none) else (f_MO_actionHere_2 n S (a1 + (1 : Int32))))
set_option maxHeartbeats 4000000 in
set_option maxRecDepth 100000 in
theorem k_MO_actionHere_2 (l : Launch) {p : Program} {e : Env} {s : State} {m : MethodId} {args : Array Value} {below : List Frame} {meth : Method} {c : Code} {D : va_G} {lay : Nat → Nat} {cA : Nat → ClassId} (C : xB p s m args meth c R_MO b_MO_actionHere ((Option.some Jvm.ClassFile.FieldType.int)) 2) (E : mE D lay cA s s.heap) : ∀ (n : Nat) (S : XS) (a1 : Int32) (r : Int32) (_ : f_MO_actionHere_2 n S a1 = some r) (H : Heap) (locs : List Loc) (ls : Array Slot), va_P D xcl (mw lay cA S) H → va_S (mI lay) s.heap H locs → lv_has ls 2 [(0, .ref (lay 0)), (1, .int a1)] → W p l e rm_MO_actionHere s m args below meth c H locs 0 0 (MQ below (mqi D lay cA r S) args s 0 0 (mI lay)) (F0 m 2 ls []) := by
  obtain ⟨hx, hb, hr, hml, hown, hts, hlk, hnh⟩ := id C
  have hK := E.K
  intro n
  induction n with
  | zero => intro S a1 r h; rw [f_MO_actionHere_2] at h; cases h
  | succ n ih =>
    intro S a1 r h H locs ls hP hS hl
    rw [f_MO_actionHere_2] at h
    refine lv_iload_n hx hb d_MO_actionHere_2 rfl (lv_at hl 1 rfl) ?_
    refine lv_bipush (v := (7 : Int32)) hx hb d_MO_actionHere_3 (by decide) ?_
    refine lv_icmp_ge (tgt := 38) hx hb d_MO_actionHere_5 (by decide) (fun c_4 => ?_) (fun c_4 => ?_)
    · have h := xif_t c_4 h
      refine lv_iconst (v := (-1 : Int32)) hx hb d_MO_actionHere_38 (by decide) ?_
      have h9 := Option.some.inj h
      subst h9
      exact W.iret (v := (-1 : Int32)) hx hb hr (fun t ht hW => ⟨⟨(-1 : Int32), (), rfl, rfl, by show va_P D xcl _ t.heap; rw [ht]; exact hP⟩, hS.F ht⟩) hS.2.2 d_MO_actionHere_39
    · have h := xif_f c_4 h
      refine lv_aload_n hx hb d_MO_actionHere_8 rfl (lv_at hl 0 rfl) ?_
      refine va_get (v := .int (xgi S 0 8)) (C := R_MO) (T := F_MO) (N := 41) hx hb hts i_MO hown hK hP 0 (mw_at (by decide) (mc_0 _ _ _ _)) rfl 8 (by decide) (hts _ wd_708) (fun _ h9 => h9) rfl d_MO_actionHere_9 ?_
      refine lv_iconst (v := (1 : Int32)) hx hb d_MO_actionHere_12 (by decide) ?_
      refine lv_icmp_ne (tgt := 32) hx hb d_MO_actionHere_13 (by decide) (fun c_3 => ?_) (fun c_3 => ?_)
      · have h := xif_f c_3 h
        refine lv_iinc (v := a1 + (1 : Int32)) (lv' := [(1, .int (a1 + (1 : Int32))), (0, .ref (lay 0))]) hx hb d_MO_actionHere_32 hl (k := 1) rfl (by rfl) (by decide) rfl (fun ls hl => ?_)
        refine lv_goto (tgt := 2) hx hb d_MO_actionHere_35 (by decide) ?_
        exact ih S (a1 + (1 : Int32)) _ h H locs ls hP hS (lv_sub hl [1, 0] rfl)
      · have h := xif_t c_3 h
        refine lv_aload_n hx hb d_MO_actionHere_16 rfl (lv_at hl 0 rfl) ?_
        refine va_get (v := .ref (lay 3)) (C := R_MO) (T := F_MO) (N := 41) hx hb hts i_MO hown hK hP 0 (mw_at (by decide) (mc_0 _ _ _ _)) rfl 3 (by decide) (hts _ wd_703) (fun _ h9 => h9) rfl d_MO_actionHere_17 ?_
        refine lv_iload_n hx hb d_MO_actionHere_20 rfl (lv_at hl 1 rfl) ?_
        obtain ⟨hg1, h⟩ := xg h
        refine mal_3 hx hb E hP hg1 d_MO_actionHere_21 ?_
        refine lv_aload_n hx hb d_MO_actionHere_22 rfl (lv_at hl 0 rfl) ?_
        refine va_get (v := .long (xgl S 0 10)) (C := R_MO) (T := F_MO) (N := 41) hx hb hts i_MO hown hK hP 0 (mw_at (by decide) (mc_0 _ _ _ _)) rfl 10 (by decide) (hts _ wd_710) (fun _ h9 => h9) rfl d_MO_actionHere_23 ?_
        refine W.lcmp hx hb d_MO_actionHere_26 ?_
        refine lv_if_ne (tgt := 32) hx hb d_MO_actionHere_27 (by decide) (fun c_2 => ?_) (fun c_2 => ?_)
        · have h := xif_f c_2 h
          refine lv_iinc (v := a1 + (1 : Int32)) (lv' := [(1, .int (a1 + (1 : Int32))), (0, .ref (lay 0))]) hx hb d_MO_actionHere_32 hl (k := 1) rfl (by rfl) (by decide) rfl (fun ls hl => ?_)
          refine lv_goto (tgt := 2) hx hb d_MO_actionHere_35 (by decide) ?_
          exact ih S (a1 + (1 : Int32)) _ h H locs ls hP hS (lv_sub hl [1, 0] rfl)
        · have h := xif_t c_2 h
          refine lv_iload_n hx hb d_MO_actionHere_30 rfl (lv_at hl 1 rfl) ?_
          have h9 := Option.some.inj h
          subst h9
          exact W.iret (v := a1) hx hb hr (fun t ht hW => ⟨⟨a1, (), rfl, rfl, by show va_P D xcl _ t.heap; rw [ht]; exact hP⟩, hS.F ht⟩) hS.2.2 d_MO_actionHere_31
def f_MO_actionHere (S : XS)  : Option (Int32) :=
  f_MO_actionHere_2 4096 S (0 : Int32)
set_option maxHeartbeats 4000000 in
set_option maxRecDepth 100000 in
theorem k_MO_actionHere (l : Launch) {p : Program} {e : Env} {s : State} {m : MethodId} {args : Array Value} {below : List Frame} {meth : Method} {c : Code} {D : va_G} {lay : Nat → Nat} {cA : Nat → ClassId} (C : xB p s m args meth c R_MO b_MO_actionHere ((Option.some Jvm.ClassFile.FieldType.int)) 2) (E : mE D lay cA s s.heap) : ∀ (S : XS)  (r : Int32) (_ : f_MO_actionHere S = some r) (H : Heap) (locs : List Loc) (ls : Array Slot), va_P D xcl (mw lay cA S) H → va_S (mI lay) s.heap H locs → lv_has ls 2 [(0, .ref (lay 0))] → W p l e rm_MO_actionHere s m args below meth c H locs 0 0 (MQ below (mqi D lay cA r S) args s 0 0 (mI lay)) (F0 m 0 ls []) := by
  obtain ⟨hx, hb, hr, hml, hown, hts, hlk, hnh⟩ := id C
  have hK := E.K
  intro S r h H locs ls hP hS hl
  unfold f_MO_actionHere at h
  refine lv_iconst (v := (0 : Int32)) hx hb d_MO_actionHere_0 (by decide) ?_
  refine lv_istore_n (lv' := [(1, .int (0 : Int32)), (0, .ref (lay 0))]) hx hb d_MO_actionHere_1 rfl hl (by decide) rfl (fun ls hl => ?_)
  exact k_MO_actionHere_2 l C E 4096 S (0 : Int32) _ h H locs ls hP hS (lv_sub hl [1, 0] rfl)
theorem c_MO_actionHere (l : Launch) (D : va_G) (lay : Nat → Nat) (cA : Nat → ClassId) (S : XS)  (r : Int32) (h : f_MO_actionHere S  = some r) : Met l y_MO_actionHere (.code y_MO_actionHere b_MO_actionHere 2 ((Option.some Jvm.ClassFile.FieldType.int)) :: xT) rm_MO_actionHere (mPc D lay cA S [.ref (lay 0)]) (mqi D lay cA r S) 0 0 (mI lay) := by
  refine Met.ofW (cc := b_MO_actionHere) (maxL := 2) (ret := (Option.some Jvm.ClassFile.FieldType.int)) (by decide +kernel) rfl ?_
  intro p e s m args below meth c s₁ B hml hv
  obtain ⟨rfl, hP, E⟩ := hv
  have C := xB_of B hml
  have hl := lv_entry ([.ref (lay 0)]) (n := 2) (Nat.le_of_ble_eq_true rfl)
  rw [lg_entry_eq]
  generalize (lg_sl ([.ref (lay 0)]) ++ List.replicate (2 - (lg_sl ([.ref (lay 0)])).length) Slot.unset).toArray = ls at hl ⊢
  exact k_MO_actionHere l C E S  r h s.heap [] ls hP va_S.rf hl
/-! ConfigTextsModel.readError(I)V -/
def rm_MO_readError : Room := { frames := 4, cells := 0, slots := 0, locals := 86 }
theorem d_MO_readError_0 : decode b_MO_readError 0 = .ok (.aload_n 0, 1) := by decide +kernel
theorem d_MO_readError_1 : decode b_MO_readError 1 = .ok (.invokevirtual 263, 3) := by decide +kernel
theorem d_MO_readError_4 : decode b_MO_readError 4 = .ok (.istore_n 2, 1) := by decide +kernel
theorem d_MO_readError_5 : decode b_MO_readError 5 = .ok (.iload_n 2, 1) := by decide +kernel
theorem d_MO_readError_6 : decode b_MO_readError 6 = .ok (.iconst (-1), 1) := by decide +kernel
theorem d_MO_readError_7 : decode b_MO_readError 7 = .ok (.if_icmp .ne 9, 3) := by decide +kernel
theorem d_MO_readError_10 : decode b_MO_readError 10 = .ok (.aload_n 0, 1) := by decide +kernel
theorem d_MO_readError_11 : decode b_MO_readError 11 = .ok (.iconst 1, 1) := by decide +kernel
theorem d_MO_readError_12 : decode b_MO_readError 12 = .ok (.invokevirtual 221, 3) := by decide +kernel
theorem d_MO_readError_15 : decode b_MO_readError 15 = .ok (.return_, 1) := by decide +kernel
theorem d_MO_readError_16 : decode b_MO_readError 16 = .ok (.aload_n 0, 1) := by decide +kernel
theorem d_MO_readError_17 : decode b_MO_readError 17 = .ok (.getfield 119, 3) := by decide +kernel
theorem d_MO_readError_20 : decode b_MO_readError 20 = .ok (.iload_n 2, 1) := by decide +kernel
theorem d_MO_readError_21 : decode b_MO_readError 21 = .ok (.baload, 1) := by decide +kernel
theorem d_MO_readError_22 : decode b_MO_readError 22 = .ok (.ifCond .eq 14, 3) := by decide +kernel
theorem d_MO_readError_25 : decode b_MO_readError 25 = .ok (.aload_n 0, 1) := by decide +kernel
theorem d_MO_readError_26 : decode b_MO_readError 26 = .ok (.bipush 7, 2) := by decide +kernel
theorem d_MO_readError_28 : decode b_MO_readError 28 = .ok (.aload_n 0, 1) := by decide +kernel
theorem d_MO_readError_29 : decode b_MO_readError 29 = .ok (.getfield 185, 3) := by decide +kernel
theorem d_MO_readError_32 : decode b_MO_readError 32 = .ok (.invokevirtual 210, 3) := by decide +kernel
theorem d_MO_readError_35 : decode b_MO_readError 35 = .ok (.return_, 1) := by decide +kernel
theorem d_MO_readError_36 : decode b_MO_readError 36 = .ok (.aload_n 0, 1) := by decide +kernel
theorem d_MO_readError_37 : decode b_MO_readError 37 = .ok (.getfield 119, 3) := by decide +kernel
theorem d_MO_readError_40 : decode b_MO_readError 40 = .ok (.iload_n 2, 1) := by decide +kernel
theorem d_MO_readError_41 : decode b_MO_readError 41 = .ok (.iconst 1, 1) := by decide +kernel
theorem d_MO_readError_42 : decode b_MO_readError 42 = .ok (.bastore, 1) := by decide +kernel
theorem d_MO_readError_43 : decode b_MO_readError 43 = .ok (.aload_n 0, 1) := by decide +kernel
theorem d_MO_readError_44 : decode b_MO_readError 44 = .ok (.invokevirtual 225, 3) := by decide +kernel
theorem d_MO_readError_47 : decode b_MO_readError 47 = .ok (.aload_n 0, 1) := by decide +kernel
theorem d_MO_readError_48 : decode b_MO_readError 48 = .ok (.bipush 58, 2) := by decide +kernel
theorem d_MO_readError_50 : decode b_MO_readError 50 = .ok (.invokevirtual 238, 3) := by decide +kernel
theorem d_MO_readError_53 : decode b_MO_readError 53 = .ok (.aload_n 0, 1) := by decide +kernel
theorem d_MO_readError_54 : decode b_MO_readError 54 = .ok (.invokevirtual 267, 3) := by decide +kernel
theorem d_MO_readError_57 : decode b_MO_readError 57 = .ok (.istore_n 3, 1) := by decide +kernel
theorem d_MO_readError_58 : decode b_MO_readError 58 = .ok (.iload_n 3, 1) := by decide +kernel
theorem d_MO_readError_59 : decode b_MO_readError 59 = .ok (.iconst (-1), 1) := by decide +kernel
theorem d_MO_readError_60 : decode b_MO_readError 60 = .ok (.if_icmp .ne 8, 3) := by decide +kernel
theorem d_MO_readError_63 : decode b_MO_readError 63 = .ok (.aload_n 0, 1) := by decide +kernel
theorem d_MO_readError_64 : decode b_MO_readError 64 = .ok (.iconst 1, 1) := by decide +kernel
theorem d_MO_readError_65 : decode b_MO_readError 65 = .ok (.invokevirtual 221, 3) := by decide +kernel
theorem d_MO_readError_68 : decode b_MO_readError 68 = .ok (.aload_n 0, 1) := by decide +kernel
theorem d_MO_readError_69 : decode b_MO_readError 69 = .ok (.invokevirtual 214, 3) := by decide +kernel
theorem d_MO_readError_72 : decode b_MO_readError 72 = .ok (.ifCond .ne 4, 3) := by decide +kernel
theorem d_MO_readError_75 : decode b_MO_readError 75 = .ok (.return_, 1) := by decide +kernel
theorem d_MO_readError_76 : decode b_MO_readError 76 = .ok (.aload_n 0, 1) := by decide +kernel
theorem d_MO_readError_77 : decode b_MO_readError 77 = .ok (.getfield 109, 3) := by decide +kernel
theorem d_MO_readError_80 : decode b_MO_readError 80 = .ok (.iconst 4, 1) := by decide +kernel
theorem d_MO_readError_81 : decode b_MO_readError 81 = .ok (.iload_n 1, 1) := by decide +kernel
theorem d_MO_readError_82 : decode b_MO_readError 82 = .ok (.imul, 1) := by decide +kernel
theorem d_MO_readError_83 : decode b_MO_readError 83 = .ok (.iload_n 2, 1) := by decide +kernel
theorem d_MO_readError_84 : decode b_MO_readError 84 = .ok (.iadd, 1) := by decide +kernel
theorem d_MO_readError_85 : decode b_MO_readError 85 = .ok (.iload_n 3, 1) := by decide +kernel
theorem d_MO_readError_86 : decode b_MO_readError 86 = .ok (.iastore, 1) := by decide +kernel
theorem d_MO_readError_87 : decode b_MO_readError 87 = .ok (.iload_n 3, 1) := by decide +kernel
theorem d_MO_readError_88 : decode b_MO_readError 88 = .ok (.bipush 6, 2) := by decide +kernel
theorem d_MO_readError_90 : decode b_MO_readError 90 = .ok (.if_icmp .ne 23, 3) := by decide +kernel
theorem d_MO_readError_93 : decode b_MO_readError 93 = .ok (.aload_n 0, 1) := by decide +kernel
theorem d_MO_readError_94 : decode b_MO_readError 94 = .ok (.getfield 106, 3) := by decide +kernel
theorem d_MO_readError_97 : decode b_MO_readError 97 = .ok (.iload_n 1, 1) := by decide +kernel
theorem d_MO_readError_98 : decode b_MO_readError 98 = .ok (.iaload, 1) := by decide +kernel
theorem d_MO_readError_99 : decode b_MO_readError 99 = .ok (.iconst (-1), 1) := by decide +kernel
theorem d_MO_readError_100 : decode b_MO_readError 100 = .ok (.if_icmp .ne 13, 3) := by decide +kernel
theorem d_MO_readError_103 : decode b_MO_readError 103 = .ok (.aload_n 0, 1) := by decide +kernel
theorem d_MO_readError_104 : decode b_MO_readError 104 = .ok (.getfield 106, 3) := by decide +kernel
theorem d_MO_readError_107 : decode b_MO_readError 107 = .ok (.iload_n 1, 1) := by decide +kernel
theorem d_MO_readError_108 : decode b_MO_readError 108 = .ok (.aload_n 0, 1) := by decide +kernel
theorem d_MO_readError_109 : decode b_MO_readError 109 = .ok (.getfield 185, 3) := by decide +kernel
theorem d_MO_readError_112 : decode b_MO_readError 112 = .ok (.iastore, 1) := by decide +kernel
theorem d_MO_readError_113 : decode b_MO_readError 113 = .ok (.aload_n 0, 1) := by decide +kernel
theorem d_MO_readError_114 : decode b_MO_readError 114 = .ok (.invokevirtual 225, 3) := by decide +kernel
theorem d_MO_readError_117 : decode b_MO_readError 117 = .ok (.aload_n 0, 1) := by decide +kernel
theorem d_MO_readError_118 : decode b_MO_readError 118 = .ok (.bipush 59, 2) := by decide +kernel
theorem d_MO_readError_120 : decode b_MO_readError 120 = .ok (.invokevirtual 238, 3) := by decide +kernel
theorem d_MO_readError_123 : decode b_MO_readError 123 = .ok (.return_, 1) := by decide +kernel
def f_MO_readError_68 (S : XS) (a1 : Int32) (a2 : Int32) (a3 : Int32) : Option (XS) :=
  (f_MO_good S).bind fun q21 => if q21 = 0 then (some S) else (if ¬ ((((4 : Int32) * a1) + a2) < 0 ∨ 32 ≤ (((4 : Int32) * a1) + a2).toNatClampNeg) then (if a3 = (6 : Int32) then (if ¬ (a1 < 0 ∨ 8 ≤ a1.toNatClampNeg) then (if (xgi (xpi S 9 (((4 : Int32) * a1) + a2).toNatClampNeg a3) 8 a1.toNatClampNeg) = (-1 : Int32) then (if ¬ (a1 < 0 ∨ 8 ≤ a1.toNatClampNeg) then ((f_MO_next (xpi (xpi S 9 (((4 : Int32) * a1) + a2).toNatClampNeg a3) 8 a1.toNatClampNeg (xgi (xpi S 9 (((4 : Int32) * a1) + a2).toNatClampNeg a3) 0 6))).bind fun q34 => (f_MO_sign q34 (59 : Int32)).bind fun q36 => some q36) else none) else ((f_MO_next (xpi S 9 (((4 : Int32) * a1) + a2).toNatClampNeg a3)).bind fun q29 => (f_MO_sign q29 (59 : Int32)).bind fun q31 => some q31)) else none) else ((f_MO_next (xpi S 9 (((4 : Int32) * a1) + a2).toNatClampNeg a3)).bind fun q24 => (f_MO_sign q24 (59 : Int32)).bind fun q26 => some q26)) else none)
set_option maxHeartbeats 4000000 in
set_option maxRecDepth 100000 in
theorem k_MO_readError_68 (l : Launch) {p : Program} {e : Env} {s : State} {m : MethodId} {args : Array Value} {below : List Frame} {meth : Method} {c : Code} {D : va_G} {lay : Nat → Nat} {cA : Nat → ClassId} (C : xB p s m args meth c R_MO b_MO_readError ((Option.none : Option Jvm.ClassFile.FieldType)) 4) (E : mE D lay cA s s.heap) : ∀ (S : XS) (a1 : Int32) (a2 : Int32) (a3 : Int32) (r : XS) (_ : f_MO_readError_68 S a1 a2 a3 = some r) (H : Heap) (locs : List Loc) (ls : Array Slot), va_P D xcl (mw lay cA S) H → va_S (mI lay) s.heap H locs → lv_has ls 4 [(0, .ref (lay 0)), (1, .int a1), (2, .int a2), (3, .int a3)] → W p l e rm_MO_readError s m args below meth c H locs 0 0 (MQ below (mqv D lay cA r) args s 0 0 (mI lay)) (F0 m 68 ls []) := by
  obtain ⟨hx, hb, hr, hml, hown, hts, hlk, hnh⟩ := id C
  have hK := E.K
  intro S a1 a2 a3 r h H locs ls hP hS hl
  unfold f_MO_readError_68 at h
  refine lv_aload_n hx hb d_MO_readError_68 rfl (lv_at hl 0 rfl) ?_
  obtain ⟨q21, e20, h⟩ := xb h
  refine mc_i (va_runV (As := []) (rest := []) ⟨hx, hb, hml, hown, hts⟩ (c_MO_good l D lay cA S q21 e20) (cwV 0 hts (xT_V wd_882 wd_884 wp_29 wd_7 wd_885) rfl rfl rfl (by decide +kernel) ⟨Nat.le_of_ble_eq_true rfl, Nat.le_of_ble_eq_true rfl⟩) (mpV E hP hS (by decide) (mc_0 _ _ _ _) rfl) rfl rfl hl.1 rfl (lv_room (Nat.le_of_ble_eq_true rfl)) d_MO_readError_69 ⟨Nat.le_of_ble_eq_true rfl, Nat.le_of_ble_eq_true rfl⟩) hS (fun H locs hP hS => ?_)
  refine lv_if_ne (tgt := 76) hx hb d_MO_readError_72 (by decide) (fun c_39 => ?_) (fun c_39 => ?_)
  · have h := xif_f c_39 h
    refine lv_aload_n hx hb d_MO_readError_76 rfl (lv_at hl 0 rfl) ?_
    refine va_get (v := .ref (lay 9)) (C := R_MO) (T := F_MO) (N := 41) hx hb hts i_MO hown hK hP 0 (mw_at (by decide) (mc_0 _ _ _ _)) rfl 20 (by decide) (hts _ wd_720) (fun _ h9 => h9) rfl d_MO_readError_77 ?_
    refine lv_iconst (v := (4 : Int32)) hx hb d_MO_readError_80 (by decide) ?_
    refine lv_iload_n hx hb d_MO_readError_81 rfl (lv_at hl 1 rfl) ?_
    refine lv_imul hx hb d_MO_readError_82 ?_
    refine lv_iload_n hx hb d_MO_readError_83 rfl (lv_at hl 2 rfl) ?_
    refine lv_iadd hx hb d_MO_readError_84 ?_
    refine lv_iload_n hx hb d_MO_readError_85 rfl (lv_at hl 3 rfl) ?_
    obtain ⟨hg22, h⟩ := xg h
    refine mas_9 hx hb E hP hS hg22 d_MO_readError_86 (fun H locs hP hS => ?_)
    refine lv_iload_n hx hb d_MO_readError_87 rfl (lv_at hl 3 rfl) ?_
    refine lv_bipush (v := (6 : Int32)) hx hb d_MO_readError_88 (by decide) ?_
    refine lv_icmp_ne (tgt := 113) hx hb d_MO_readError_90 (by decide) (fun c_38 => ?_) (fun c_38 => ?_)
    · have h := xif_f c_38 h
      refine lv_aload_n hx hb d_MO_readError_113 rfl (lv_at hl 0 rfl) ?_
      obtain ⟨q24, e23, h⟩ := xb h
      refine mc_v (va_runV (As := []) (rest := []) ⟨hx, hb, hml, hown, hts⟩ (c_MO_next l D lay cA (xpi S 9 (((4 : Int32) * a1) + a2).toNatClampNeg a3) q24 e23) (cwV 0 hts (xT_V wd_841 wd_843 wp_21 wd_7 wd_844) rfl rfl rfl (by decide +kernel) ⟨Nat.le_of_ble_eq_true rfl, Nat.le_of_ble_eq_true rfl⟩) (mpV E hP hS (by decide) (mc_0 _ _ _ _) rfl) rfl rfl hl.1 rfl (lv_room (Nat.le_of_ble_eq_true rfl)) d_MO_readError_114 ⟨Nat.le_of_ble_eq_true rfl, Nat.le_of_ble_eq_true rfl⟩) hS (fun H locs hP hS => ?_)
      refine lv_aload_n hx hb d_MO_readError_117 rfl (lv_at hl 0 rfl) ?_
      refine lv_bipush (v := (59 : Int32)) hx hb d_MO_readError_118 (by decide) ?_
      obtain ⟨q26, e25, h⟩ := xb h
      refine mc_v (va_runV (As := [.int (59 : Int32)]) (rest := []) ⟨hx, hb, hml, hown, hts⟩ (c_MO_sign l D lay cA q24 (59 : Int32) q26 e25) (cwV 1 hts (xT_V wd_902 wd_904 wp_34 wd_7 wd_905) rfl rfl rfl (by decide +kernel) ⟨Nat.le_of_ble_eq_true rfl, Nat.le_of_ble_eq_true rfl⟩) (mpV E hP hS (by decide) (mc_0 _ _ _ _) rfl) rfl rfl hl.1 rfl (lv_room (Nat.le_of_ble_eq_true rfl)) d_MO_readError_120 ⟨Nat.le_of_ble_eq_true rfl, Nat.le_of_ble_eq_true rfl⟩) hS (fun H locs hP hS => ?_)
      have h9 := Option.some.inj h
      subst h9
      exact W.vret hx hb hr (fun t ht hW => ⟨⟨(), rfl, trivial, by show va_P D xcl _ t.heap; rw [ht]; exact hP⟩, hS.F ht⟩) hS.2.2 d_MO_readError_123
    · have h := xif_t c_38 h
      refine lv_aload_n hx hb d_MO_readError_93 rfl (lv_at hl 0 rfl) ?_
      refine va_get (v := .ref (lay 8)) (C := R_MO) (T := F_MO) (N := 41) hx hb hts i_MO hown hK hP 0 (mw_at (by decide) (mc_0 _ _ _ _)) rfl 19 (by decide) (hts _ wd_719) (fun _ h9 => h9) rfl d_MO_readError_94 ?_
      refine lv_iload_n hx hb d_MO_readError_97 rfl (lv_at hl 1 rfl) ?_
      obtain ⟨hg27, h⟩ := xg h
      refine mal_8 hx hb E hP hg27 d_MO_readError_98 ?_
      refine lv_iconst (v := (-1 : Int32)) hx hb d_MO_readError_99 (by decide) ?_
      refine lv_icmp_ne (tgt := 113) hx hb d_MO_readError_100 (by decide) (fun c_37 => ?_) (fun c_37 => ?_)
      · have h := xif_f c_37 h
        refine lv_aload_n hx hb d_MO_readError_113 rfl (lv_at hl 0 rfl) ?_
        obtain ⟨q29, e28, h⟩ := xb h
        refine mc_v (va_runV (As := []) (rest := []) ⟨hx, hb, hml, hown, hts⟩ (c_MO_next l D lay cA (xpi S 9 (((4 : Int32) * a1) + a2).toNatClampNeg a3) q29 e28) (cwV 0 hts (xT_V wd_841 wd_843 wp_21 wd_7 wd_844) rfl rfl rfl (by decide +kernel) ⟨Nat.le_of_ble_eq_true rfl, Nat.le_of_ble_eq_true rfl⟩) (mpV E hP hS (by decide) (mc_0 _ _ _ _) rfl) rfl rfl hl.1 rfl (lv_room (Nat.le_of_ble_eq_true rfl)) d_MO_readError_114 ⟨Nat.le_of_ble_eq_true rfl, Nat.le_of_ble_eq_true rfl⟩) hS (fun H locs hP hS => ?_)
        refine lv_aload_n hx hb d_MO_readError_117 rfl (lv_at hl 0 rfl) ?_
        refine lv_bipush (v := (59 : Int32)) hx hb d_MO_readError_118 (by decide) ?_
        obtain ⟨q31, e30, h⟩ := xb h
        refine mc_v (va_runV (As := [.int (59 : Int32)]) (rest := []) ⟨hx, hb, hml, hown, hts⟩ (c_MO_sign l D lay cA q29 (59 : Int32) q31 e30) (cwV 1 hts (xT_V wd_902 wd_904 wp_34 wd_7 wd_905) rfl rfl rfl (by decide +kernel) ⟨Nat.le_of_ble_eq_true rfl, Nat.le_of_ble_eq_true rfl⟩) (mpV E hP hS (by decide) (mc_0 _ _ _ _) rfl) rfl rfl hl.1 rfl (lv_room (Nat.le_of_ble_eq_true rfl)) d_MO_readError_120 ⟨Nat.le_of_ble_eq_true rfl, Nat.le_of_ble_eq_true rfl⟩) hS (fun H locs hP hS => ?_)
        have h9 := Option.some.inj h
        subst h9
        exact W.vret hx hb hr (fun t ht hW => ⟨⟨(), rfl, trivial, by show va_P D xcl _ t.heap; rw [ht]; exact hP⟩, hS.F ht⟩) hS.2.2 d_MO_readError_123
      · have h := xif_t c_37 h
        refine lv_aload_n hx hb d_MO_readError_103 rfl (lv_at hl 0 rfl) ?_
        refine va_get (v := .ref (lay 8)) (C := R_MO) (T := F_MO) (N := 41) hx hb hts i_MO hown hK hP 0 (mw_at (by decide) (mc_0 _ _ _ _)) rfl 19 (by decide) (hts _ wd_719) (fun _ h9 => h9) rfl d_MO_readError_104 ?_
        refine lv_iload_n hx hb d_MO_readError_107 rfl (lv_at hl 1 rfl) ?_
        refine lv_aload_n hx hb d_MO_readError_108 rfl (lv_at hl 0 rfl) ?_
        refine va_get (v := .int (xgi (xpi S 9 (((4 : Int32) * a1) + a2).toNatClampNeg a3) 0 6)) (C := R_MO) (T := F_MO) (N := 41) hx hb hts i_MO hown hK hP 0 (mw_at (by decide) (mc_0 _ _ _ _)) rfl 6 (by decide) (hts _ wd_706) (fun _ h9 => h9) rfl d_MO_readError_109 ?_
        obtain ⟨hg32, h⟩ := xg h
        refine mas_8 hx hb E hP hS hg32 d_MO_readError_112 (fun H locs hP hS => ?_)
        refine lv_aload_n hx hb d_MO_readError_113 rfl (lv_at hl 0 rfl) ?_
        obtain ⟨q34, e33, h⟩ := xb h
        refine mc_v (va_runV (As := []) (rest := []) ⟨hx, hb, hml, hown, hts⟩ (c_MO_next l D lay cA (xpi (xpi S 9 (((4 : Int32) * a1) + a2).toNatClampNeg a3) 8 a1.toNatClampNeg (xgi (xpi S 9 (((4 : Int32) * a1) + a2).toNatClampNeg a3) 0 6)) q34 e33) (cwV 0 hts (xT_V wd_841 wd_843 wp_21 wd_7 wd_844) rfl rfl rfl (by decide +kernel) ⟨Nat.le_of_ble_eq_true rfl, Nat.le_of_ble_eq_true rfl⟩) (mpV E hP hS (by decide) (mc_0 _ _ _ _) rfl) rfl rfl hl.1 rfl (lv_room (Nat.le_of_ble_eq_true rfl)) d_MO_readError_114 ⟨Nat.le_of_ble_eq_true rfl, Nat.le_of_ble_eq_true rfl⟩) hS (fun H locs hP hS => ?_)
        refine lv_aload_n hx hb d_MO_readError_117 rfl (lv_at hl 0 rfl) ?_
        refine lv_bipush (v := (59 : Int32)) hx hb d_MO_readError_118 (by decide) ?_
        obtain ⟨q36, e35, h⟩ := xb h
        refine mc_v (va_runV (As := [.int (59 : Int32)]) (rest := []) ⟨hx, hb, hml, hown, hts⟩ (c_MO_sign l D lay cA q34 (59 : Int32) q36 e35) (cwV 1 hts (xT_V wd_902 wd_904 wp_34 wd_7 wd_905) rfl rfl rfl (by decide +kernel) ⟨Nat.le_of_ble_eq_true rfl, Nat.le_of_ble_eq_true rfl⟩) (mpV E hP hS (by decide) (mc_0 _ _ _ _) rfl) rfl rfl hl.1 rfl (lv_room (Nat.le_of_ble_eq_true rfl)) d_MO_readError_120 ⟨Nat.le_of_ble_eq_true rfl, Nat.le_of_ble_eq_true rfl⟩) hS (fun H locs hP hS => ?_)
        have h9 := Option.some.inj h
        subst h9
        exact W.vret hx hb hr (fun t ht hW => ⟨⟨(), rfl, trivial, by show va_P D xcl _ t.heap; rw [ht]; exact hP⟩, hS.F ht⟩) hS.2.2 d_MO_readError_123
  · have h := xif_t c_39 h
    have h9 := Option.some.inj h
    subst h9
    exact W.vret hx hb hr (fun t ht hW => ⟨⟨(), rfl, trivial, by show va_P D xcl _ t.heap; rw [ht]; exact hP⟩, hS.F ht⟩) hS.2.2 d_MO_readError_75
def f_MO_readError (S : XS) (a1 : Int32) : Option (XS) :=
  (f_MO_kindHere S).bind fun q2 => if q2 = (-1 : Int32) then ((f_MO_bad S (1 : Int32)).bind fun q18 => some q18) else (if ¬ (q2 < 0 ∨ 4 ≤ q2.toNatClampNeg) then (if (xgi S 12 q2.toNatClampNeg) = 0 then (if ¬ (q2 < 0 ∨ 4 ≤ q2.toNatClampNeg) then ((f_MO_next (xpi S 12 q2.toNatClampNeg (vp_nar .boolean (1 : Int32)))).bind fun q6 => (f_MO_sign q6 (58 : Int32)).bind fun q8 => (f_MO_actionHere q8).bind fun q10 => if q10 = (-1 : Int32) then ((f_MO_bad q8 (1 : Int32)).bind fun q12 => f_MO_readError_68 q12 a1 q2 q10) else (f_MO_readError_68 q8 a1 q2 q10)) else none) else ((f_MO_fail S (7 : Int32) (xgi S 0 6)).bind fun q15 => some q15)) else none)
set_option maxHeartbeats 4000000 in
set_option maxRecDepth 100000 in
theorem k_MO_readError (l : Launch) {p : Program} {e : Env} {s : State} {m : MethodId} {args : Array Value} {below : List Frame} {meth : Method} {c : Code} {D : va_G} {lay : Nat → Nat} {cA : Nat → ClassId} (C : xB p s m args meth c R_MO b_MO_readError ((Option.none : Option Jvm.ClassFile.FieldType)) 4) (E : mE D lay cA s s.heap) : ∀ (S : XS) (a1 : Int32) (r : XS) (_ : f_MO_readError S a1 = some r) (H : Heap) (locs : List Loc) (ls : Array Slot), va_P D xcl (mw lay cA S) H → va_S (mI lay) s.heap H locs → lv_has ls 4 [(0, .ref (lay 0)), (1, .int a1)] → W p l e rm_MO_readError s m args below meth c H locs 0 0 (MQ below (mqv D lay cA r) args s 0 0 (mI lay)) (F0 m 0 ls []) := by
  obtain ⟨hx, hb, hr, hml, hown, hts, hlk, hnh⟩ := id C
  have hK := E.K
  intro S a1 r h H locs ls hP hS hl
  unfold f_MO_readError at h
  refine lv_aload_n hx hb d_MO_readError_0 rfl (lv_at hl 0 rfl) ?_
  obtain ⟨q2, e1, h⟩ := xb h
  refine mc_i (va_runV (As := []) (rest := []) ⟨hx, hb, hml, hown, hts⟩ (c_MO_kindHere l D lay cA S q2 e1) (cwV 0 hts (xT_V wd_966 wd_968 wp_49 wd_7 wd_969) rfl rfl rfl (by decide +kernel) ⟨Nat.le_of_ble_eq_true rfl, Nat.le_of_ble_eq_true rfl⟩) (mpV E hP hS (by decide) (mc_0 _ _ _ _) rfl) rfl rfl hl.1 rfl (lv_room (Nat.le_of_ble_eq_true rfl)) d_MO_readError_1 ⟨Nat.le_of_ble_eq_true rfl, Nat.le_of_ble_eq_true rfl⟩) hS (fun H locs hP hS => ?_)
  refine lv_istore_n (lv' := [(2, .int q2), (0, .ref (lay 0)), (1, .int a1)]) hx hb d_MO_readError_4 rfl hl (by decide) rfl (fun ls hl => ?_)
  refine lv_iload_n hx hb d_MO_readError_5 rfl (lv_at hl 0 rfl) ?_
  refine lv_iconst (v := (-1 : Int32)) hx hb d_MO_readError_6 (by decide) ?_
  refine lv_icmp_ne (tgt := 16) hx hb d_MO_readError_7 (by decide) (fun c_19 => ?_) (fun c_19 => ?_)
  · have h := xif_f c_19 h
    refine lv_aload_n hx hb d_MO_readError_16 rfl (lv_at hl 1 rfl) ?_
    refine va_get (v := .ref (lay 12)) (C := R_MO) (T := F_MO) (N := 41) hx hb hts i_MO hown hK hP 0 (mw_at (by decide) (mc_0 _ _ _ _)) rfl 23 (by decide) (hts _ wd_723) (fun _ h9 => h9) rfl d_MO_readError_17 ?_
    refine lv_iload_n hx hb d_MO_readError_20 rfl (lv_at hl 0 rfl) ?_
    obtain ⟨hg3, h⟩ := xg h
    refine mal_12 hx hb E hP hg3 d_MO_readError_21 ?_
    refine lv_if_eq (tgt := 36) hx hb d_MO_readError_22 (by decide) (fun c_16 => ?_) (fun c_16 => ?_)
    · have h := xif_t c_16 h
      refine lv_aload_n hx hb d_MO_readError_36 rfl (lv_at hl 1 rfl) ?_
      refine va_get (v := .ref (lay 12)) (C := R_MO) (T := F_MO) (N := 41) hx hb hts i_MO hown hK hP 0 (mw_at (by decide) (mc_0 _ _ _ _)) rfl 23 (by decide) (hts _ wd_723) (fun _ h9 => h9) rfl d_MO_readError_37 ?_
      refine lv_iload_n hx hb d_MO_readError_40 rfl (lv_at hl 0 rfl) ?_
      refine lv_iconst (v := (1 : Int32)) hx hb d_MO_readError_41 (by decide) ?_
      obtain ⟨hg4, h⟩ := xg h
      refine mas_12 hx hb E hP hS hg4 d_MO_readError_42 (fun H locs hP hS => ?_)
      refine lv_aload_n hx hb d_MO_readError_43 rfl (lv_at hl 1 rfl) ?_
      obtain ⟨q6, e5, h⟩ := xb h
      refine mc_v (va_runV (As := []) (rest := []) ⟨hx, hb, hml, hown, hts⟩ (c_MO_next l D lay cA (xpi S 12 q2.toNatClampNeg (vp_nar .boolean (1 : Int32))) q6 e5) (cwV 0 hts (xT_V wd_841 wd_843 wp_21 wd_7 wd_844) rfl rfl rfl (by decide +kernel) ⟨Nat.le_of_ble_eq_true rfl, Nat.le_of_ble_eq_true rfl⟩) (mpV E hP hS (by decide) (mc_0 _ _ _ _) rfl) rfl rfl hl.1 rfl (lv_room (Nat.le_of_ble_eq_true rfl)) d_MO_readError_44 ⟨Nat.le_of_ble_eq_true rfl, Nat.le_of_ble_eq_true rfl⟩) hS (fun H locs hP hS => ?_)
      refine lv_aload_n hx hb d_MO_readError_47 rfl (lv_at hl 1 rfl) ?_
      refine lv_bipush (v := (58 : Int32)) hx hb d_MO_readError_48 (by decide) ?_
      obtain ⟨q8, e7, h⟩ := xb h
      refine mc_v (va_runV (As := [.int (58 : Int32)]) (rest := []) ⟨hx, hb, hml, hown, hts⟩ (c_MO_sign l D lay cA q6 (58 : Int32) q8 e7) (cwV 1 hts (xT_V wd_902 wd_904 wp_34 wd_7 wd_905) rfl rfl rfl (by decide +kernel) ⟨Nat.le_of_ble_eq_true rfl, Nat.le_of_ble_eq_true rfl⟩) (mpV E hP hS (by decide) (mc_0 _ _ _ _) rfl) rfl rfl hl.1 rfl (lv_room (Nat.le_of_ble_eq_true rfl)) d_MO_readError_50 ⟨Nat.le_of_ble_eq_true rfl, Nat.le_of_ble_eq_true rfl⟩) hS (fun H locs hP hS => ?_)
      refine lv_aload_n hx hb d_MO_readError_53 rfl (lv_at hl 1 rfl) ?_
      obtain ⟨q10, e9, h⟩ := xb h
      refine mc_i (va_runV (As := []) (rest := []) ⟨hx, hb, hml, hown, hts⟩ (c_MO_actionHere l D lay cA q8 q10 e9) (cwV 0 hts (xT_V wd_970 wd_972 wp_50 wd_7 wd_973) rfl rfl rfl (by decide +kernel) ⟨Nat.le_of_ble_eq_true rfl, Nat.le_of_ble_eq_true rfl⟩) (mpV E hP hS (by decide) (mc_0 _ _ _ _) rfl) rfl rfl hl.1 rfl (lv_room (Nat.le_of_ble_eq_true rfl)) d_MO_readError_54 ⟨Nat.le_of_ble_eq_true rfl, Nat.le_of_ble_eq_true rfl⟩) hS (fun H locs hP hS => ?_)
      refine lv_istore_n (lv' := [(3, .int q10), (2, .int q2), (0, .ref (lay 0)), (1, .int a1)]) hx hb d_MO_readError_57 rfl hl (by decide) rfl (fun ls hl => ?_)
      refine lv_iload_n hx hb d_MO_readError_58 rfl (lv_at hl 0 rfl) ?_
      refine lv_iconst (v := (-1 : Int32)) hx hb d_MO_readError_59 (by decide) ?_
      refine lv_icmp_ne (tgt := 68) hx hb d_MO_readError_60 (by decide) (fun c_13 => ?_) (fun c_13 => ?_)
      · have h := xif_f c_13 h
        exact k_MO_readError_68 l C E q8 a1 q2 q10 _ h H locs ls hP hS (lv_sub hl [2, 3, 1, 0] rfl)
      · have h := xif_t c_13 h
        refine lv_aload_n hx hb d_MO_readError_63 rfl (lv_at hl 2 rfl) ?_
        refine lv_iconst (v := (1 : Int32)) hx hb d_MO_readError_64 (by decide) ?_
        obtain ⟨q12, e11, h⟩ := xb h
        refine mc_v (va_runV (As := [.int (1 : Int32)]) (rest := []) ⟨hx, hb, hml, hown, hts⟩ (c_MO_bad l D lay cA q8 (1 : Int32) q12 e11) (cwV 1 hts (xT_V wd_886 wd_888 wp_30 wd_7 wd_889) rfl rfl rfl (by decide +kernel) ⟨Nat.le_of_ble_eq_true rfl, Nat.le_of_ble_eq_true rfl⟩) (mpV E hP hS (by decide) (mc_0 _ _ _ _) rfl) rfl rfl hl.1 rfl (lv_room (Nat.le_of_ble_eq_true rfl)) d_MO_readError_65 ⟨Nat.le_of_ble_eq_true rfl, Nat.le_of_ble_eq_true rfl⟩) hS (fun H locs hP hS => ?_)
        exact k_MO_readError_68 l C E q12 a1 q2 q10 _ h H locs ls hP hS (lv_sub hl [2, 3, 1, 0] rfl)
    · have h := xif_f c_16 h
      refine lv_aload_n hx hb d_MO_readError_25 rfl (lv_at hl 1 rfl) ?_
      refine lv_bipush (v := (7 : Int32)) hx hb d_MO_readError_26 (by decide) ?_
      refine lv_aload_n hx hb d_MO_readError_28 rfl (lv_at hl 1 rfl) ?_
      refine va_get (v := .int (xgi S 0 6)) (C := R_MO) (T := F_MO) (N := 41) hx hb hts i_MO hown hK hP 0 (mw_at (by decide) (mc_0 _ _ _ _)) rfl 6 (by decide) (hts _ wd_706) (fun _ h9 => h9) rfl d_MO_readError_29 ?_
      obtain ⟨q15, e14, h⟩ := xb h
      refine mc_v (va_runV (As := [.int (7 : Int32), .int (xgi S 0 6)]) (rest := []) ⟨hx, hb, hml, hown, hts⟩ (c_MO_fail l D lay cA S (7 : Int32) (xgi S 0 6) q15 e14) (cwV 2 hts (xT_V wd_890 wd_892 wp_31 wd_7 wd_893) rfl rfl rfl (by decide +kernel) ⟨Nat.le_of_ble_eq_true rfl, Nat.le_of_ble_eq_true rfl⟩) (mpV E hP hS (by decide) (mc_0 _ _ _ _) rfl) rfl rfl hl.1 rfl (lv_room (Nat.le_of_ble_eq_true rfl)) d_MO_readError_32 ⟨Nat.le_of_ble_eq_true rfl, Nat.le_of_ble_eq_true rfl⟩) hS (fun H locs hP hS => ?_)
      have h9 := Option.some.inj h
      subst h9
      exact W.vret hx hb hr (fun t ht hW => ⟨⟨(), rfl, trivial, by show va_P D xcl _ t.heap; rw [ht]; exact hP⟩, hS.F ht⟩) hS.2.2 d_MO_readError_35
  · have h := xif_t c_19 h
    refine lv_aload_n hx hb d_MO_readError_10 rfl (lv_at hl 1 rfl) ?_
    refine lv_iconst (v := (1 : Int32)) hx hb d_MO_readError_11 (by decide) ?_
    obtain ⟨q18, e17, h⟩ := xb h
    refine mc_v (va_runV (As := [.int (1 : Int32)]) (rest := []) ⟨hx, hb, hml, hown, hts⟩ (c_MO_bad l D lay cA S (1 : Int32) q18 e17) (cwV 1 hts (xT_V wd_886 wd_888 wp_30 wd_7 wd_889) rfl rfl rfl (by decide +kernel) ⟨Nat.le_of_ble_eq_true rfl, Nat.le_of_ble_eq_true rfl⟩) (mpV E hP hS (by decide) (mc_0 _ _ _ _) rfl) rfl rfl hl.1 rfl (lv_room (Nat.le_of_ble_eq_true rfl)) d_MO_readError_12 ⟨Nat.le_of_ble_eq_true rfl, Nat.le_of_ble_eq_true rfl⟩) hS (fun H locs hP hS => ?_)
    have h9 := Option.some.inj h
    subst h9
    exact W.vret hx hb hr (fun t ht hW => ⟨⟨(), rfl, trivial, by show va_P D xcl _ t.heap; rw [ht]; exact hP⟩, hS.F ht⟩) hS.2.2 d_MO_readError_15
theorem c_MO_readError (l : Launch) (D : va_G) (lay : Nat → Nat) (cA : Nat → ClassId) (S : XS) (a1 : Int32) (r : XS) (h : f_MO_readError S a1 = some r) : Met l y_MO_readError (.code y_MO_readError b_MO_readError 4 ((Option.none : Option Jvm.ClassFile.FieldType)) :: xT) rm_MO_readError (mPc D lay cA S [.ref (lay 0), .int a1]) (mqv D lay cA r) 0 0 (mI lay) := by
  refine Met.ofW (cc := b_MO_readError) (maxL := 4) (ret := (Option.none : Option Jvm.ClassFile.FieldType)) (by decide +kernel) rfl ?_
  intro p e s m args below meth c s₁ B hml hv
  obtain ⟨rfl, hP, E⟩ := hv
  have C := xB_of B hml
  have hl := lv_entry ([.ref (lay 0), .int a1]) (n := 4) (Nat.le_of_ble_eq_true rfl)
  rw [lg_entry_eq]
  generalize (lg_sl ([.ref (lay 0), .int a1]) ++ List.replicate (4 - (lg_sl ([.ref (lay 0), .int a1])).length) Slot.unset).toArray = ls at hl ⊢
  exact k_MO_readError l C E S a1 r h s.heap [] ls hP va_S.rf hl
