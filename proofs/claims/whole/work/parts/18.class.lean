/-! ConfigTexts.put(JI)Z -/
def rm_CT_put : Room := { frames := 0, cells := 0, slots := 0, locals := 0 }
theorem d_CT_put_0 : decode b_CT_put 0 = .ok (.iload_n 3, 1) := by decide +kernel
theorem d_CT_put_1 : decode b_CT_put 1 = .ok (.ifCond .lt 21, 3) := by decide +kernel
theorem d_CT_put_4 : decode b_CT_put 4 = .ok (.iload_n 3, 1) := by decide +kernel
theorem d_CT_put_5 : decode b_CT_put 5 = .ok (.bipush 8, 2) := by decide +kernel
theorem d_CT_put_7 : decode b_CT_put 7 = .ok (.if_icmp .gt 15, 3) := by decide +kernel
theorem d_CT_put_10 : decode b_CT_put 10 = .ok (.aload_n 0, 1) := by decide +kernel
theorem d_CT_put_11 : decode b_CT_put 11 = .ok (.getfield 13, 3) := by decide +kernel
theorem d_CT_put_14 : decode b_CT_put 14 = .ok (.iload_n 3, 1) := by decide +kernel
theorem d_CT_put_15 : decode b_CT_put 15 = .ok (.iadd, 1) := by decide +kernel
theorem d_CT_put_16 : decode b_CT_put 16 = .ok (.sipush 2000, 3) := by decide +kernel
theorem d_CT_put_19 : decode b_CT_put 19 = .ok (.if_icmp .le 5, 3) := by decide +kernel
theorem d_CT_put_22 : decode b_CT_put 22 = .ok (.iconst 0, 1) := by decide +kernel
theorem d_CT_put_23 : decode b_CT_put 23 = .ok (.ireturn, 1) := by decide +kernel
theorem d_CT_put_24 : decode b_CT_put 24 = .ok (.iload_n 3, 1) := by decide +kernel
theorem d_CT_put_25 : decode b_CT_put 25 = .ok (.iconst 1, 1) := by decide +kernel
theorem d_CT_put_26 : decode b_CT_put 26 = .ok (.isub, 1) := by decide +kernel
theorem d_CT_put_27 : decode b_CT_put 27 = .ok (.istore 4, 2) := by decide +kernel
theorem d_CT_put_29 : decode b_CT_put 29 = .ok (.iload 4, 2) := by decide +kernel
theorem d_CT_put_31 : decode b_CT_put 31 = .ok (.ifCond .lt 37, 3) := by decide +kernel
theorem d_CT_put_34 : decode b_CT_put 34 = .ok (.aload_n 0, 1) := by decide +kernel
theorem d_CT_put_35 : decode b_CT_put 35 = .ok (.getfield 9, 3) := by decide +kernel
theorem d_CT_put_38 : decode b_CT_put 38 = .ok (.aload_n 0, 1) := by decide +kernel
theorem d_CT_put_39 : decode b_CT_put 39 = .ok (.getfield 13, 3) := by decide +kernel
theorem d_CT_put_42 : decode b_CT_put 42 = .ok (.lload_n 1, 1) := by decide +kernel
theorem d_CT_put_43 : decode b_CT_put 43 = .ok (.bipush 8, 2) := by decide +kernel
theorem d_CT_put_45 : decode b_CT_put 45 = .ok (.iload 4, 2) := by decide +kernel
theorem d_CT_put_47 : decode b_CT_put 47 = .ok (.imul, 1) := by decide +kernel
theorem d_CT_put_48 : decode b_CT_put 48 = .ok (.lshr, 1) := by decide +kernel
theorem d_CT_put_49 : decode b_CT_put 49 = .ok (.l2i, 1) := by decide +kernel
theorem d_CT_put_50 : decode b_CT_put 50 = .ok (.i2b, 1) := by decide +kernel
theorem d_CT_put_51 : decode b_CT_put 51 = .ok (.bastore, 1) := by decide +kernel
theorem d_CT_put_52 : decode b_CT_put 52 = .ok (.aload_n 0, 1) := by decide +kernel
theorem d_CT_put_53 : decode b_CT_put 53 = .ok (.dup, 1) := by decide +kernel
theorem d_CT_put_54 : decode b_CT_put 54 = .ok (.getfield 13, 3) := by decide +kernel
theorem d_CT_put_57 : decode b_CT_put 57 = .ok (.iconst 1, 1) := by decide +kernel
theorem d_CT_put_58 : decode b_CT_put 58 = .ok (.iadd, 1) := by decide +kernel
theorem d_CT_put_59 : decode b_CT_put 59 = .ok (.putfield 13, 3) := by decide +kernel
theorem d_CT_put_62 : decode b_CT_put 62 = .ok (.iinc 4 (-1), 3) := by decide +kernel
theorem d_CT_put_65 : decode b_CT_put 65 = .ok (.goto (-36), 3) := by decide +kernel
theorem d_CT_put_68 : decode b_CT_put 68 = .ok (.iconst 1, 1) := by decide +kernel
theorem d_CT_put_69 : decode b_CT_put 69 = .ok (.ireturn, 1) := by decide +kernel
def f_CT_put_29 : Nat → XS → Int64 → Int32 → Option (Int32 × XS)
  | 0, _, _, _ => none
  | n + 1, S, a1, a4 =>
    if a4 < 0 then (some ((1 : Int32), S)) else (if ¬ ((xgi S 0 1) < 0 ∨ 2000 ≤ (xgi S 0 1).toNatClampNeg) then (f_CT_put_29 n (xpi (xpi S 1 (xgi S 0 1).toNatClampNeg (vp_nar .byte (((a1 >>> (((8 : Int32) * a4).toInt64 &&& 63)).toInt32).toInt8.toInt32))) 0 1 ((xgi (xpi S 1 (xgi S 0 1).toNatClampNeg (vp_nar .byte (((a1 >>> (((8 : Int32) * a4).toInt64 &&& 63)).toInt32).toInt8.toInt32))) 0 1) + (1 : Int32))) a1 (a4 + (-1 : Int32))) else none)
set_option maxHeartbeats 4000000 in
set_option maxRecDepth 100000 in
theorem k_CT_put_29 (l : Launch) {p : Program} {e : Env} {s : State} {m : MethodId} {args : Array Value} {below : List Frame} {meth : Method} {c : Code} {D : va_G} {lay : Nat → Nat} {cA : Nat → ClassId} {adK adV : Nat → Nat} {s0 : State} (C : xB p s m args meth c R_CT b_CT_put ((Option.some Jvm.ClassFile.FieldType.boolean)) 5) (E : xE D lay cA adK adV s0 s s.heap) : ∀ (n : Nat) (S : XS) (a1 : Int64) (a4 : Int32) (r : Int32 × XS) (_ : f_CT_put_29 n S a1 a4 = some r) (H : Heap) (locs : List Loc) (ls : Array Slot), va_P D xcl (xw lay cA S) H → va_S (xI lay) s.heap H locs → lv_has ls 5 [(0, .ref (lay 0)), (1, .long a1), (4, .int a4)] → W p l e rm_CT_put s m args below meth c H locs 0 0 (MQ below (xqi D lay cA r.1 r.2) args s 0 0 (xI lay)) (F0 m 29 ls []) := by
  obtain ⟨hx, hb, hr, hml, hown, hts, hlk, hnh⟩ := id C
  have hK := E.K
  intro n
  induction n with
  | zero => intro S a1 a4 r h; rw [f_CT_put_29] at h; cases h
  | succ n ih =>
    intro S a1 a4 r h H locs ls hP hS hl
    rw [f_CT_put_29] at h
    refine lv_iload hx hb d_CT_put_29 (lv_at hl 2 rfl) ?_
    refine lv_if_lt (tgt := 68) hx hb d_CT_put_31 (by decide) (fun c_5 => ?_) (fun c_5 => ?_)
    · have h := xif_t c_5 h
      refine lv_iconst (v := (1 : Int32)) hx hb d_CT_put_68 (by decide) ?_
      have h9 := Option.some.inj h
      subst h9
      exact W.zret (v := (1 : Int32)) hx hb hr (by decide) (fun t ht hW => ⟨⟨(1 : Int32), (), rfl, rfl, by show va_P D xcl _ t.heap; rw [ht]; exact hP⟩, hS.F ht⟩) hS.2.2 d_CT_put_69
    · have h := xif_f c_5 h
      refine lv_aload_n hx hb d_CT_put_34 rfl (lv_at hl 0 rfl) ?_
      refine va_get (v := .ref (lay 1)) (C := R_CT) (T := F_CT) (N := 6) hx hb hts i_CT hown hK hP 0 (xw_at (by decide) (xc_0 _ _ _ _)) rfl 0 (by decide) (hts _ wd_182) (fun _ h9 => h9) rfl d_CT_put_35 ?_
      refine lv_aload_n hx hb d_CT_put_38 rfl (lv_at hl 0 rfl) ?_
      refine va_get (v := .int (xgi S 0 1)) (C := R_CT) (T := F_CT) (N := 6) hx hb hts i_CT hown hK hP 0 (xw_at (by decide) (xc_0 _ _ _ _)) rfl 1 (by decide) (hts _ wd_183) (fun _ h9 => h9) rfl d_CT_put_39 ?_
      refine lv_lload_n hx hb d_CT_put_42 rfl (lv_at hl 1 rfl) ?_
      refine lv_bipush (v := (8 : Int32)) hx hb d_CT_put_43 (by decide) ?_
      refine lv_iload hx hb d_CT_put_45 (lv_at hl 2 rfl) ?_
      refine lv_imul hx hb d_CT_put_47 ?_
      refine lv_lshr (v := a1 >>> (((8 : Int32) * a4).toInt64 &&& 63)) hx hb d_CT_put_48 rfl ?_
      refine lv_l2i (v := (a1 >>> (((8 : Int32) * a4).toInt64 &&& 63)).toInt32) hx hb d_CT_put_49 rfl ?_
      refine lv_i2b (v := ((a1 >>> (((8 : Int32) * a4).toInt64 &&& 63)).toInt32).toInt8.toInt32) hx hb d_CT_put_50 rfl ?_
      obtain ⟨hg4, h⟩ := xg h
      refine xas_tx hx hb E hP hS hg4 d_CT_put_51 (fun H locs hP hS => ?_)
      refine lv_aload_n hx hb d_CT_put_52 rfl (lv_at hl 0 rfl) ?_
      refine lv_dup hx hb d_CT_put_53 rfl ?_
      refine va_get (v := .int (xgi (xpi S 1 (xgi S 0 1).toNatClampNeg (vp_nar .byte (((a1 >>> (((8 : Int32) * a4).toInt64 &&& 63)).toInt32).toInt8.toInt32))) 0 1)) (C := R_CT) (T := F_CT) (N := 6) hx hb hts i_CT hown hK hP 0 (xw_at (by decide) (xc_0 _ _ _ _)) rfl 1 (by decide) (hts _ wd_183) (fun _ h9 => h9) rfl d_CT_put_54 ?_
      refine lv_iconst (v := (1 : Int32)) hx hb d_CT_put_57 (by decide) ?_
      refine lv_iadd hx hb d_CT_put_58 ?_
      refine xput_CT_1 hx hb hts hown E hP hS (hts _ wd_183) d_CT_put_59 (fun H locs hP hS => ?_)
      refine lv_iinc (v := a4 + (-1 : Int32)) (lv' := [(4, .int (a4 + (-1 : Int32))), (0, .ref (lay 0)), (1, .long a1)]) hx hb d_CT_put_62 hl (k := 2) rfl (by rfl) (by decide) rfl (fun ls hl => ?_)
      refine lv_goto (tgt := 29) hx hb d_CT_put_65 (by decide) ?_
      exact ih (xpi (xpi S 1 (xgi S 0 1).toNatClampNeg (vp_nar .byte (((a1 >>> (((8 : Int32) * a4).toInt64 &&& 63)).toInt32).toInt8.toInt32))) 0 1 ((xgi (xpi S 1 (xgi S 0 1).toNatClampNeg (vp_nar .byte (((a1 >>> (((8 : Int32) * a4).toInt64 &&& 63)).toInt32).toInt8.toInt32))) 0 1) + (1 : Int32))) a1 (a4 + (-1 : Int32)) _ h H locs ls hP hS (lv_sub hl [1, 2, 0] rfl)
def f_CT_put (S : XS) (a1 : Int64) (a3 : Int32) : Option (Int32 × XS) :=
  if a3 < 0 then (some ((0 : Int32), S)) else (if (8 : Int32) < a3 then (some ((0 : Int32), S)) else (if ((xgi S 0 1) + a3) ≤ (2000 : Int32) then (f_CT_put_29 4096 S a1 (a3 - (1 : Int32))) else (some ((0 : Int32), S))))
set_option maxHeartbeats 4000000 in
set_option maxRecDepth 100000 in
theorem k_CT_put (l : Launch) {p : Program} {e : Env} {s : State} {m : MethodId} {args : Array Value} {below : List Frame} {meth : Method} {c : Code} {D : va_G} {lay : Nat → Nat} {cA : Nat → ClassId} {adK adV : Nat → Nat} {s0 : State} (C : xB p s m args meth c R_CT b_CT_put ((Option.some Jvm.ClassFile.FieldType.boolean)) 5) (E : xE D lay cA adK adV s0 s s.heap) : ∀ (S : XS) (a1 : Int64) (a3 : Int32) (r : Int32 × XS) (_ : f_CT_put S a1 a3 = some r) (H : Heap) (locs : List Loc) (ls : Array Slot), va_P D xcl (xw lay cA S) H → va_S (xI lay) s.heap H locs → lv_has ls 5 [(0, .ref (lay 0)), (1, .long a1), (3, .int a3)] → W p l e rm_CT_put s m args below meth c H locs 0 0 (MQ below (xqi D lay cA r.1 r.2) args s 0 0 (xI lay)) (F0 m 0 ls []) := by
  obtain ⟨hx, hb, hr, hml, hown, hts, hlk, hnh⟩ := id C
  have hK := E.K
  intro S a1 a3 r h H locs ls hP hS hl
  unfold f_CT_put at h
  refine lv_iload_n hx hb d_CT_put_0 rfl (lv_at hl 2 rfl) ?_
  refine lv_if_lt (tgt := 22) hx hb d_CT_put_1 (by decide) (fun c_3 => ?_) (fun c_3 => ?_)
  · have h := xif_t c_3 h
    refine lv_iconst (v := (0 : Int32)) hx hb d_CT_put_22 (by decide) ?_
    have h9 := Option.some.inj h
    subst h9
    exact W.zret (v := (0 : Int32)) hx hb hr (by decide) (fun t ht hW => ⟨⟨(0 : Int32), (), rfl, rfl, by show va_P D xcl _ t.heap; rw [ht]; exact hP⟩, hS.F ht⟩) hS.2.2 d_CT_put_23
  · have h := xif_f c_3 h
    refine lv_iload_n hx hb d_CT_put_4 rfl (lv_at hl 2 rfl) ?_
    refine lv_bipush (v := (8 : Int32)) hx hb d_CT_put_5 (by decide) ?_
    refine lv_icmp_gt (tgt := 22) hx hb d_CT_put_7 (by decide) (fun c_2 => ?_) (fun c_2 => ?_)
    · have h := xif_t c_2 h
      refine lv_iconst (v := (0 : Int32)) hx hb d_CT_put_22 (by decide) ?_
      have h9 := Option.some.inj h
      subst h9
      exact W.zret (v := (0 : Int32)) hx hb hr (by decide) (fun t ht hW => ⟨⟨(0 : Int32), (), rfl, rfl, by show va_P D xcl _ t.heap; rw [ht]; exact hP⟩, hS.F ht⟩) hS.2.2 d_CT_put_23
    · have h := xif_f c_2 h
      refine lv_aload_n hx hb d_CT_put_10 rfl (lv_at hl 0 rfl) ?_
      refine va_get (v := .int (xgi S 0 1)) (C := R_CT) (T := F_CT) (N := 6) hx hb hts i_CT hown hK hP 0 (xw_at (by decide) (xc_0 _ _ _ _)) rfl 1 (by decide) (hts _ wd_183) (fun _ h9 => h9) rfl d_CT_put_11 ?_
      refine lv_iload_n hx hb d_CT_put_14 rfl (lv_at hl 2 rfl) ?_
      refine lv_iadd hx hb d_CT_put_15 ?_
      refine lv_sipush (v := (2000 : Int32)) hx hb d_CT_put_16 (by decide) ?_
      refine lv_icmp_le (tgt := 24) hx hb d_CT_put_19 (by decide) (fun c_1 => ?_) (fun c_1 => ?_)
      · have h := xif_t c_1 h
        refine lv_iload_n hx hb d_CT_put_24 rfl (lv_at hl 2 rfl) ?_
        refine lv_iconst (v := (1 : Int32)) hx hb d_CT_put_25 (by decide) ?_
        refine lv_isub hx hb d_CT_put_26 ?_
        refine lv_istore (lv' := [(4, .int (a3 - (1 : Int32))), (0, .ref (lay 0)), (1, .long a1), (3, .int a3)]) hx hb d_CT_put_27 hl (by decide) rfl (fun ls hl => ?_)
        exact k_CT_put_29 l C E 4096 S a1 (a3 - (1 : Int32)) _ h H locs ls hP hS (lv_sub hl [1, 2, 0] rfl)
      · have h := xif_f c_1 h
        refine lv_iconst (v := (0 : Int32)) hx hb d_CT_put_22 (by decide) ?_
        have h9 := Option.some.inj h
        subst h9
        exact W.zret (v := (0 : Int32)) hx hb hr (by decide) (fun t ht hW => ⟨⟨(0 : Int32), (), rfl, rfl, by show va_P D xcl _ t.heap; rw [ht]; exact hP⟩, hS.F ht⟩) hS.2.2 d_CT_put_23
theorem c_CT_put (l : Launch) (D : va_G) (lay : Nat → Nat) (cA : Nat → ClassId) (adK adV : Nat → Nat) (s0 : State) (S : XS) (a1 : Int64) (a3 : Int32) (r : Int32 × XS) (h : f_CT_put S a1 a3 = some r) : Met l y_CT_put (.code y_CT_put b_CT_put 5 ((Option.some Jvm.ClassFile.FieldType.boolean)) :: xT) rm_CT_put (xPc D lay cA adK adV s0 S [.ref (lay 0), .long a1, .int a3]) (xqi D lay cA r.1 r.2) 0 0 (xI lay) := by
  refine Met.ofW (cc := b_CT_put) (maxL := 5) (ret := (Option.some Jvm.ClassFile.FieldType.boolean)) (by decide +kernel) rfl ?_
  intro p e s m args below meth c s₁ B hml hv
  obtain ⟨rfl, hP, E⟩ := hv
  have C := xB_of B hml
  have hl := lv_entry ([.ref (lay 0), .long a1, .int a3]) (n := 5) (Nat.le_of_ble_eq_true rfl)
  rw [lg_entry_eq]
  generalize (lg_sl ([.ref (lay 0), .long a1, .int a3]) ++ List.replicate (5 - (lg_sl ([.ref (lay 0), .long a1, .int a3])).length) Slot.unset).toArray = ls at hl ⊢
  exact k_CT_put l C E S a1 a3 r h s.heap [] ls hP va_S.rf hl
/-! ConfigTexts.load()I -/
def rm_CT_load : Room := { frames := 12, cells := 1, slots := 6, locals := 242 }
theorem d_CT_load_0 : decode b_CT_load 0 = .ok (.aload_n 0, 1) := by decide +kernel
theorem d_CT_load_1 : decode b_CT_load 1 = .ok (.getfield 13, 3) := by decide +kernel
theorem d_CT_load_4 : decode b_CT_load 4 = .ok (.istore_n 1, 1) := by decide +kernel
theorem d_CT_load_5 : decode b_CT_load 5 = .ok (.aload_n 0, 1) := by decide +kernel
theorem d_CT_load_6 : decode b_CT_load 6 = .ok (.iconst 0, 1) := by decide +kernel
theorem d_CT_load_7 : decode b_CT_load 7 = .ok (.putfield 13, 3) := by decide +kernel
theorem d_CT_load_10 : decode b_CT_load 10 = .ok (.aload_n 0, 1) := by decide +kernel
theorem d_CT_load_11 : decode b_CT_load 11 = .ok (.iconst 0, 1) := by decide +kernel
theorem d_CT_load_12 : decode b_CT_load 12 = .ok (.putfield 42, 3) := by decide +kernel
theorem d_CT_load_15 : decode b_CT_load 15 = .ok (.aload_n 0, 1) := by decide +kernel
theorem d_CT_load_16 : decode b_CT_load 16 = .ok (.getfield 29, 3) := by decide +kernel
theorem d_CT_load_19 : decode b_CT_load 19 = .ok (.invokevirtual 46, 3) := by decide +kernel
theorem d_CT_load_22 : decode b_CT_load 22 = .ok (.aload_n 0, 1) := by decide +kernel
theorem d_CT_load_23 : decode b_CT_load 23 = .ok (.getfield 22, 3) := by decide +kernel
theorem d_CT_load_26 : decode b_CT_load 26 = .ok (.iload_n 1, 1) := by decide +kernel
theorem d_CT_load_27 : decode b_CT_load 27 = .ok (.invokevirtual 49, 3) := by decide +kernel
theorem d_CT_load_30 : decode b_CT_load 30 = .ok (.iconst 0, 1) := by decide +kernel
theorem d_CT_load_31 : decode b_CT_load 31 = .ok (.istore_n 2, 1) := by decide +kernel
theorem d_CT_load_32 : decode b_CT_load 32 = .ok (.iload_n 2, 1) := by decide +kernel
theorem d_CT_load_33 : decode b_CT_load 33 = .ok (.bipush 8, 2) := by decide +kernel
theorem d_CT_load_35 : decode b_CT_load 35 = .ok (.if_icmp .gt 32, 3) := by decide +kernel
theorem d_CT_load_38 : decode b_CT_load 38 = .ok (.iload_n 2, 1) := by decide +kernel
theorem d_CT_load_39 : decode b_CT_load 39 = .ok (.ifCond .eq 15, 3) := by decide +kernel
theorem d_CT_load_42 : decode b_CT_load 42 = .ok (.aload_n 0, 1) := by decide +kernel
theorem d_CT_load_43 : decode b_CT_load 43 = .ok (.getfield 22, 3) := by decide +kernel
theorem d_CT_load_46 : decode b_CT_load 46 = .ok (.ldc 53, 2) := by decide +kernel
theorem d_CT_load_48 : decode b_CT_load 48 = .ok (.invokevirtual 55, 3) := by decide +kernel
theorem d_CT_load_51 : decode b_CT_load 51 = .ok (.ifCond .eq 16, 3) := by decide +kernel
theorem d_CT_load_54 : decode b_CT_load 54 = .ok (.aload_n 0, 1) := by decide +kernel
theorem d_CT_load_55 : decode b_CT_load 55 = .ok (.getfield 38, 3) := by decide +kernel
theorem d_CT_load_58 : decode b_CT_load 58 = .ok (.invokevirtual 59, 3) := by decide +kernel
theorem d_CT_load_61 : decode b_CT_load 61 = .ok (.iinc 2 1, 3) := by decide +kernel
theorem d_CT_load_64 : decode b_CT_load 64 = .ok (.goto (-32), 3) := by decide +kernel
theorem d_CT_load_67 : decode b_CT_load 67 = .ok (.iconst 0, 1) := by decide +kernel
theorem d_CT_load_68 : decode b_CT_load 68 = .ok (.istore_n 2, 1) := by decide +kernel
theorem d_CT_load_69 : decode b_CT_load 69 = .ok (.iload_n 2, 1) := by decide +kernel
theorem d_CT_load_70 : decode b_CT_load 70 = .ok (.bipush 16, 2) := by decide +kernel
theorem d_CT_load_72 : decode b_CT_load 72 = .ok (.if_icmp .gt 28, 3) := by decide +kernel
theorem d_CT_load_75 : decode b_CT_load 75 = .ok (.aload_n 0, 1) := by decide +kernel
theorem d_CT_load_76 : decode b_CT_load 76 = .ok (.getfield 22, 3) := by decide +kernel
theorem d_CT_load_79 : decode b_CT_load 79 = .ok (.ldc 62, 2) := by decide +kernel
theorem d_CT_load_81 : decode b_CT_load 81 = .ok (.invokevirtual 55, 3) := by decide +kernel
theorem d_CT_load_84 : decode b_CT_load 84 = .ok (.ifCond .eq 16, 3) := by decide +kernel
theorem d_CT_load_87 : decode b_CT_load 87 = .ok (.aload_n 0, 1) := by decide +kernel
theorem d_CT_load_88 : decode b_CT_load 88 = .ok (.getfield 38, 3) := by decide +kernel
theorem d_CT_load_91 : decode b_CT_load 91 = .ok (.invokevirtual 64, 3) := by decide +kernel
theorem d_CT_load_94 : decode b_CT_load 94 = .ok (.iinc 2 1, 3) := by decide +kernel
theorem d_CT_load_97 : decode b_CT_load 97 = .ok (.goto (-28), 3) := by decide +kernel
theorem d_CT_load_100 : decode b_CT_load 100 = .ok (.aload_n 0, 1) := by decide +kernel
theorem d_CT_load_101 : decode b_CT_load 101 = .ok (.getfield 38, 3) := by decide +kernel
theorem d_CT_load_104 : decode b_CT_load 104 = .ok (.invokevirtual 67, 3) := by decide +kernel
theorem d_CT_load_107 : decode b_CT_load 107 = .ok (.aload_n 0, 1) := by decide +kernel
theorem d_CT_load_108 : decode b_CT_load 108 = .ok (.getfield 22, 3) := by decide +kernel
theorem d_CT_load_111 : decode b_CT_load 111 = .ok (.invokevirtual 70, 3) := by decide +kernel
theorem d_CT_load_114 : decode b_CT_load 114 = .ok (.aload_n 0, 1) := by decide +kernel
theorem d_CT_load_115 : decode b_CT_load 115 = .ok (.iconst 1, 1) := by decide +kernel
theorem d_CT_load_116 : decode b_CT_load 116 = .ok (.putfield 42, 3) := by decide +kernel
theorem d_CT_load_119 : decode b_CT_load 119 = .ok (.aload_n 0, 1) := by decide +kernel
theorem d_CT_load_120 : decode b_CT_load 120 = .ok (.getfield 29, 3) := by decide +kernel
theorem d_CT_load_123 : decode b_CT_load 123 = .ok (.getfield 73, 3) := by decide +kernel
theorem d_CT_load_126 : decode b_CT_load 126 = .ok (.ireturn, 1) := by decide +kernel
def f_CT_load_100 (S : XS)  : Option ((Int32 × XS) ⊕ XS) :=
  (f_RD_readFrame S).bind (xT2 fun _ S35 => (f_WO_expectEnd S35).bind (xT2 fun _ S40 => some (.inl (xgi (xpi S40 0 5 (1 : Int32)) 3 1, xpi S40 0 5 (1 : Int32)))))
set_option maxHeartbeats 4000000 in
set_option maxRecDepth 100000 in
theorem k_CT_load_100 (l : Launch) (hq : l.stackTraces = false) {p : Program} {e : Env} {s : State} {m : MethodId} {args : Array Value} {below : List Frame} {meth : Method} {c : Code} {D : va_G} {lay : Nat → Nat} {cA : Nat → ClassId} {adK adV : Nat → Nat} {s0 : State} (C : xB p s m args meth c R_CT b_CT_load ((Option.some Jvm.ClassFile.FieldType.int)) 3) (E : xE D lay cA adK adV s0 s s.heap) : ∀ (S : XS)  (r : (Int32 × XS) ⊕ XS) (_ : f_CT_load_100 S = some r) (H : Heap) (locs : List Loc) (ls : Array Slot), va_P D xcl (xw lay cA S) H → va_S (xI lay) s.heap H locs → lv_has ls 3 [(0, .ref (lay 0))] → W p l e rm_CT_load s m args below meth c H locs 0 0 (XF below (xri D lay cA r) (xrt D lay cA r) s 0 0 1 6 (xI lay)) (F0 m 100 ls []) := by
  obtain ⟨hx, hb, hr, hml, hown, hts, hlk, hnh⟩ := id C
  have hK := E.K
  intro S r h H locs ls hP hS hl
  unfold f_CT_load_100 at h
  refine lv_aload_n hx hb d_CT_load_100 rfl (lv_at hl 0 rfl) ?_
  refine va_get (v := .ref (lay 179)) (C := R_CT) (T := F_CT) (N := 6) hx hb hts i_CT hown hK hP 0 (xw_at (by decide) (xc_0 _ _ _ _)) rfl 4 (by decide) (hts _ wd_186) (fun _ h9 => h9) rfl d_CT_load_101 ?_
  obtain ⟨q33, e32, h⟩ := xb h
  refine xk_v (xrunV (As := []) (rest := []) ⟨hx, hb, hml, hown, hts⟩ (c_RD_readFrame l hq D lay cA adK adV s0 S q33 e32) (cwV 0 hts (xT_V wd_648 wd_649 wd_650 wd_6 wd_651) rfl rfl rfl (by decide +kernel) ⟨Nat.le_of_ble_eq_true rfl, Nat.le_of_ble_eq_true rfl⟩) (xpV E hP hS (by decide) (xc_179 _ _ _ _) rfl) rfl rfl hl.1 rfl (lv_room (Nat.le_of_ble_eq_true rfl)) d_CT_load_104 ⟨Nat.le_of_ble_eq_true rfl, Nat.le_of_ble_eq_true rfl⟩) hS hnh hlk (fun S9 e9 => by subst e9; exact (Option.some.inj h).symm) (fun v34 S35 w36 H locs hP hS => ?_)
  subst w36
  dsimp only [xT2] at h
  refine lv_aload_n hx hb d_CT_load_107 rfl (lv_at hl 0 rfl) ?_
  refine va_get (v := .ref (lay 2)) (C := R_CT) (T := F_CT) (N := 6) hx hb hts i_CT hown hK hP 0 (xw_at (by decide) (xc_0 _ _ _ _)) rfl 2 (by decide) (hts _ wd_184) (fun _ h9 => h9) rfl d_CT_load_108 ?_
  obtain ⟨q38, e37, h⟩ := xb h
  refine xk_v (xrunV (As := []) (rest := []) ⟨hx, hb, hml, hown, hts⟩ (c_WO_expectEnd l hq D lay cA adK adV s0 S35 q38 e37) (cwV 0 hts (xT_V wd_657 wd_658 wd_659 wd_2 wd_660) rfl rfl rfl (by decide +kernel) ⟨Nat.le_of_ble_eq_true rfl, Nat.le_of_ble_eq_true rfl⟩) (xpV E hP hS (by decide) (xc_2 _ _ _ _) rfl) rfl rfl hl.1 rfl (lv_room (Nat.le_of_ble_eq_true rfl)) d_CT_load_111 ⟨Nat.le_of_ble_eq_true rfl, Nat.le_of_ble_eq_true rfl⟩) hS hnh hlk (fun S9 e9 => by subst e9; exact (Option.some.inj h).symm) (fun v39 S40 w41 H locs hP hS => ?_)
  subst w41
  dsimp only [xT2] at h
  refine lv_aload_n hx hb d_CT_load_114 rfl (lv_at hl 0 rfl) ?_
  refine lv_iconst (v := (1 : Int32)) hx hb d_CT_load_115 (by decide) ?_
  refine xput_CT_5 hx hb hts hown E hP hS (hts _ wd_187) d_CT_load_116 (by decide) (by decide) (fun H locs hP hS => ?_)
  refine lv_aload_n hx hb d_CT_load_119 rfl (lv_at hl 0 rfl) ?_
  refine va_get (v := .ref (lay 3)) (C := R_CT) (T := F_CT) (N := 6) hx hb hts i_CT hown hK hP 0 (xw_at (by decide) (xc_0 _ _ _ _)) rfl 3 (by decide) (hts _ wd_185) (fun _ h9 => h9) rfl d_CT_load_120 ?_
  refine va_getN (v := .int (xgi (xpi S40 0 5 (1 : Int32)) 3 1)) (C := R_CF) (T := F_CF) (N := 7) hx hb hts i_CF hown hK hP 3 (xw_at (by decide) (xc_3 _ _ _ _)) rfl 1 (by decide) (E.nest wn_135) (fun _ h9 => h9) rfl d_CT_load_123 ?_
  have h9 := Option.some.inj h
  subst h9
  exact xret (W.iret (v := xgi (xpi S40 0 5 (1 : Int32)) 3 1) hx hb hr (fun t ht hW => ⟨_, rfl, ⟨⟨xgi (xpi S40 0 5 (1 : Int32)) 3 1, (xpi S40 0 5 (1 : Int32)), rfl, rfl, by show va_P D xcl _ t.heap; rw [ht]; exact hP⟩, hS.F ht⟩⟩) hS.2.2 d_CT_load_126)
def f_CT_load_69 : Nat → XS → Int32 → Option ((Int32 × XS) ⊕ XS)
  | 0, _, _ => none
  | n + 1, S, a2 =>
    if (16 : Int32) < a2 then (f_CT_load_100 S) else ((f_WO_is S 21).bind fun q24 => if q24 = 0 then (f_CT_load_100 S) else ((f_RD_readChannel S).bind (xT2 fun _ S28 => f_CT_load_69 n S28 (a2 + (1 : Int32)))))
set_option maxHeartbeats 4000000 in
set_option maxRecDepth 100000 in
theorem k_CT_load_69 (l : Launch) (hq : l.stackTraces = false) {p : Program} {e : Env} {s : State} {m : MethodId} {args : Array Value} {below : List Frame} {meth : Method} {c : Code} {D : va_G} {lay : Nat → Nat} {cA : Nat → ClassId} {adK adV : Nat → Nat} {s0 : State} (C : xB p s m args meth c R_CT b_CT_load ((Option.some Jvm.ClassFile.FieldType.int)) 3) (E : xE D lay cA adK adV s0 s s.heap) : ∀ (n : Nat) (S : XS) (a2 : Int32) (r : (Int32 × XS) ⊕ XS) (_ : f_CT_load_69 n S a2 = some r) (H : Heap) (locs : List Loc) (ls : Array Slot), va_P D xcl (xw lay cA S) H → va_S (xI lay) s.heap H locs → lv_has ls 3 [(0, .ref (lay 0)), (2, .int a2)] → W p l e rm_CT_load s m args below meth c H locs 0 0 (XF below (xri D lay cA r) (xrt D lay cA r) s 0 0 1 6 (xI lay)) (F0 m 69 ls []) := by
  obtain ⟨hx, hb, hr, hml, hown, hts, hlk, hnh⟩ := id C
  have hK := E.K
  intro n
  induction n with
  | zero => intro S a2 r h; rw [f_CT_load_69] at h; cases h
  | succ n ih =>
    intro S a2 r h H locs ls hP hS hl
    rw [f_CT_load_69] at h
    refine lv_iload_n hx hb d_CT_load_69 rfl (lv_at hl 1 rfl) ?_
    refine lv_bipush (v := (16 : Int32)) hx hb d_CT_load_70 (by decide) ?_
    refine lv_icmp_gt (tgt := 100) hx hb d_CT_load_72 (by decide) (fun c_31 => ?_) (fun c_31 => ?_)
    · have h := xif_t c_31 h
      exact k_CT_load_100 l hq C E S  _ h H locs ls hP hS (lv_sub hl [0] rfl)
    · have h := xif_f c_31 h
      refine lv_aload_n hx hb d_CT_load_75 rfl (lv_at hl 0 rfl) ?_
      refine va_get (v := .ref (lay 2)) (C := R_CT) (T := F_CT) (N := 6) hx hb hts i_CT hown hK hP 0 (xw_at (by decide) (xc_0 _ _ _ _)) rfl 2 (by decide) (hts _ wd_184) (fun _ h9 => h9) rfl d_CT_load_76 ?_
      refine va_ldcS hx hb hown (E.lit (List.mem_of_getElem? (i := 22) rfl : ("ConfigTexts", 62, "channel", 21) ∈ xlits)) d_CT_load_79 ?_
      obtain ⟨q24, e23, h⟩ := xb h
      refine xc_i (va_runV (As := [.ref (adK 21)]) (rest := []) ⟨hx, hb, hml, hown, hts⟩ (c_WO_is l D lay cA adK adV s0 S 21 q24 e23) (cwV 1 hts (xT_V wd_455 wd_456 wd_457 wd_2 wd_458) rfl rfl rfl (by decide +kernel) ⟨Nat.le_of_ble_eq_true rfl, Nat.le_of_ble_eq_true rfl⟩) (xpV E hP hS (by decide) (xc_2 _ _ _ _) rfl) rfl rfl hl.1 rfl (lv_room (Nat.le_of_ble_eq_true rfl)) d_CT_load_81 ⟨Nat.le_of_ble_eq_true rfl, Nat.le_of_ble_eq_true rfl⟩) hS (fun H locs hP hS => ?_)
      refine lv_if_eq (tgt := 100) hx hb d_CT_load_84 (by decide) (fun c_30 => ?_) (fun c_30 => ?_)
      · have h := xif_t c_30 h
        exact k_CT_load_100 l hq C E S  _ h H locs ls hP hS (lv_sub hl [0] rfl)
      · have h := xif_f c_30 h
        refine lv_aload_n hx hb d_CT_load_87 rfl (lv_at hl 0 rfl) ?_
        refine va_get (v := .ref (lay 179)) (C := R_CT) (T := F_CT) (N := 6) hx hb hts i_CT hown hK hP 0 (xw_at (by decide) (xc_0 _ _ _ _)) rfl 4 (by decide) (hts _ wd_186) (fun _ h9 => h9) rfl d_CT_load_88 ?_
        obtain ⟨q26, e25, h⟩ := xb h
        refine xk_v (xrunV (As := []) (rest := []) ⟨hx, hb, hml, hown, hts⟩ (c_RD_readChannel l hq D lay cA adK adV s0 S q26 e25) (cwV 0 hts (xT_V wd_623 wd_624 wd_625 wd_6 wd_626) rfl rfl rfl (by decide +kernel) ⟨Nat.le_of_ble_eq_true rfl, Nat.le_of_ble_eq_true rfl⟩) (xpV E hP hS (by decide) (xc_179 _ _ _ _) rfl) rfl rfl hl.1 rfl (lv_room (Nat.le_of_ble_eq_true rfl)) d_CT_load_91 ⟨Nat.le_of_ble_eq_true rfl, Nat.le_of_ble_eq_true rfl⟩) hS hnh hlk (fun S9 e9 => by subst e9; exact (Option.some.inj h).symm) (fun v27 S28 w29 H locs hP hS => ?_)
        subst w29
        dsimp only [xT2] at h
        refine lv_iinc (v := a2 + (1 : Int32)) (lv' := [(2, .int (a2 + (1 : Int32))), (0, .ref (lay 0))]) hx hb d_CT_load_94 hl (k := 1) rfl (by rfl) (by decide) rfl (fun ls hl => ?_)
        refine lv_goto (tgt := 69) hx hb d_CT_load_97 (by decide) ?_
        exact ih S28 (a2 + (1 : Int32)) _ h H locs ls hP hS (lv_sub hl [1, 0] rfl)
def f_CT_load_67 (S : XS)  : Option ((Int32 × XS) ⊕ XS) :=
  f_CT_load_69 4096 S (0 : Int32)
set_option maxHeartbeats 4000000 in
set_option maxRecDepth 100000 in
theorem k_CT_load_67 (l : Launch) (hq : l.stackTraces = false) {p : Program} {e : Env} {s : State} {m : MethodId} {args : Array Value} {below : List Frame} {meth : Method} {c : Code} {D : va_G} {lay : Nat → Nat} {cA : Nat → ClassId} {adK adV : Nat → Nat} {s0 : State} (C : xB p s m args meth c R_CT b_CT_load ((Option.some Jvm.ClassFile.FieldType.int)) 3) (E : xE D lay cA adK adV s0 s s.heap) : ∀ (S : XS)  (r : (Int32 × XS) ⊕ XS) (_ : f_CT_load_67 S = some r) (H : Heap) (locs : List Loc) (ls : Array Slot), va_P D xcl (xw lay cA S) H → va_S (xI lay) s.heap H locs → lv_has ls 3 [(0, .ref (lay 0))] → W p l e rm_CT_load s m args below meth c H locs 0 0 (XF below (xri D lay cA r) (xrt D lay cA r) s 0 0 1 6 (xI lay)) (F0 m 67 ls []) := by
  obtain ⟨hx, hb, hr, hml, hown, hts, hlk, hnh⟩ := id C
  have hK := E.K
  intro S r h H locs ls hP hS hl
  unfold f_CT_load_67 at h
  refine lv_iconst (v := (0 : Int32)) hx hb d_CT_load_67 (by decide) ?_
  refine lv_istore_n (lv' := [(2, .int (0 : Int32)), (0, .ref (lay 0))]) hx hb d_CT_load_68 rfl hl (by decide) rfl (fun ls hl => ?_)
  exact k_CT_load_69 l hq C E 4096 S (0 : Int32) _ h H locs ls hP hS (lv_sub hl [1, 0] rfl)
def f_CT_load_32 : Nat → XS → Int32 → Option ((Int32 × XS) ⊕ XS)
  | 0, _, _ => none
  | n + 1, S, a2 =>
    if (8 : Int32) < a2 then (f_CT_load_67 S) else (if a2 = 0 then ((f_RD_readPartition S).bind (xT2 fun _ S11 => f_CT_load_32 n S11 (a2 + (1 : Int32)))) else ((f_WO_is S 2).bind fun q14 => if q14 = 0 then (f_CT_load_67 S) else ((f_RD_readPartition S).bind (xT2 fun _ S18 => f_CT_load_32 n S18 (a2 + (1 : Int32))))))
set_option maxHeartbeats 4000000 in
set_option maxRecDepth 100000 in
theorem k_CT_load_32 (l : Launch) (hq : l.stackTraces = false) {p : Program} {e : Env} {s : State} {m : MethodId} {args : Array Value} {below : List Frame} {meth : Method} {c : Code} {D : va_G} {lay : Nat → Nat} {cA : Nat → ClassId} {adK adV : Nat → Nat} {s0 : State} (C : xB p s m args meth c R_CT b_CT_load ((Option.some Jvm.ClassFile.FieldType.int)) 3) (E : xE D lay cA adK adV s0 s s.heap) : ∀ (n : Nat) (S : XS) (a2 : Int32) (r : (Int32 × XS) ⊕ XS) (_ : f_CT_load_32 n S a2 = some r) (H : Heap) (locs : List Loc) (ls : Array Slot), va_P D xcl (xw lay cA S) H → va_S (xI lay) s.heap H locs → lv_has ls 3 [(0, .ref (lay 0)), (2, .int a2)] → W p l e rm_CT_load s m args below meth c H locs 0 0 (XF below (xri D lay cA r) (xrt D lay cA r) s 0 0 1 6 (xI lay)) (F0 m 32 ls []) := by
  obtain ⟨hx, hb, hr, hml, hown, hts, hlk, hnh⟩ := id C
  have hK := E.K
  intro n
  induction n with
  | zero => intro S a2 r h; rw [f_CT_load_32] at h; cases h
  | succ n ih =>
    intro S a2 r h H locs ls hP hS hl
    rw [f_CT_load_32] at h
    refine lv_iload_n hx hb d_CT_load_32 rfl (lv_at hl 1 rfl) ?_
    refine lv_bipush (v := (8 : Int32)) hx hb d_CT_load_33 (by decide) ?_
    refine lv_icmp_gt (tgt := 67) hx hb d_CT_load_35 (by decide) (fun c_22 => ?_) (fun c_22 => ?_)
    · have h := xif_t c_22 h
      exact k_CT_load_67 l hq C E S  _ h H locs ls hP hS (lv_sub hl [0] rfl)
    · have h := xif_f c_22 h
      refine lv_iload_n hx hb d_CT_load_38 rfl (lv_at hl 1 rfl) ?_
      refine lv_if_eq (tgt := 54) hx hb d_CT_load_39 (by decide) (fun c_21 => ?_) (fun c_21 => ?_)
      · have h := xif_t c_21 h
        refine lv_aload_n hx hb d_CT_load_54 rfl (lv_at hl 0 rfl) ?_
        refine va_get (v := .ref (lay 179)) (C := R_CT) (T := F_CT) (N := 6) hx hb hts i_CT hown hK hP 0 (xw_at (by decide) (xc_0 _ _ _ _)) rfl 4 (by decide) (hts _ wd_186) (fun _ h9 => h9) rfl d_CT_load_55 ?_
        obtain ⟨q9, e8, h⟩ := xb h
        refine xk_v (xrunV (As := []) (rest := []) ⟨hx, hb, hml, hown, hts⟩ (c_RD_readPartition l hq D lay cA adK adV s0 S q9 e8) (cwV 0 hts (xT_V wd_484 wd_485 wd_486 wd_6 wd_487) rfl rfl rfl (by decide +kernel) ⟨Nat.le_of_ble_eq_true rfl, Nat.le_of_ble_eq_true rfl⟩) (xpV E hP hS (by decide) (xc_179 _ _ _ _) rfl) rfl rfl hl.1 rfl (lv_room (Nat.le_of_ble_eq_true rfl)) d_CT_load_58 ⟨Nat.le_of_ble_eq_true rfl, Nat.le_of_ble_eq_true rfl⟩) hS hnh hlk (fun S9 e9 => by subst e9; exact (Option.some.inj h).symm) (fun v10 S11 w12 H locs hP hS => ?_)
        subst w12
        dsimp only [xT2] at h
        refine lv_iinc (v := a2 + (1 : Int32)) (lv' := [(2, .int (a2 + (1 : Int32))), (0, .ref (lay 0))]) hx hb d_CT_load_61 hl (k := 1) rfl (by rfl) (by decide) rfl (fun ls hl => ?_)
        refine lv_goto (tgt := 32) hx hb d_CT_load_64 (by decide) ?_
        exact ih S11 (a2 + (1 : Int32)) _ h H locs ls hP hS (lv_sub hl [1, 0] rfl)
      · have h := xif_f c_21 h
        refine lv_aload_n hx hb d_CT_load_42 rfl (lv_at hl 0 rfl) ?_
        refine va_get (v := .ref (lay 2)) (C := R_CT) (T := F_CT) (N := 6) hx hb hts i_CT hown hK hP 0 (xw_at (by decide) (xc_0 _ _ _ _)) rfl 2 (by decide) (hts _ wd_184) (fun _ h9 => h9) rfl d_CT_load_43 ?_
        refine va_ldcS hx hb hown (E.lit (List.mem_of_getElem? (i := 2) rfl : ("ConfigTexts", 53, "partition", 2) ∈ xlits)) d_CT_load_46 ?_
        obtain ⟨q14, e13, h⟩ := xb h
        refine xc_i (va_runV (As := [.ref (adK 2)]) (rest := []) ⟨hx, hb, hml, hown, hts⟩ (c_WO_is l D lay cA adK adV s0 S 2 q14 e13) (cwV 1 hts (xT_V wd_455 wd_456 wd_457 wd_2 wd_458) rfl rfl rfl (by decide +kernel) ⟨Nat.le_of_ble_eq_true rfl, Nat.le_of_ble_eq_true rfl⟩) (xpV E hP hS (by decide) (xc_2 _ _ _ _) rfl) rfl rfl hl.1 rfl (lv_room (Nat.le_of_ble_eq_true rfl)) d_CT_load_48 ⟨Nat.le_of_ble_eq_true rfl, Nat.le_of_ble_eq_true rfl⟩) hS (fun H locs hP hS => ?_)
        refine lv_if_eq (tgt := 67) hx hb d_CT_load_51 (by decide) (fun c_20 => ?_) (fun c_20 => ?_)
        · have h := xif_t c_20 h
          exact k_CT_load_67 l hq C E S  _ h H locs ls hP hS (lv_sub hl [0] rfl)
        · have h := xif_f c_20 h
          refine lv_aload_n hx hb d_CT_load_54 rfl (lv_at hl 0 rfl) ?_
          refine va_get (v := .ref (lay 179)) (C := R_CT) (T := F_CT) (N := 6) hx hb hts i_CT hown hK hP 0 (xw_at (by decide) (xc_0 _ _ _ _)) rfl 4 (by decide) (hts _ wd_186) (fun _ h9 => h9) rfl d_CT_load_55 ?_
          obtain ⟨q16, e15, h⟩ := xb h
          refine xk_v (xrunV (As := []) (rest := []) ⟨hx, hb, hml, hown, hts⟩ (c_RD_readPartition l hq D lay cA adK adV s0 S q16 e15) (cwV 0 hts (xT_V wd_484 wd_485 wd_486 wd_6 wd_487) rfl rfl rfl (by decide +kernel) ⟨Nat.le_of_ble_eq_true rfl, Nat.le_of_ble_eq_true rfl⟩) (xpV E hP hS (by decide) (xc_179 _ _ _ _) rfl) rfl rfl hl.1 rfl (lv_room (Nat.le_of_ble_eq_true rfl)) d_CT_load_58 ⟨Nat.le_of_ble_eq_true rfl, Nat.le_of_ble_eq_true rfl⟩) hS hnh hlk (fun S9 e9 => by subst e9; exact (Option.some.inj h).symm) (fun v17 S18 w19 H locs hP hS => ?_)
          subst w19
          dsimp only [xT2] at h
          refine lv_iinc (v := a2 + (1 : Int32)) (lv' := [(2, .int (a2 + (1 : Int32))), (0, .ref (lay 0))]) hx hb d_CT_load_61 hl (k := 1) rfl (by rfl) (by decide) rfl (fun ls hl => ?_)
          refine lv_goto (tgt := 32) hx hb d_CT_load_64 (by decide) ?_
          exact ih S18 (a2 + (1 : Int32)) _ h H locs ls hP hS (lv_sub hl [1, 0] rfl)
def f_CT_load (S : XS)  : Option ((Int32 × XS) ⊕ XS) :=
  (f_CF_clear (xpi (xpi S 0 1 (0 : Int32)) 0 5 (0 : Int32))).bind fun q2 => (f_WO_begin q2 (xgi S 0 1)).bind (xT2 fun _ S6 => f_CT_load_32 4096 S6 (0 : Int32))
set_option maxHeartbeats 4000000 in
set_option maxRecDepth 100000 in
theorem k_CT_load (l : Launch) (hq : l.stackTraces = false) {p : Program} {e : Env} {s : State} {m : MethodId} {args : Array Value} {below : List Frame} {meth : Method} {c : Code} {D : va_G} {lay : Nat → Nat} {cA : Nat → ClassId} {adK adV : Nat → Nat} {s0 : State} (C : xB p s m args meth c R_CT b_CT_load ((Option.some Jvm.ClassFile.FieldType.int)) 3) (E : xE D lay cA adK adV s0 s s.heap) : ∀ (S : XS)  (r : (Int32 × XS) ⊕ XS) (_ : f_CT_load S = some r) (H : Heap) (locs : List Loc) (ls : Array Slot), va_P D xcl (xw lay cA S) H → va_S (xI lay) s.heap H locs → lv_has ls 3 [(0, .ref (lay 0))] → W p l e rm_CT_load s m args below meth c H locs 0 0 (XF below (xri D lay cA r) (xrt D lay cA r) s 0 0 1 6 (xI lay)) (F0 m 0 ls []) := by
  obtain ⟨hx, hb, hr, hml, hown, hts, hlk, hnh⟩ := id C
  have hK := E.K
  intro S r h H locs ls hP hS hl
  unfold f_CT_load at h
  refine lv_aload_n hx hb d_CT_load_0 rfl (lv_at hl 0 rfl) ?_
  refine va_get (v := .int (xgi S 0 1)) (C := R_CT) (T := F_CT) (N := 6) hx hb hts i_CT hown hK hP 0 (xw_at (by decide) (xc_0 _ _ _ _)) rfl 1 (by decide) (hts _ wd_183) (fun _ h9 => h9) rfl d_CT_load_1 ?_
  refine lv_istore_n (lv' := [(1, .int (xgi S 0 1)), (0, .ref (lay 0))]) hx hb d_CT_load_4 rfl hl (by decide) rfl (fun ls hl => ?_)
  refine lv_aload_n hx hb d_CT_load_5 rfl (lv_at hl 1 rfl) ?_
  refine lv_iconst (v := (0 : Int32)) hx hb d_CT_load_6 (by decide) ?_
  refine xput_CT_1 hx hb hts hown E hP hS (hts _ wd_183) d_CT_load_7 (fun H locs hP hS => ?_)
  refine lv_aload_n hx hb d_CT_load_10 rfl (lv_at hl 1 rfl) ?_
  refine lv_iconst (v := (0 : Int32)) hx hb d_CT_load_11 (by decide) ?_
  refine xput_CT_5 hx hb hts hown E hP hS (hts _ wd_187) d_CT_load_12 (by decide) (by decide) (fun H locs hP hS => ?_)
  refine lv_aload_n hx hb d_CT_load_15 rfl (lv_at hl 1 rfl) ?_
  refine va_get (v := .ref (lay 3)) (C := R_CT) (T := F_CT) (N := 6) hx hb hts i_CT hown hK hP 0 (xw_at (by decide) (xc_0 _ _ _ _)) rfl 3 (by decide) (hts _ wd_185) (fun _ h9 => h9) rfl d_CT_load_16 ?_
  obtain ⟨q2, e1, h⟩ := xb h
  refine xc_v (va_runV (As := []) (rest := []) ⟨hx, hb, hml, hown, hts⟩ (c_CF_clear l D lay cA adK adV s0 (xpi (xpi S 0 1 (0 : Int32)) 0 5 (0 : Int32)) q2 e1) (cwV 0 hts (xT_V wd_269 wd_270 wd_271 wd_3 wd_272) rfl rfl rfl (by decide +kernel) ⟨Nat.le_of_ble_eq_true rfl, Nat.le_of_ble_eq_true rfl⟩) (xpV E hP hS (by decide) (xc_3 _ _ _ _) rfl) rfl rfl hl.1 rfl (lv_room (Nat.le_of_ble_eq_true rfl)) d_CT_load_19 ⟨Nat.le_of_ble_eq_true rfl, Nat.le_of_ble_eq_true rfl⟩) hS (fun H locs hP hS => ?_)
  refine lv_aload_n hx hb d_CT_load_22 rfl (lv_at hl 1 rfl) ?_
  refine va_get (v := .ref (lay 2)) (C := R_CT) (T := F_CT) (N := 6) hx hb hts i_CT hown hK hP 0 (xw_at (by decide) (xc_0 _ _ _ _)) rfl 2 (by decide) (hts _ wd_184) (fun _ h9 => h9) rfl d_CT_load_23 ?_
  refine lv_iload_n hx hb d_CT_load_26 rfl (lv_at hl 0 rfl) ?_
  obtain ⟨q4, e3, h⟩ := xb h
  refine xk_v (xrunV (As := [.int (xgi S 0 1)]) (rest := []) ⟨hx, hb, hml, hown, hts⟩ (c_WO_begin l hq D lay cA adK adV s0 q2 (xgi S 0 1) q4 e3) (cwV 1 hts (xT_V wd_277 wd_278 wd_279 wd_2 wd_280) rfl rfl rfl (by decide +kernel) ⟨Nat.le_of_ble_eq_true rfl, Nat.le_of_ble_eq_true rfl⟩) (xpV E hP hS (by decide) (xc_2 _ _ _ _) rfl) rfl rfl hl.1 rfl (lv_room (Nat.le_of_ble_eq_true rfl)) d_CT_load_27 ⟨Nat.le_of_ble_eq_true rfl, Nat.le_of_ble_eq_true rfl⟩) hS hnh hlk (fun S9 e9 => by subst e9; exact (Option.some.inj h).symm) (fun v5 S6 w7 H locs hP hS => ?_)
  subst w7
  dsimp only [xT2] at h
  refine lv_iconst (v := (0 : Int32)) hx hb d_CT_load_30 (by decide) ?_
  refine lv_istore_n (lv' := [(2, .int (0 : Int32)), (1, .int (xgi S 0 1)), (0, .ref (lay 0))]) hx hb d_CT_load_31 rfl hl (by decide) rfl (fun ls hl => ?_)
  exact k_CT_load_32 l hq C E 4096 S6 (0 : Int32) _ h H locs ls hP hS (lv_sub hl [2, 0] rfl)
theorem c_CT_load (l : Launch) (hq : l.stackTraces = false) (D : va_G) (lay : Nat → Nat) (cA : Nat → ClassId) (adK adV : Nat → Nat) (s0 : State) (S : XS)  (r : (Int32 × XS) ⊕ XS) (h : f_CT_load S  = some r) : MetX l y_CT_load (.code y_CT_load b_CT_load 3 ((Option.some Jvm.ClassFile.FieldType.int)) :: xT) rm_CT_load (xPc D lay cA adK adV s0 S [.ref (lay 0)]) (xri D lay cA r) (xrt D lay cA r) 0 0 1 6 (xI lay) := by
  refine MetX.ofW (cc := b_CT_load) (maxL := 3) (ret := (Option.some Jvm.ClassFile.FieldType.int)) (by decide +kernel) rfl ?_
  intro p e s m args below meth c s₁ B hml hv
  obtain ⟨rfl, hP, E⟩ := hv
  have C := xB_of B hml
  have hl := lv_entry ([.ref (lay 0)]) (n := 3) (Nat.le_of_ble_eq_true rfl)
  rw [lg_entry_eq]
  generalize (lg_sl ([.ref (lay 0)]) ++ List.replicate (3 - (lg_sl ([.ref (lay 0)])).length) Slot.unset).toArray = ls at hl ⊢
  exact k_CT_load l hq C E S  r h s.heap [] ls hP va_S.rf hl
/-! ConfigTexts.fault(I)I -/
def rm_CT_fault : Room := { frames := 0, cells := 0, slots := 0, locals := 0 }
theorem d_CT_fault_0 : decode b_CT_fault 0 = .ok (.iload_n 1, 1) := by decide +kernel
theorem d_CT_fault_1 : decode b_CT_fault 1 = .ok (.ifCond .ne 11, 3) := by decide +kernel
theorem d_CT_fault_4 : decode b_CT_fault 4 = .ok (.aload_n 0, 1) := by decide +kernel
theorem d_CT_fault_5 : decode b_CT_fault 5 = .ok (.getfield 22, 3) := by decide +kernel
theorem d_CT_fault_8 : decode b_CT_fault 8 = .ok (.getfield 76, 3) := by decide +kernel
theorem d_CT_fault_11 : decode b_CT_fault 11 = .ok (.ireturn, 1) := by decide +kernel
theorem d_CT_fault_12 : decode b_CT_fault 12 = .ok (.iload_n 1, 1) := by decide +kernel
theorem d_CT_fault_13 : decode b_CT_fault 13 = .ok (.iconst 1, 1) := by decide +kernel
theorem d_CT_fault_14 : decode b_CT_fault 14 = .ok (.if_icmp .ne 13, 3) := by decide +kernel
theorem d_CT_fault_17 : decode b_CT_fault 17 = .ok (.aload_n 0, 1) := by decide +kernel
theorem d_CT_fault_18 : decode b_CT_fault 18 = .ok (.getfield 22, 3) := by decide +kernel
theorem d_CT_fault_21 : decode b_CT_fault 21 = .ok (.getfield 79, 3) := by decide +kernel
theorem d_CT_fault_24 : decode b_CT_fault 24 = .ok (.goto 4, 3) := by decide +kernel
theorem d_CT_fault_27 : decode b_CT_fault 27 = .ok (.iconst (-1), 1) := by decide +kernel
theorem d_CT_fault_28 : decode b_CT_fault 28 = .ok (.ireturn, 1) := by decide +kernel
def f_CT_fault (S : XS) (a1 : Int32) : Option (Int32) :=
  if a1 = 0 then (some (xgi S 2 7)) else (if a1 = (1 : Int32) then (some (xgi S 2 8)) else (some (-1 : Int32)))
set_option maxHeartbeats 4000000 in
set_option maxRecDepth 100000 in
theorem k_CT_fault (l : Launch) {p : Program} {e : Env} {s : State} {m : MethodId} {args : Array Value} {below : List Frame} {meth : Method} {c : Code} {D : va_G} {lay : Nat → Nat} {cA : Nat → ClassId} {adK adV : Nat → Nat} {s0 : State} (C : xB p s m args meth c R_CT b_CT_fault ((Option.some Jvm.ClassFile.FieldType.int)) 2) (E : xE D lay cA adK adV s0 s s.heap) : ∀ (S : XS) (a1 : Int32) (r : Int32) (_ : f_CT_fault S a1 = some r) (H : Heap) (locs : List Loc) (ls : Array Slot), va_P D xcl (xw lay cA S) H → va_S (xI lay) s.heap H locs → lv_has ls 2 [(0, .ref (lay 0)), (1, .int a1)] → W p l e rm_CT_fault s m args below meth c H locs 0 0 (MQ below (xqi D lay cA r S) args s 0 0 (xI lay)) (F0 m 0 ls []) := by
  obtain ⟨hx, hb, hr, hml, hown, hts, hlk, hnh⟩ := id C
  have hK := E.K
  intro S a1 r h H locs ls hP hS hl
  unfold f_CT_fault at h
  refine lv_iload_n hx hb d_CT_fault_0 rfl (lv_at hl 1 rfl) ?_
  refine lv_if_ne (tgt := 12) hx hb d_CT_fault_1 (by decide) (fun c_2 => ?_) (fun c_2 => ?_)
  · have h := xif_f c_2 h
    refine lv_iload_n hx hb d_CT_fault_12 rfl (lv_at hl 1 rfl) ?_
    refine lv_iconst (v := (1 : Int32)) hx hb d_CT_fault_13 (by decide) ?_
    refine lv_icmp_ne (tgt := 27) hx hb d_CT_fault_14 (by decide) (fun c_1 => ?_) (fun c_1 => ?_)
    · have h := xif_f c_1 h
      refine lv_iconst (v := (-1 : Int32)) hx hb d_CT_fault_27 (by decide) ?_
      have h9 := Option.some.inj h
      subst h9
      exact W.iret (v := (-1 : Int32)) hx hb hr (fun t ht hW => ⟨⟨(-1 : Int32), (), rfl, rfl, by show va_P D xcl _ t.heap; rw [ht]; exact hP⟩, hS.F ht⟩) hS.2.2 d_CT_fault_28
    · have h := xif_t c_1 h
      refine lv_aload_n hx hb d_CT_fault_17 rfl (lv_at hl 0 rfl) ?_
      refine va_get (v := .ref (lay 2)) (C := R_CT) (T := F_CT) (N := 6) hx hb hts i_CT hown hK hP 0 (xw_at (by decide) (xc_0 _ _ _ _)) rfl 2 (by decide) (hts _ wd_184) (fun _ h9 => h9) rfl d_CT_fault_18 ?_
      refine va_getN (v := .int (xgi S 2 8)) (C := R_WO) (T := F_WO) (N := 9) hx hb hts i_WO hown hK hP 2 (xw_at (by decide) (xc_2 _ _ _ _)) rfl 8 (by decide) (E.nest wn_43) (fun _ h9 => h9) rfl d_CT_fault_21 ?_
      refine lv_goto (tgt := 28) hx hb d_CT_fault_24 (by decide) ?_
      have h9 := Option.some.inj h
      subst h9
      exact W.iret (v := xgi S 2 8) hx hb hr (fun t ht hW => ⟨⟨xgi S 2 8, (), rfl, rfl, by show va_P D xcl _ t.heap; rw [ht]; exact hP⟩, hS.F ht⟩) hS.2.2 d_CT_fault_28
  · have h := xif_t c_2 h
    refine lv_aload_n hx hb d_CT_fault_4 rfl (lv_at hl 0 rfl) ?_
    refine va_get (v := .ref (lay 2)) (C := R_CT) (T := F_CT) (N := 6) hx hb hts i_CT hown hK hP 0 (xw_at (by decide) (xc_0 _ _ _ _)) rfl 2 (by decide) (hts _ wd_184) (fun _ h9 => h9) rfl d_CT_fault_5 ?_
    refine va_getN (v := .int (xgi S 2 7)) (C := R_WO) (T := F_WO) (N := 9) hx hb hts i_WO hown hK hP 2 (xw_at (by decide) (xc_2 _ _ _ _)) rfl 7 (by decide) (E.nest wn_41) (fun _ h9 => h9) rfl d_CT_fault_8 ?_
    have h9 := Option.some.inj h
    subst h9
    exact W.iret (v := xgi S 2 7) hx hb hr (fun t ht hW => ⟨⟨xgi S 2 7, (), rfl, rfl, by show va_P D xcl _ t.heap; rw [ht]; exact hP⟩, hS.F ht⟩) hS.2.2 d_CT_fault_11
theorem c_CT_fault (l : Launch) (D : va_G) (lay : Nat → Nat) (cA : Nat → ClassId) (adK adV : Nat → Nat) (s0 : State) (S : XS) (a1 : Int32) (r : Int32) (h : f_CT_fault S a1 = some r) : Met l y_CT_fault (.code y_CT_fault b_CT_fault 2 ((Option.some Jvm.ClassFile.FieldType.int)) :: xT) rm_CT_fault (xPc D lay cA adK adV s0 S [.ref (lay 0), .int a1]) (xqi D lay cA r S) 0 0 (xI lay) := by
  refine Met.ofW (cc := b_CT_fault) (maxL := 2) (ret := (Option.some Jvm.ClassFile.FieldType.int)) (by decide +kernel) rfl ?_
  intro p e s m args below meth c s₁ B hml hv
  obtain ⟨rfl, hP, E⟩ := hv
  have C := xB_of B hml
  have hl := lv_entry ([.ref (lay 0), .int a1]) (n := 2) (Nat.le_of_ble_eq_true rfl)
  rw [lg_entry_eq]
  generalize (lg_sl ([.ref (lay 0), .int a1]) ++ List.replicate (2 - (lg_sl ([.ref (lay 0), .int a1])).length) Slot.unset).toArray = ls at hl ⊢
  exact k_CT_fault l C E S a1 r h s.heap [] ls hP va_S.rf hl
/-! ConfigTexts.size(I)I -/
def rm_CT_size : Room := { frames := 1, cells := 0, slots := 0, locals := 21 }
theorem d_CT_size_0 : decode b_CT_size 0 = .ok (.iload_n 1, 1) := by decide +kernel
theorem d_CT_size_1 : decode b_CT_size 1 = .ok (.ifCond .lt 8, 3) := by decide +kernel
theorem d_CT_size_4 : decode b_CT_size 4 = .ok (.iload_n 1, 1) := by decide +kernel
theorem d_CT_size_5 : decode b_CT_size 5 = .ok (.iconst 5, 1) := by decide +kernel
theorem d_CT_size_6 : decode b_CT_size 6 = .ok (.if_icmp .le 5, 3) := by decide +kernel
theorem d_CT_size_9 : decode b_CT_size 9 = .ok (.iconst (-1), 1) := by decide +kernel
theorem d_CT_size_10 : decode b_CT_size 10 = .ok (.ireturn, 1) := by decide +kernel
theorem d_CT_size_11 : decode b_CT_size 11 = .ok (.aload_n 0, 1) := by decide +kernel
theorem d_CT_size_12 : decode b_CT_size 12 = .ok (.getfield 42, 3) := by decide +kernel
theorem d_CT_size_15 : decode b_CT_size 15 = .ok (.ifCond .eq 14, 3) := by decide +kernel
theorem d_CT_size_18 : decode b_CT_size 18 = .ok (.aload_n 0, 1) := by decide +kernel
theorem d_CT_size_19 : decode b_CT_size 19 = .ok (.getfield 29, 3) := by decide +kernel
theorem d_CT_size_22 : decode b_CT_size 22 = .ok (.iload_n 1, 1) := by decide +kernel
theorem d_CT_size_23 : decode b_CT_size 23 = .ok (.invokevirtual 82, 3) := by decide +kernel
theorem d_CT_size_26 : decode b_CT_size 26 = .ok (.goto 4, 3) := by decide +kernel
theorem d_CT_size_29 : decode b_CT_size 29 = .ok (.iconst 0, 1) := by decide +kernel
theorem d_CT_size_30 : decode b_CT_size 30 = .ok (.ireturn, 1) := by decide +kernel
def f_CT_size (S : XS) (a1 : Int32) : Option (Int32) :=
  if a1 < 0 then (some (-1 : Int32)) else (if a1 ≤ (5 : Int32) then (if (xgi S 0 5) = 0 then (some (0 : Int32)) else ((f_CF_count S a1).bind fun q2 => some q2)) else (some (-1 : Int32)))
set_option maxHeartbeats 4000000 in
set_option maxRecDepth 100000 in
theorem k_CT_size (l : Launch) {p : Program} {e : Env} {s : State} {m : MethodId} {args : Array Value} {below : List Frame} {meth : Method} {c : Code} {D : va_G} {lay : Nat → Nat} {cA : Nat → ClassId} {adK adV : Nat → Nat} {s0 : State} (C : xB p s m args meth c R_CT b_CT_size ((Option.some Jvm.ClassFile.FieldType.int)) 2) (E : xE D lay cA adK adV s0 s s.heap) : ∀ (S : XS) (a1 : Int32) (r : Int32) (_ : f_CT_size S a1 = some r) (H : Heap) (locs : List Loc) (ls : Array Slot), va_P D xcl (xw lay cA S) H → va_S (xI lay) s.heap H locs → lv_has ls 2 [(0, .ref (lay 0)), (1, .int a1)] → W p l e rm_CT_size s m args below meth c H locs 0 0 (MQ below (xqi D lay cA r S) args s 0 0 (xI lay)) (F0 m 0 ls []) := by
  obtain ⟨hx, hb, hr, hml, hown, hts, hlk, hnh⟩ := id C
  have hK := E.K
  intro S a1 r h H locs ls hP hS hl
  unfold f_CT_size at h
  refine lv_iload_n hx hb d_CT_size_0 rfl (lv_at hl 1 rfl) ?_
  refine lv_if_lt (tgt := 9) hx hb d_CT_size_1 (by decide) (fun c_5 => ?_) (fun c_5 => ?_)
  · have h := xif_t c_5 h
    refine lv_iconst (v := (-1 : Int32)) hx hb d_CT_size_9 (by decide) ?_
    have h9 := Option.some.inj h
    subst h9
    exact W.iret (v := (-1 : Int32)) hx hb hr (fun t ht hW => ⟨⟨(-1 : Int32), (), rfl, rfl, by show va_P D xcl _ t.heap; rw [ht]; exact hP⟩, hS.F ht⟩) hS.2.2 d_CT_size_10
  · have h := xif_f c_5 h
    refine lv_iload_n hx hb d_CT_size_4 rfl (lv_at hl 1 rfl) ?_
    refine lv_iconst (v := (5 : Int32)) hx hb d_CT_size_5 (by decide) ?_
    refine lv_icmp_le (tgt := 11) hx hb d_CT_size_6 (by decide) (fun c_4 => ?_) (fun c_4 => ?_)
    · have h := xif_t c_4 h
      refine lv_aload_n hx hb d_CT_size_11 rfl (lv_at hl 0 rfl) ?_
      refine va_get (v := .int (xgi S 0 5)) (C := R_CT) (T := F_CT) (N := 6) hx hb hts i_CT hown hK hP 0 (xw_at (by decide) (xc_0 _ _ _ _)) rfl 5 (by decide) (hts _ wd_187) (fun _ h9 => h9) rfl d_CT_size_12 ?_
      refine lv_if_eq (tgt := 29) hx hb d_CT_size_15 (by decide) (fun c_3 => ?_) (fun c_3 => ?_)
      · have h := xif_t c_3 h
        refine lv_iconst (v := (0 : Int32)) hx hb d_CT_size_29 (by decide) ?_
        have h9 := Option.some.inj h
        subst h9
        exact W.iret (v := (0 : Int32)) hx hb hr (fun t ht hW => ⟨⟨(0 : Int32), (), rfl, rfl, by show va_P D xcl _ t.heap; rw [ht]; exact hP⟩, hS.F ht⟩) hS.2.2 d_CT_size_30
      · have h := xif_f c_3 h
        refine lv_aload_n hx hb d_CT_size_18 rfl (lv_at hl 0 rfl) ?_
        refine va_get (v := .ref (lay 3)) (C := R_CT) (T := F_CT) (N := 6) hx hb hts i_CT hown hK hP 0 (xw_at (by decide) (xc_0 _ _ _ _)) rfl 3 (by decide) (hts _ wd_185) (fun _ h9 => h9) rfl d_CT_size_19 ?_
        refine lv_iload_n hx hb d_CT_size_22 rfl (lv_at hl 1 rfl) ?_
        obtain ⟨q2, e1, h⟩ := xb h
        refine xc_i (va_runV (As := [.int a1]) (rest := []) ⟨hx, hb, hml, hown, hts⟩ (c_CF_count l D lay cA adK adV s0 S a1 q2 e1) (cwV 1 hts (xT_V wd_213 wd_214 wd_215 wd_3 wd_216) rfl rfl rfl (by decide +kernel) ⟨Nat.le_of_ble_eq_true rfl, Nat.le_of_ble_eq_true rfl⟩) (xpV E hP hS (by decide) (xc_3 _ _ _ _) rfl) rfl rfl hl.1 rfl (lv_room (Nat.le_of_ble_eq_true rfl)) d_CT_size_23 ⟨Nat.le_of_ble_eq_true rfl, Nat.le_of_ble_eq_true rfl⟩) hS (fun H locs hP hS => ?_)
        refine lv_goto (tgt := 30) hx hb d_CT_size_26 (by decide) ?_
        have h9 := Option.some.inj h
        subst h9
        exact W.iret (v := q2) hx hb hr (fun t ht hW => ⟨⟨q2, (), rfl, rfl, by show va_P D xcl _ t.heap; rw [ht]; exact hP⟩, hS.F ht⟩) hS.2.2 d_CT_size_30
    · have h := xif_f c_4 h
      refine lv_iconst (v := (-1 : Int32)) hx hb d_CT_size_9 (by decide) ?_
      have h9 := Option.some.inj h
      subst h9
      exact W.iret (v := (-1 : Int32)) hx hb hr (fun t ht hW => ⟨⟨(-1 : Int32), (), rfl, rfl, by show va_P D xcl _ t.heap; rw [ht]; exact hP⟩, hS.F ht⟩) hS.2.2 d_CT_size_10
theorem c_CT_size (l : Launch) (D : va_G) (lay : Nat → Nat) (cA : Nat → ClassId) (adK adV : Nat → Nat) (s0 : State) (S : XS) (a1 : Int32) (r : Int32) (h : f_CT_size S a1 = some r) : Met l y_CT_size (.code y_CT_size b_CT_size 2 ((Option.some Jvm.ClassFile.FieldType.int)) :: xT) rm_CT_size (xPc D lay cA adK adV s0 S [.ref (lay 0), .int a1]) (xqi D lay cA r S) 0 0 (xI lay) := by
  refine Met.ofW (cc := b_CT_size) (maxL := 2) (ret := (Option.some Jvm.ClassFile.FieldType.int)) (by decide +kernel) rfl ?_
  intro p e s m args below meth c s₁ B hml hv
  obtain ⟨rfl, hP, E⟩ := hv
  have C := xB_of B hml
  have hl := lv_entry ([.ref (lay 0), .int a1]) (n := 2) (Nat.le_of_ble_eq_true rfl)
  rw [lg_entry_eq]
  generalize (lg_sl ([.ref (lay 0), .int a1]) ++ List.replicate (2 - (lg_sl ([.ref (lay 0), .int a1])).length) Slot.unset).toArray = ls at hl ⊢
  exact k_CT_size l C E S a1 r h s.heap [] ls hP va_S.rf hl
/-! ConfigTexts.partitionAt(I)LConfigTexts$Partition; -/
def rm_CT_partitionAt : Room := { frames := 1, cells := 0, slots := 0, locals := 21 }
theorem d_CT_partitionAt_0 : decode b_CT_partitionAt 0 = .ok (.aload_n 0, 1) := by decide +kernel
theorem d_CT_partitionAt_1 : decode b_CT_partitionAt 1 = .ok (.getfield 42, 3) := by decide +kernel
theorem d_CT_partitionAt_4 : decode b_CT_partitionAt 4 = .ok (.ifCond .eq 14, 3) := by decide +kernel
theorem d_CT_partitionAt_7 : decode b_CT_partitionAt 7 = .ok (.aload_n 0, 1) := by decide +kernel
theorem d_CT_partitionAt_8 : decode b_CT_partitionAt 8 = .ok (.getfield 29, 3) := by decide +kernel
theorem d_CT_partitionAt_11 : decode b_CT_partitionAt 11 = .ok (.iload_n 1, 1) := by decide +kernel
theorem d_CT_partitionAt_12 : decode b_CT_partitionAt 12 = .ok (.invokevirtual 111, 3) := by decide +kernel
theorem d_CT_partitionAt_15 : decode b_CT_partitionAt 15 = .ok (.goto 4, 3) := by decide +kernel
theorem d_CT_partitionAt_18 : decode b_CT_partitionAt 18 = .ok (.aconst_null, 1) := by decide +kernel
theorem d_CT_partitionAt_19 : decode b_CT_partitionAt 19 = .ok (.areturn, 1) := by decide +kernel
def f_CT_partitionAt (S : XS) (a1 : Int32) : Option (Option Nat) :=
  if (xgi S 0 5) = 0 then (some none) else ((f_CF_partitionAt S a1).bind fun q2 => match q2 with | none => (some none) | some i3 => (some (some i3)))
set_option maxHeartbeats 4000000 in
set_option maxRecDepth 100000 in
theorem k_CT_partitionAt (l : Launch) {p : Program} {e : Env} {s : State} {m : MethodId} {args : Array Value} {below : List Frame} {meth : Method} {c : Code} {D : va_G} {lay : Nat → Nat} {cA : Nat → ClassId} {adK adV : Nat → Nat} {s0 : State} (C : xB p s m args meth c R_CT b_CT_partitionAt ((Option.some (Jvm.ClassFile.FieldType.object "ConfigTexts$Partition"))) 2) (E : xE D lay cA adK adV s0 s s.heap) : ∀ (S : XS) (a1 : Int32) (r : Option Nat) (_ : f_CT_partitionAt S a1 = some r) (H : Heap) (locs : List Loc) (ls : Array Slot), va_P D xcl (xw lay cA S) H → va_S (xI lay) s.heap H locs → lv_has ls 2 [(0, .ref (lay 0)), (1, .int a1)] → W p l e rm_CT_partitionAt s m args below meth c H locs 0 0 (MQ below (xqo D lay cA r S) args s 0 0 (xI lay)) (F0 m 0 ls []) := by
  obtain ⟨hx, hb, hr, hml, hown, hts, hlk, hnh⟩ := id C
  have hK := E.K
  intro S a1 r h H locs ls hP hS hl
  unfold f_CT_partitionAt at h
  refine lv_aload_n hx hb d_CT_partitionAt_0 rfl (lv_at hl 0 rfl) ?_
  refine va_get (v := .int (xgi S 0 5)) (C := R_CT) (T := F_CT) (N := 6) hx hb hts i_CT hown hK hP 0 (xw_at (by decide) (xc_0 _ _ _ _)) rfl 5 (by decide) (hts _ wd_187) (fun _ h9 => h9) rfl d_CT_partitionAt_1 ?_
  refine lv_if_eq (tgt := 18) hx hb d_CT_partitionAt_4 (by decide) (fun c_4 => ?_) (fun c_4 => ?_)
  · have h := xif_t c_4 h
    refine lv_null hx hb d_CT_partitionAt_18 ?_
    have h9 := Option.some.inj h
    subst h9
    exact W.aret (v := .null) hx hb hr (Or.inl ⟨_, rfl⟩) (Or.inl rfl) (fun t ht hW => ⟨⟨rfl, by show va_P D xcl _ t.heap; rw [ht]; exact hP⟩, hS.F ht⟩) hS.2.2 d_CT_partitionAt_19
  · have h := xif_f c_4 h
    refine lv_aload_n hx hb d_CT_partitionAt_7 rfl (lv_at hl 0 rfl) ?_
    refine va_get (v := .ref (lay 3)) (C := R_CT) (T := F_CT) (N := 6) hx hb hts i_CT hown hK hP 0 (xw_at (by decide) (xc_0 _ _ _ _)) rfl 3 (by decide) (hts _ wd_185) (fun _ h9 => h9) rfl d_CT_partitionAt_8 ?_
    refine lv_iload_n hx hb d_CT_partitionAt_11 rfl (lv_at hl 1 rfl) ?_
    obtain ⟨q2, e1, h⟩ := xb h
    refine xc_o (va_runV (As := [.int a1]) (rest := []) ⟨hx, hb, hml, hown, hts⟩ (c_CF_partitionAt l D lay cA adK adV s0 S a1 q2 e1) (cwV 1 hts (xT_V wd_225 wd_226 wd_227 wd_3 wd_228) rfl rfl rfl (by decide +kernel) ⟨Nat.le_of_ble_eq_true rfl, Nat.le_of_ble_eq_true rfl⟩) (xpV E hP hS (by decide) (xc_3 _ _ _ _) rfl) rfl rfl hl.1 rfl (lv_room (Nat.le_of_ble_eq_true rfl)) d_CT_partitionAt_12 ⟨Nat.le_of_ble_eq_true rfl, Nat.le_of_ble_eq_true rfl⟩) hS (fun H locs hP hS => ?_)
    cases q2 with
    | none =>
      dsimp only at h
      refine lv_goto (tgt := 19) hx hb d_CT_partitionAt_15 (by decide) ?_
      have h9 := Option.some.inj h
      subst h9
      exact W.aret (v := .null) hx hb hr (Or.inl ⟨_, rfl⟩) (Or.inl rfl) (fun t ht hW => ⟨⟨rfl, by show va_P D xcl _ t.heap; rw [ht]; exact hP⟩, hS.F ht⟩) hS.2.2 d_CT_partitionAt_19
    | some i3 =>
      dsimp only at h
      refine lv_goto (tgt := 19) hx hb d_CT_partitionAt_15 (by decide) ?_
      have h9 := Option.some.inj h
      subst h9
      exact W.aret (v := .ref (lay i3)) hx hb hr (Or.inl ⟨_, rfl⟩) (Or.inr ⟨_, rfl⟩) (fun t ht hW => ⟨⟨rfl, by show va_P D xcl _ t.heap; rw [ht]; exact hP⟩, hS.F ht⟩) hS.2.2 d_CT_partitionAt_19
theorem c_CT_partitionAt (l : Launch) (D : va_G) (lay : Nat → Nat) (cA : Nat → ClassId) (adK adV : Nat → Nat) (s0 : State) (S : XS) (a1 : Int32) (r : Option Nat) (h : f_CT_partitionAt S a1 = some r) : Met l y_CT_partitionAt (.code y_CT_partitionAt b_CT_partitionAt 2 ((Option.some (Jvm.ClassFile.FieldType.object "ConfigTexts$Partition"))) :: xT) rm_CT_partitionAt (xPc D lay cA adK adV s0 S [.ref (lay 0), .int a1]) (xqo D lay cA r S) 0 0 (xI lay) := by
  refine Met.ofW (cc := b_CT_partitionAt) (maxL := 2) (ret := (Option.some (Jvm.ClassFile.FieldType.object "ConfigTexts$Partition"))) (by decide +kernel) rfl ?_
  intro p e s m args below meth c s₁ B hml hv
  obtain ⟨rfl, hP, E⟩ := hv
  have C := xB_of B hml
  have hl := lv_entry ([.ref (lay 0), .int a1]) (n := 2) (Nat.le_of_ble_eq_true rfl)
  rw [lg_entry_eq]
  generalize (lg_sl ([.ref (lay 0), .int a1]) ++ List.replicate (2 - (lg_sl ([.ref (lay 0), .int a1])).length) Slot.unset).toArray = ls at hl ⊢
  exact k_CT_partitionAt l C E S a1 r h s.heap [] ls hP va_S.rf hl
/-! ConfigTexts.partition(II)I -/
def rm_CT_partition : Room := { frames := 2, cells := 0, slots := 0, locals := 42 }
theorem d_CT_partition_0 : decode b_CT_partition 0 = .ok (.aload_n 0, 1) := by decide +kernel
theorem d_CT_partition_1 : decode b_CT_partition 1 = .ok (.iload_n 1, 1) := by decide +kernel
theorem d_CT_partition_2 : decode b_CT_partition 2 = .ok (.invokevirtual 86, 3) := by decide +kernel
theorem d_CT_partition_5 : decode b_CT_partition 5 = .ok (.astore_n 3, 1) := by decide +kernel
theorem d_CT_partition_6 : decode b_CT_partition 6 = .ok (.aload_n 3, 1) := by decide +kernel
theorem d_CT_partition_7 : decode b_CT_partition 7 = .ok (.ifnonnull 7, 3) := by decide +kernel
theorem d_CT_partition_10 : decode b_CT_partition 10 = .ok (.iconst (-1), 1) := by decide +kernel
theorem d_CT_partition_11 : decode b_CT_partition 11 = .ok (.goto 8, 3) := by decide +kernel
theorem d_CT_partition_14 : decode b_CT_partition 14 = .ok (.aload_n 3, 1) := by decide +kernel
theorem d_CT_partition_15 : decode b_CT_partition 15 = .ok (.iload_n 2, 1) := by decide +kernel
theorem d_CT_partition_16 : decode b_CT_partition 16 = .ok (.invokevirtual 90, 3) := by decide +kernel
theorem d_CT_partition_19 : decode b_CT_partition 19 = .ok (.ireturn, 1) := by decide +kernel
def f_CT_partition (S : XS) (a1 : Int32) (a2 : Int32) : Option (Int32) :=
  (f_CT_partitionAt S a1).bind fun q2 => match q2 with | none => (some (-1 : Int32)) | some i3 => (if xP i3 then ((f_PA_get S i3 a2).bind fun q6 => some q6) else none)
set_option maxHeartbeats 4000000 in
set_option maxRecDepth 100000 in
theorem k_CT_partition (l : Launch) {p : Program} {e : Env} {s : State} {m : MethodId} {args : Array Value} {below : List Frame} {meth : Method} {c : Code} {D : va_G} {lay : Nat → Nat} {cA : Nat → ClassId} {adK adV : Nat → Nat} {s0 : State} (C : xB p s m args meth c R_CT b_CT_partition ((Option.some Jvm.ClassFile.FieldType.int)) 4) (E : xE D lay cA adK adV s0 s s.heap) : ∀ (S : XS) (a1 : Int32) (a2 : Int32) (r : Int32) (_ : f_CT_partition S a1 a2 = some r) (H : Heap) (locs : List Loc) (ls : Array Slot), va_P D xcl (xw lay cA S) H → va_S (xI lay) s.heap H locs → lv_has ls 4 [(0, .ref (lay 0)), (1, .int a1), (2, .int a2)] → W p l e rm_CT_partition s m args below meth c H locs 0 0 (MQ below (xqi D lay cA r S) args s 0 0 (xI lay)) (F0 m 0 ls []) := by
  obtain ⟨hx, hb, hr, hml, hown, hts, hlk, hnh⟩ := id C
  have hK := E.K
  intro S a1 a2 r h H locs ls hP hS hl
  unfold f_CT_partition at h
  refine lv_aload_n hx hb d_CT_partition_0 rfl (lv_at hl 0 rfl) ?_
  refine lv_iload_n hx hb d_CT_partition_1 rfl (lv_at hl 1 rfl) ?_
  obtain ⟨q2, e1, h⟩ := xb h
  refine xc_o (va_runV (As := [.int a1]) (rest := []) ⟨hx, hb, hml, hown, hts⟩ (c_CT_partitionAt l D lay cA adK adV s0 S a1 q2 e1) (cwV 1 hts (xT_V wd_221 wd_223 wp_0 wd_1 wd_224) rfl rfl rfl (by decide +kernel) ⟨Nat.le_of_ble_eq_true rfl, Nat.le_of_ble_eq_true rfl⟩) (xpV E hP hS (by decide) (xc_0 _ _ _ _) rfl) rfl rfl hl.1 rfl (lv_room (Nat.le_of_ble_eq_true rfl)) d_CT_partition_2 ⟨Nat.le_of_ble_eq_true rfl, Nat.le_of_ble_eq_true rfl⟩) hS (fun H locs hP hS => ?_)
  cases q2 with
  | none =>
    dsimp only at h
    refine lv_astore_nN (lv' := [(3, .null), (0, .ref (lay 0)), (1, .int a1), (2, .int a2)]) hx hb d_CT_partition_5 rfl hl (by decide) rfl (fun ls hl => ?_)
    refine lv_aload_nN hx hb d_CT_partition_6 rfl (lv_at hl 0 rfl) ?_
    refine lv_ifnonnullN hx hb d_CT_partition_7 ?_
    refine lv_iconst (v := (-1 : Int32)) hx hb d_CT_partition_10 (by decide) ?_
    refine lv_goto (tgt := 19) hx hb d_CT_partition_11 (by decide) ?_
    have h9 := Option.some.inj h
    subst h9
    exact W.iret (v := (-1 : Int32)) hx hb hr (fun t ht hW => ⟨⟨(-1 : Int32), (), rfl, rfl, by show va_P D xcl _ t.heap; rw [ht]; exact hP⟩, hS.F ht⟩) hS.2.2 d_CT_partition_19
  | some i3 =>
    dsimp only at h
    refine lv_astore_n (lv' := [(3, .ref (lay i3)), (0, .ref (lay 0)), (1, .int a1), (2, .int a2)]) hx hb d_CT_partition_5 rfl hl (by decide) rfl (fun ls hl => ?_)
    refine lv_aload_n hx hb d_CT_partition_6 rfl (lv_at hl 0 rfl) ?_
    refine lv_ifnonnull (tgt := 14) hx hb d_CT_partition_7 (by decide) ?_
    refine lv_aload_n hx hb d_CT_partition_14 rfl (lv_at hl 0 rfl) ?_
    refine lv_iload_n hx hb d_CT_partition_15 rfl (lv_at hl 3 rfl) ?_
    obtain ⟨hk4, h⟩ := xg h
    obtain ⟨q6, e5, h⟩ := xb h
    refine xc_i (va_runV (As := [.int a2]) (rest := []) ⟨hx, hb, hml, hown, hts⟩ (c_PA_get l D lay cA adK adV s0 S i3 a2 q6 e5) (cwV 1 hts (xT_V wd_229 wd_230 wd_231 wd_4 wd_232) rfl rfl rfl (by decide +kernel) ⟨Nat.le_of_ble_eq_true rfl, Nat.le_of_ble_eq_true rfl⟩) (xpV E hP hS (xP_lt hk4).1 (xc_PA _ _ _ _ hk4) rfl) rfl rfl hl.1 rfl (lv_room (Nat.le_of_ble_eq_true rfl)) d_CT_partition_16 ⟨Nat.le_of_ble_eq_true rfl, Nat.le_of_ble_eq_true rfl⟩) hS (fun H locs hP hS => ?_)
    have h9 := Option.some.inj h
    subst h9
    exact W.iret (v := q6) hx hb hr (fun t ht hW => ⟨⟨q6, (), rfl, rfl, by show va_P D xcl _ t.heap; rw [ht]; exact hP⟩, hS.F ht⟩) hS.2.2 d_CT_partition_19
theorem c_CT_partition (l : Launch) (D : va_G) (lay : Nat → Nat) (cA : Nat → ClassId) (adK adV : Nat → Nat) (s0 : State) (S : XS) (a1 : Int32) (a2 : Int32) (r : Int32) (h : f_CT_partition S a1 a2 = some r) : Met l y_CT_partition (.code y_CT_partition b_CT_partition 4 ((Option.some Jvm.ClassFile.FieldType.int)) :: xT) rm_CT_partition (xPc D lay cA adK adV s0 S [.ref (lay 0), .int a1, .int a2]) (xqi D lay cA r S) 0 0 (xI lay) := by
  refine Met.ofW (cc := b_CT_partition) (maxL := 4) (ret := (Option.some Jvm.ClassFile.FieldType.int)) (by decide +kernel) rfl ?_
  intro p e s m args below meth c s₁ B hml hv
  obtain ⟨rfl, hP, E⟩ := hv
  have C := xB_of B hml
  have hl := lv_entry ([.ref (lay 0), .int a1, .int a2]) (n := 4) (Nat.le_of_ble_eq_true rfl)
  rw [lg_entry_eq]
  generalize (lg_sl ([.ref (lay 0), .int a1, .int a2]) ++ List.replicate (4 - (lg_sl ([.ref (lay 0), .int a1, .int a2])).length) Slot.unset).toArray = ls at hl ⊢
  exact k_CT_partition l C E S a1 a2 r h s.heap [] ls hP va_S.rf hl
/-! ConfigTexts.numberOf(IIII)I -/
def rm_CT_numberOf : Room := { frames := 2, cells := 0, slots := 0, locals := 44 }
theorem d_CT_numberOf_0 : decode b_CT_numberOf 0 = .ok (.aload_n 0, 1) := by decide +kernel
theorem d_CT_numberOf_1 : decode b_CT_numberOf 1 = .ok (.iload_n 1, 1) := by decide +kernel
theorem d_CT_numberOf_2 : decode b_CT_numberOf 2 = .ok (.invokevirtual 86, 3) := by decide +kernel
theorem d_CT_numberOf_5 : decode b_CT_numberOf 5 = .ok (.astore 5, 2) := by decide +kernel
theorem d_CT_numberOf_7 : decode b_CT_numberOf 7 = .ok (.aload 5, 2) := by decide +kernel
theorem d_CT_numberOf_9 : decode b_CT_numberOf 9 = .ok (.ifnonnull 7, 3) := by decide +kernel
theorem d_CT_numberOf_12 : decode b_CT_numberOf 12 = .ok (.iconst (-1), 1) := by decide +kernel
theorem d_CT_numberOf_13 : decode b_CT_numberOf 13 = .ok (.goto 16, 3) := by decide +kernel
theorem d_CT_numberOf_16 : decode b_CT_numberOf 16 = .ok (.aload 5, 2) := by decide +kernel
theorem d_CT_numberOf_18 : decode b_CT_numberOf 18 = .ok (.getfield 112, 3) := by decide +kernel
theorem d_CT_numberOf_21 : decode b_CT_numberOf 21 = .ok (.iload_n 2, 1) := by decide +kernel
theorem d_CT_numberOf_22 : decode b_CT_numberOf 22 = .ok (.aaload, 1) := by decide +kernel
theorem d_CT_numberOf_23 : decode b_CT_numberOf 23 = .ok (.iload_n 3, 1) := by decide +kernel
theorem d_CT_numberOf_24 : decode b_CT_numberOf 24 = .ok (.iload 4, 2) := by decide +kernel
theorem d_CT_numberOf_26 : decode b_CT_numberOf 26 = .ok (.invokevirtual 103, 3) := by decide +kernel
theorem d_CT_numberOf_29 : decode b_CT_numberOf 29 = .ok (.ireturn, 1) := by decide +kernel
def f_CT_numberOf (S : XS) (a1 : Int32) (a2 : Int32) (a3 : Int32) (a4 : Int32) : Option (Int32) :=
  (f_CT_partitionAt S a1).bind fun q2 => match q2 with | none => (some (-1 : Int32)) | some i3 => (if xP i3 then (if ¬ (a2 < 0 ∨ 6 ≤ a2.toNatClampNeg) then (if xR (i3 + 2 + 1 + 3 * a2.toNatClampNeg) then ((f_RO_get S (i3 + 2 + 1 + 3 * a2.toNatClampNeg) a3 a4).bind fun q8 => some q8) else none) else none) else none)
set_option maxHeartbeats 4000000 in
set_option maxRecDepth 100000 in
theorem k_CT_numberOf (l : Launch) {p : Program} {e : Env} {s : State} {m : MethodId} {args : Array Value} {below : List Frame} {meth : Method} {c : Code} {D : va_G} {lay : Nat → Nat} {cA : Nat → ClassId} {adK adV : Nat → Nat} {s0 : State} (C : xB p s m args meth c R_CT b_CT_numberOf ((Option.some Jvm.ClassFile.FieldType.int)) 6) (E : xE D lay cA adK adV s0 s s.heap) : ∀ (S : XS) (a1 : Int32) (a2 : Int32) (a3 : Int32) (a4 : Int32) (r : Int32) (_ : f_CT_numberOf S a1 a2 a3 a4 = some r) (H : Heap) (locs : List Loc) (ls : Array Slot), va_P D xcl (xw lay cA S) H → va_S (xI lay) s.heap H locs → lv_has ls 6 [(0, .ref (lay 0)), (1, .int a1), (2, .int a2), (3, .int a3), (4, .int a4)] → W p l e rm_CT_numberOf s m args below meth c H locs 0 0 (MQ below (xqi D lay cA r S) args s 0 0 (xI lay)) (F0 m 0 ls []) := by
  obtain ⟨hx, hb, hr, hml, hown, hts, hlk, hnh⟩ := id C
  have hK := E.K
  intro S a1 a2 a3 a4 r h H locs ls hP hS hl
  unfold f_CT_numberOf at h
  refine lv_aload_n hx hb d_CT_numberOf_0 rfl (lv_at hl 0 rfl) ?_
  refine lv_iload_n hx hb d_CT_numberOf_1 rfl (lv_at hl 1 rfl) ?_
  obtain ⟨q2, e1, h⟩ := xb h
  refine xc_o (va_runV (As := [.int a1]) (rest := []) ⟨hx, hb, hml, hown, hts⟩ (c_CT_partitionAt l D lay cA adK adV s0 S a1 q2 e1) (cwV 1 hts (xT_V wd_221 wd_223 wp_0 wd_1 wd_224) rfl rfl rfl (by decide +kernel) ⟨Nat.le_of_ble_eq_true rfl, Nat.le_of_ble_eq_true rfl⟩) (xpV E hP hS (by decide) (xc_0 _ _ _ _) rfl) rfl rfl hl.1 rfl (lv_room (Nat.le_of_ble_eq_true rfl)) d_CT_numberOf_2 ⟨Nat.le_of_ble_eq_true rfl, Nat.le_of_ble_eq_true rfl⟩) hS (fun H locs hP hS => ?_)
  cases q2 with
  | none =>
    dsimp only at h
    refine lv_astoreN (lv' := [(5, .null), (0, .ref (lay 0)), (1, .int a1), (2, .int a2), (3, .int a3), (4, .int a4)]) hx hb d_CT_numberOf_5 hl (by decide) rfl (fun ls hl => ?_)
    refine lv_aloadN hx hb d_CT_numberOf_7 (lv_at hl 0 rfl) ?_
    refine lv_ifnonnullN hx hb d_CT_numberOf_9 ?_
    refine lv_iconst (v := (-1 : Int32)) hx hb d_CT_numberOf_12 (by decide) ?_
    refine lv_goto (tgt := 29) hx hb d_CT_numberOf_13 (by decide) ?_
    have h9 := Option.some.inj h
    subst h9
    exact W.iret (v := (-1 : Int32)) hx hb hr (fun t ht hW => ⟨⟨(-1 : Int32), (), rfl, rfl, by show va_P D xcl _ t.heap; rw [ht]; exact hP⟩, hS.F ht⟩) hS.2.2 d_CT_numberOf_29
  | some i3 =>
    dsimp only at h
    refine lv_astore (lv' := [(5, .ref (lay i3)), (0, .ref (lay 0)), (1, .int a1), (2, .int a2), (3, .int a3), (4, .int a4)]) hx hb d_CT_numberOf_5 hl (by decide) rfl (fun ls hl => ?_)
    refine lv_aload hx hb d_CT_numberOf_7 (lv_at hl 0 rfl) ?_
    refine lv_ifnonnull (tgt := 16) hx hb d_CT_numberOf_9 (by decide) ?_
    refine lv_aload hx hb d_CT_numberOf_16 (lv_at hl 0 rfl) ?_
    obtain ⟨hk4, h⟩ := xg h
    refine va_getN (v := .ref (lay (i3 + 2))) (C := R_PA) (T := F_PA) (N := 5) hx hb hts i_PA hown hK hP i3 (xw_at (xP_lt hk4).1 (xc_PA _ _ _ _ hk4)) rfl 4 (by decide) (E.nest wn_118) (fun _ h9 => h9) rfl d_CT_numberOf_18 ?_
    refine lv_iload_n hx hb d_CT_numberOf_21 rfl (lv_at hl 3 rfl) ?_
    obtain ⟨hg5, h⟩ := xg h
    refine xal_PAT hx hb E hP hk4 hg5 d_CT_numberOf_22 ?_
    refine lv_iload_n hx hb d_CT_numberOf_23 rfl (lv_at hl 4 rfl) ?_
    refine lv_iload hx hb d_CT_numberOf_24 (lv_at hl 5 rfl) ?_
    obtain ⟨hk6, h⟩ := xg h
    obtain ⟨q8, e7, h⟩ := xb h
    refine xc_i (va_runV (As := [.int a3, .int a4]) (rest := []) ⟨hx, hb, hml, hown, hts⟩ (c_RO_get l D lay cA adK adV s0 S (i3 + 2 + 1 + 3 * a2.toNatClampNeg) a3 a4 q8 e7) (cwV 2 hts (xT_V wd_241 wd_242 wd_243 wd_5 wd_244) rfl rfl rfl (by decide +kernel) ⟨Nat.le_of_ble_eq_true rfl, Nat.le_of_ble_eq_true rfl⟩) (xpV E hP hS (xR_lt hk6).1 (xc_RO _ _ _ _ hk6) rfl) rfl rfl hl.1 rfl (lv_room (Nat.le_of_ble_eq_true rfl)) d_CT_numberOf_26 ⟨Nat.le_of_ble_eq_true rfl, Nat.le_of_ble_eq_true rfl⟩) hS (fun H locs hP hS => ?_)
    have h9 := Option.some.inj h
    subst h9
    exact W.iret (v := q8) hx hb hr (fun t ht hW => ⟨⟨q8, (), rfl, rfl, by show va_P D xcl _ t.heap; rw [ht]; exact hP⟩, hS.F ht⟩) hS.2.2 d_CT_numberOf_29
theorem c_CT_numberOf (l : Launch) (D : va_G) (lay : Nat → Nat) (cA : Nat → ClassId) (adK adV : Nat → Nat) (s0 : State) (S : XS) (a1 : Int32) (a2 : Int32) (a3 : Int32) (a4 : Int32) (r : Int32) (h : f_CT_numberOf S a1 a2 a3 a4 = some r) : Met l y_CT_numberOf (.code y_CT_numberOf b_CT_numberOf 6 ((Option.some Jvm.ClassFile.FieldType.int)) :: xT) rm_CT_numberOf (xPc D lay cA adK adV s0 S [.ref (lay 0), .int a1, .int a2, .int a3, .int a4]) (xqi D lay cA r S) 0 0 (xI lay) := by
  refine Met.ofW (cc := b_CT_numberOf) (maxL := 6) (ret := (Option.some Jvm.ClassFile.FieldType.int)) (by decide +kernel) rfl ?_
  intro p e s m args below meth c s₁ B hml hv
  obtain ⟨rfl, hP, E⟩ := hv
  have C := xB_of B hml
  have hl := lv_entry ([.ref (lay 0), .int a1, .int a2, .int a3, .int a4]) (n := 6) (Nat.le_of_ble_eq_true rfl)
  rw [lg_entry_eq]
  generalize (lg_sl ([.ref (lay 0), .int a1, .int a2, .int a3, .int a4]) ++ List.replicate (6 - (lg_sl ([.ref (lay 0), .int a1, .int a2, .int a3, .int a4])).length) Slot.unset).toArray = ls at hl ⊢
  exact k_CT_numberOf l C E S a1 a2 a3 a4 r h s.heap [] ls hP va_S.rf hl
/-! ConfigTexts.process(III)I -/
def rm_CT_process : Room := { frames := 3, cells := 0, slots := 0, locals := 69 }
theorem d_CT_process_0 : decode b_CT_process 0 = .ok (.aload_n 0, 1) := by decide +kernel
theorem d_CT_process_1 : decode b_CT_process 1 = .ok (.iload_n 1, 1) := by decide +kernel
theorem d_CT_process_2 : decode b_CT_process 2 = .ok (.iconst 0, 1) := by decide +kernel
theorem d_CT_process_3 : decode b_CT_process 3 = .ok (.iload_n 2, 1) := by decide +kernel
theorem d_CT_process_4 : decode b_CT_process 4 = .ok (.iload_n 3, 1) := by decide +kernel
theorem d_CT_process_5 : decode b_CT_process 5 = .ok (.invokevirtual 95, 3) := by decide +kernel
theorem d_CT_process_8 : decode b_CT_process 8 = .ok (.ireturn, 1) := by decide +kernel
def f_CT_process (S : XS) (a1 : Int32) (a2 : Int32) (a3 : Int32) : Option (Int32) :=
  (f_CT_numberOf S a1 (0 : Int32) a2 a3).bind fun q2 => some q2
set_option maxHeartbeats 4000000 in
set_option maxRecDepth 100000 in
theorem k_CT_process (l : Launch) {p : Program} {e : Env} {s : State} {m : MethodId} {args : Array Value} {below : List Frame} {meth : Method} {c : Code} {D : va_G} {lay : Nat → Nat} {cA : Nat → ClassId} {adK adV : Nat → Nat} {s0 : State} (C : xB p s m args meth c R_CT b_CT_process ((Option.some Jvm.ClassFile.FieldType.int)) 4) (E : xE D lay cA adK adV s0 s s.heap) : ∀ (S : XS) (a1 : Int32) (a2 : Int32) (a3 : Int32) (r : Int32) (_ : f_CT_process S a1 a2 a3 = some r) (H : Heap) (locs : List Loc) (ls : Array Slot), va_P D xcl (xw lay cA S) H → va_S (xI lay) s.heap H locs → lv_has ls 4 [(0, .ref (lay 0)), (1, .int a1), (2, .int a2), (3, .int a3)] → W p l e rm_CT_process s m args below meth c H locs 0 0 (MQ below (xqi D lay cA r S) args s 0 0 (xI lay)) (F0 m 0 ls []) := by
  obtain ⟨hx, hb, hr, hml, hown, hts, hlk, hnh⟩ := id C
  have hK := E.K
  intro S a1 a2 a3 r h H locs ls hP hS hl
  unfold f_CT_process at h
  refine lv_aload_n hx hb d_CT_process_0 rfl (lv_at hl 0 rfl) ?_
  refine lv_iload_n hx hb d_CT_process_1 rfl (lv_at hl 1 rfl) ?_
  refine lv_iconst (v := (0 : Int32)) hx hb d_CT_process_2 (by decide) ?_
  refine lv_iload_n hx hb d_CT_process_3 rfl (lv_at hl 2 rfl) ?_
  refine lv_iload_n hx hb d_CT_process_4 rfl (lv_at hl 3 rfl) ?_
  obtain ⟨q2, e1, h⟩ := xb h
  refine xc_i (va_runV (As := [.int a1, .int (0 : Int32), .int a2, .int a3]) (rest := []) ⟨hx, hb, hml, hown, hts⟩ (c_CT_numberOf l D lay cA adK adV s0 S a1 (0 : Int32) a2 a3 q2 e1) (cwV 4 hts (xT_V wd_237 wd_239 wp_1 wd_1 wd_240) rfl rfl rfl (by decide +kernel) ⟨Nat.le_of_ble_eq_true rfl, Nat.le_of_ble_eq_true rfl⟩) (xpV E hP hS (by decide) (xc_0 _ _ _ _) rfl) rfl rfl hl.1 rfl (lv_room (Nat.le_of_ble_eq_true rfl)) d_CT_process_5 ⟨Nat.le_of_ble_eq_true rfl, Nat.le_of_ble_eq_true rfl⟩) hS (fun H locs hP hS => ?_)
  have h9 := Option.some.inj h
  subst h9
  exact W.iret (v := q2) hx hb hr (fun t ht hW => ⟨⟨q2, (), rfl, rfl, by show va_P D xcl _ t.heap; rw [ht]; exact hP⟩, hS.F ht⟩) hS.2.2 d_CT_process_8
theorem c_CT_process (l : Launch) (D : va_G) (lay : Nat → Nat) (cA : Nat → ClassId) (adK adV : Nat → Nat) (s0 : State) (S : XS) (a1 : Int32) (a2 : Int32) (a3 : Int32) (r : Int32) (h : f_CT_process S a1 a2 a3 = some r) : Met l y_CT_process (.code y_CT_process b_CT_process 4 ((Option.some Jvm.ClassFile.FieldType.int)) :: xT) rm_CT_process (xPc D lay cA adK adV s0 S [.ref (lay 0), .int a1, .int a2, .int a3]) (xqi D lay cA r S) 0 0 (xI lay) := by
  refine Met.ofW (cc := b_CT_process) (maxL := 4) (ret := (Option.some Jvm.ClassFile.FieldType.int)) (by decide +kernel) rfl ?_
  intro p e s m args below meth c s₁ B hml hv
  obtain ⟨rfl, hP, E⟩ := hv
  have C := xB_of B hml
  have hl := lv_entry ([.ref (lay 0), .int a1, .int a2, .int a3]) (n := 4) (Nat.le_of_ble_eq_true rfl)
  rw [lg_entry_eq]
  generalize (lg_sl ([.ref (lay 0), .int a1, .int a2, .int a3]) ++ List.replicate (4 - (lg_sl ([.ref (lay 0), .int a1, .int a2, .int a3])).length) Slot.unset).toArray = ls at hl ⊢
  exact k_CT_process l C E S a1 a2 a3 r h s.heap [] ls hP va_S.rf hl
/-! ConfigTexts.thing(IIII)I -/
def rm_CT_thing : Room := { frames := 3, cells := 0, slots := 0, locals := 69 }
theorem d_CT_thing_0 : decode b_CT_thing 0 = .ok (.iload_n 2, 1) := by decide +kernel
theorem d_CT_thing_1 : decode b_CT_thing 1 = .ok (.tableswitch 57 0 2 #[27, 37, 47], 27) := by decide +kernel
theorem d_CT_thing_28 : decode b_CT_thing 28 = .ok (.aload_n 0, 1) := by decide +kernel
theorem d_CT_thing_29 : decode b_CT_thing 29 = .ok (.iload_n 1, 1) := by decide +kernel
theorem d_CT_thing_30 : decode b_CT_thing 30 = .ok (.iconst 1, 1) := by decide +kernel
theorem d_CT_thing_31 : decode b_CT_thing 31 = .ok (.iload_n 3, 1) := by decide +kernel
theorem d_CT_thing_32 : decode b_CT_thing 32 = .ok (.iload 4, 2) := by decide +kernel
theorem d_CT_thing_34 : decode b_CT_thing 34 = .ok (.invokevirtual 95, 3) := by decide +kernel
theorem d_CT_thing_37 : decode b_CT_thing 37 = .ok (.ireturn, 1) := by decide +kernel
theorem d_CT_thing_38 : decode b_CT_thing 38 = .ok (.aload_n 0, 1) := by decide +kernel
theorem d_CT_thing_39 : decode b_CT_thing 39 = .ok (.iload_n 1, 1) := by decide +kernel
theorem d_CT_thing_40 : decode b_CT_thing 40 = .ok (.iconst 3, 1) := by decide +kernel
theorem d_CT_thing_41 : decode b_CT_thing 41 = .ok (.iload_n 3, 1) := by decide +kernel
theorem d_CT_thing_42 : decode b_CT_thing 42 = .ok (.iload 4, 2) := by decide +kernel
theorem d_CT_thing_44 : decode b_CT_thing 44 = .ok (.invokevirtual 95, 3) := by decide +kernel
theorem d_CT_thing_47 : decode b_CT_thing 47 = .ok (.ireturn, 1) := by decide +kernel
theorem d_CT_thing_48 : decode b_CT_thing 48 = .ok (.aload_n 0, 1) := by decide +kernel
theorem d_CT_thing_49 : decode b_CT_thing 49 = .ok (.iload_n 1, 1) := by decide +kernel
theorem d_CT_thing_50 : decode b_CT_thing 50 = .ok (.iconst 5, 1) := by decide +kernel
theorem d_CT_thing_51 : decode b_CT_thing 51 = .ok (.iload_n 3, 1) := by decide +kernel
theorem d_CT_thing_52 : decode b_CT_thing 52 = .ok (.iload 4, 2) := by decide +kernel
theorem d_CT_thing_54 : decode b_CT_thing 54 = .ok (.invokevirtual 95, 3) := by decide +kernel
theorem d_CT_thing_57 : decode b_CT_thing 57 = .ok (.ireturn, 1) := by decide +kernel
theorem d_CT_thing_58 : decode b_CT_thing 58 = .ok (.iconst (-1), 1) := by decide +kernel
theorem d_CT_thing_59 : decode b_CT_thing 59 = .ok (.ireturn, 1) := by decide +kernel
def f_CT_thing (S : XS) (a1 : Int32) (a2 : Int32) (a3 : Int32) (a4 : Int32) : Option (Int32) :=
  if a2 = 0 then ((f_CT_numberOf S a1 (1 : Int32) a3 a4).bind fun q2 => some q2) else (if a2 = 1 then ((f_CT_numberOf S a1 (3 : Int32) a3 a4).bind fun q5 => some q5) else (if a2 = 2 then ((f_CT_numberOf S a1 (5 : Int32) a3 a4).bind fun q8 => some q8) else (some (-1 : Int32))))
set_option maxHeartbeats 4000000 in
set_option maxRecDepth 100000 in
theorem k_CT_thing (l : Launch) {p : Program} {e : Env} {s : State} {m : MethodId} {args : Array Value} {below : List Frame} {meth : Method} {c : Code} {D : va_G} {lay : Nat → Nat} {cA : Nat → ClassId} {adK adV : Nat → Nat} {s0 : State} (C : xB p s m args meth c R_CT b_CT_thing ((Option.some Jvm.ClassFile.FieldType.int)) 5) (E : xE D lay cA adK adV s0 s s.heap) : ∀ (S : XS) (a1 : Int32) (a2 : Int32) (a3 : Int32) (a4 : Int32) (r : Int32) (_ : f_CT_thing S a1 a2 a3 a4 = some r) (H : Heap) (locs : List Loc) (ls : Array Slot), va_P D xcl (xw lay cA S) H → va_S (xI lay) s.heap H locs → lv_has ls 5 [(0, .ref (lay 0)), (1, .int a1), (2, .int a2), (3, .int a3), (4, .int a4)] → W p l e rm_CT_thing s m args below meth c H locs 0 0 (MQ below (xqi D lay cA r S) args s 0 0 (xI lay)) (F0 m 0 ls []) := by
  obtain ⟨hx, hb, hr, hml, hown, hts, hlk, hnh⟩ := id C
  have hK := E.K
  intro S a1 a2 a3 a4 r h H locs ls hP hS hl
  unfold f_CT_thing at h
  refine lv_iload_n hx hb d_CT_thing_0 rfl (lv_at hl 2 rfl) ?_
  by_cases c_3 : a2 = 0
  · have h := xif_t c_3 h
    refine lv_tableIn (off := 27) (tgt := 28) hx hb d_CT_thing_1 (by rw [c_3]; decide) (by rw [c_3]; decide) (by rw [c_3]; decide) (by decide) ?_
    refine lv_aload_n hx hb d_CT_thing_28 rfl (lv_at hl 0 rfl) ?_
    refine lv_iload_n hx hb d_CT_thing_29 rfl (lv_at hl 1 rfl) ?_
    refine lv_iconst (v := (1 : Int32)) hx hb d_CT_thing_30 (by decide) ?_
    refine lv_iload_n hx hb d_CT_thing_31 rfl (lv_at hl 3 rfl) ?_
    refine lv_iload hx hb d_CT_thing_32 (lv_at hl 4 rfl) ?_
    obtain ⟨q2, e1, h⟩ := xb h
    refine xc_i (va_runV (As := [.int a1, .int (1 : Int32), .int a3, .int a4]) (rest := []) ⟨hx, hb, hml, hown, hts⟩ (c_CT_numberOf l D lay cA adK adV s0 S a1 (1 : Int32) a3 a4 q2 e1) (cwV 4 hts (xT_V wd_237 wd_239 wp_1 wd_1 wd_240) rfl rfl rfl (by decide +kernel) ⟨Nat.le_of_ble_eq_true rfl, Nat.le_of_ble_eq_true rfl⟩) (xpV E hP hS (by decide) (xc_0 _ _ _ _) rfl) rfl rfl hl.1 rfl (lv_room (Nat.le_of_ble_eq_true rfl)) d_CT_thing_34 ⟨Nat.le_of_ble_eq_true rfl, Nat.le_of_ble_eq_true rfl⟩) hS (fun H locs hP hS => ?_)
    have h9 := Option.some.inj h
    subst h9
    exact W.iret (v := q2) hx hb hr (fun t ht hW => ⟨⟨q2, (), rfl, rfl, by show va_P D xcl _ t.heap; rw [ht]; exact hP⟩, hS.F ht⟩) hS.2.2 d_CT_thing_37
  · have h := xif_f c_3 h
    by_cases c_6 : a2 = 1
    · have h := xif_t c_6 h
      refine lv_tableIn (off := 37) (tgt := 38) hx hb d_CT_thing_1 (by rw [c_6]; decide) (by rw [c_6]; decide) (by rw [c_6]; decide) (by decide) ?_
      refine lv_aload_n hx hb d_CT_thing_38 rfl (lv_at hl 0 rfl) ?_
      refine lv_iload_n hx hb d_CT_thing_39 rfl (lv_at hl 1 rfl) ?_
      refine lv_iconst (v := (3 : Int32)) hx hb d_CT_thing_40 (by decide) ?_
      refine lv_iload_n hx hb d_CT_thing_41 rfl (lv_at hl 3 rfl) ?_
      refine lv_iload hx hb d_CT_thing_42 (lv_at hl 4 rfl) ?_
      obtain ⟨q5, e4, h⟩ := xb h
      refine xc_i (va_runV (As := [.int a1, .int (3 : Int32), .int a3, .int a4]) (rest := []) ⟨hx, hb, hml, hown, hts⟩ (c_CT_numberOf l D lay cA adK adV s0 S a1 (3 : Int32) a3 a4 q5 e4) (cwV 4 hts (xT_V wd_237 wd_239 wp_1 wd_1 wd_240) rfl rfl rfl (by decide +kernel) ⟨Nat.le_of_ble_eq_true rfl, Nat.le_of_ble_eq_true rfl⟩) (xpV E hP hS (by decide) (xc_0 _ _ _ _) rfl) rfl rfl hl.1 rfl (lv_room (Nat.le_of_ble_eq_true rfl)) d_CT_thing_44 ⟨Nat.le_of_ble_eq_true rfl, Nat.le_of_ble_eq_true rfl⟩) hS (fun H locs hP hS => ?_)
      have h9 := Option.some.inj h
      subst h9
      exact W.iret (v := q5) hx hb hr (fun t ht hW => ⟨⟨q5, (), rfl, rfl, by show va_P D xcl _ t.heap; rw [ht]; exact hP⟩, hS.F ht⟩) hS.2.2 d_CT_thing_47
    · have h := xif_f c_6 h
      by_cases c_9 : a2 = 2
      · have h := xif_t c_9 h
        refine lv_tableIn (off := 47) (tgt := 48) hx hb d_CT_thing_1 (by rw [c_9]; decide) (by rw [c_9]; decide) (by rw [c_9]; decide) (by decide) ?_
        refine lv_aload_n hx hb d_CT_thing_48 rfl (lv_at hl 0 rfl) ?_
        refine lv_iload_n hx hb d_CT_thing_49 rfl (lv_at hl 1 rfl) ?_
        refine lv_iconst (v := (5 : Int32)) hx hb d_CT_thing_50 (by decide) ?_
        refine lv_iload_n hx hb d_CT_thing_51 rfl (lv_at hl 3 rfl) ?_
        refine lv_iload hx hb d_CT_thing_52 (lv_at hl 4 rfl) ?_
        obtain ⟨q8, e7, h⟩ := xb h
        refine xc_i (va_runV (As := [.int a1, .int (5 : Int32), .int a3, .int a4]) (rest := []) ⟨hx, hb, hml, hown, hts⟩ (c_CT_numberOf l D lay cA adK adV s0 S a1 (5 : Int32) a3 a4 q8 e7) (cwV 4 hts (xT_V wd_237 wd_239 wp_1 wd_1 wd_240) rfl rfl rfl (by decide +kernel) ⟨Nat.le_of_ble_eq_true rfl, Nat.le_of_ble_eq_true rfl⟩) (xpV E hP hS (by decide) (xc_0 _ _ _ _) rfl) rfl rfl hl.1 rfl (lv_room (Nat.le_of_ble_eq_true rfl)) d_CT_thing_54 ⟨Nat.le_of_ble_eq_true rfl, Nat.le_of_ble_eq_true rfl⟩) hS (fun H locs hP hS => ?_)
        have h9 := Option.some.inj h
        subst h9
        exact W.iret (v := q8) hx hb hr (fun t ht hW => ⟨⟨q8, (), rfl, rfl, by show va_P D xcl _ t.heap; rw [ht]; exact hP⟩, hS.F ht⟩) hS.2.2 d_CT_thing_57
      · have h := xif_f c_9 h
        have nc_3 := lv_neT (k := 0) (a := 0) c_3 (by decide)
        have nc_6 := lv_neT (k := 1) (a := 1) c_6 (by decide)
        have nc_9 := lv_neT (k := 2) (a := 2) c_9 (by decide)
        refine lv_tableOut (tgt := 58) hx hb d_CT_thing_1 (by omega) (by decide) ?_
        refine lv_iconst (v := (-1 : Int32)) hx hb d_CT_thing_58 (by decide) ?_
        have h9 := Option.some.inj h
        subst h9
        exact W.iret (v := (-1 : Int32)) hx hb hr (fun t ht hW => ⟨⟨(-1 : Int32), (), rfl, rfl, by show va_P D xcl _ t.heap; rw [ht]; exact hP⟩, hS.F ht⟩) hS.2.2 d_CT_thing_59
theorem c_CT_thing (l : Launch) (D : va_G) (lay : Nat → Nat) (cA : Nat → ClassId) (adK adV : Nat → Nat) (s0 : State) (S : XS) (a1 : Int32) (a2 : Int32) (a3 : Int32) (a4 : Int32) (r : Int32) (h : f_CT_thing S a1 a2 a3 a4 = some r) : Met l y_CT_thing (.code y_CT_thing b_CT_thing 5 ((Option.some Jvm.ClassFile.FieldType.int)) :: xT) rm_CT_thing (xPc D lay cA adK adV s0 S [.ref (lay 0), .int a1, .int a2, .int a3, .int a4]) (xqi D lay cA r S) 0 0 (xI lay) := by
  refine Met.ofW (cc := b_CT_thing) (maxL := 5) (ret := (Option.some Jvm.ClassFile.FieldType.int)) (by decide +kernel) rfl ?_
  intro p e s m args below meth c s₁ B hml hv
  obtain ⟨rfl, hP, E⟩ := hv
  have C := xB_of B hml
  have hl := lv_entry ([.ref (lay 0), .int a1, .int a2, .int a3, .int a4]) (n := 5) (Nat.le_of_ble_eq_true rfl)
  rw [lg_entry_eq]
  generalize (lg_sl ([.ref (lay 0), .int a1, .int a2, .int a3, .int a4]) ++ List.replicate (5 - (lg_sl ([.ref (lay 0), .int a1, .int a2, .int a3, .int a4])).length) Slot.unset).toArray = ls at hl ⊢
  exact k_CT_thing l C E S a1 a2 a3 a4 r h s.heap [] ls hP va_S.rf hl
/-! ConfigTexts.channel(II)I -/
def rm_CT_channel : Room := { frames := 2, cells := 0, slots := 0, locals := 44 }
theorem d_CT_channel_0 : decode b_CT_channel 0 = .ok (.aload_n 0, 1) := by decide +kernel
theorem d_CT_channel_1 : decode b_CT_channel 1 = .ok (.getfield 42, 3) := by decide +kernel
theorem d_CT_channel_4 : decode b_CT_channel 4 = .ok (.ifCond .eq 18, 3) := by decide +kernel
theorem d_CT_channel_7 : decode b_CT_channel 7 = .ok (.aload_n 0, 1) := by decide +kernel
theorem d_CT_channel_8 : decode b_CT_channel 8 = .ok (.getfield 29, 3) := by decide +kernel
theorem d_CT_channel_11 : decode b_CT_channel 11 = .ok (.getfield 99, 3) := by decide +kernel
theorem d_CT_channel_14 : decode b_CT_channel 14 = .ok (.iload_n 1, 1) := by decide +kernel
theorem d_CT_channel_15 : decode b_CT_channel 15 = .ok (.iload_n 2, 1) := by decide +kernel
theorem d_CT_channel_16 : decode b_CT_channel 16 = .ok (.invokevirtual 103, 3) := by decide +kernel
theorem d_CT_channel_19 : decode b_CT_channel 19 = .ok (.goto 4, 3) := by decide +kernel
theorem d_CT_channel_22 : decode b_CT_channel 22 = .ok (.iconst (-1), 1) := by decide +kernel
theorem d_CT_channel_23 : decode b_CT_channel 23 = .ok (.ireturn, 1) := by decide +kernel
def f_CT_channel (S : XS) (a1 : Int32) (a2 : Int32) : Option (Int32) :=
  if (xgi S 0 5) = 0 then (some (-1 : Int32)) else ((f_RO_get S 173 a1 a2).bind fun q2 => some q2)
set_option maxHeartbeats 4000000 in
set_option maxRecDepth 100000 in
theorem k_CT_channel (l : Launch) {p : Program} {e : Env} {s : State} {m : MethodId} {args : Array Value} {below : List Frame} {meth : Method} {c : Code} {D : va_G} {lay : Nat → Nat} {cA : Nat → ClassId} {adK adV : Nat → Nat} {s0 : State} (C : xB p s m args meth c R_CT b_CT_channel ((Option.some Jvm.ClassFile.FieldType.int)) 3) (E : xE D lay cA adK adV s0 s s.heap) : ∀ (S : XS) (a1 : Int32) (a2 : Int32) (r : Int32) (_ : f_CT_channel S a1 a2 = some r) (H : Heap) (locs : List Loc) (ls : Array Slot), va_P D xcl (xw lay cA S) H → va_S (xI lay) s.heap H locs → lv_has ls 3 [(0, .ref (lay 0)), (1, .int a1), (2, .int a2)] → W p l e rm_CT_channel s m args below meth c H locs 0 0 (MQ below (xqi D lay cA r S) args s 0 0 (xI lay)) (F0 m 0 ls []) := by
  obtain ⟨hx, hb, hr, hml, hown, hts, hlk, hnh⟩ := id C
  have hK := E.K
  intro S a1 a2 r h H locs ls hP hS hl
  unfold f_CT_channel at h
  refine lv_aload_n hx hb d_CT_channel_0 rfl (lv_at hl 0 rfl) ?_
  refine va_get (v := .int (xgi S 0 5)) (C := R_CT) (T := F_CT) (N := 6) hx hb hts i_CT hown hK hP 0 (xw_at (by decide) (xc_0 _ _ _ _)) rfl 5 (by decide) (hts _ wd_187) (fun _ h9 => h9) rfl d_CT_channel_1 ?_
  refine lv_if_eq (tgt := 22) hx hb d_CT_channel_4 (by decide) (fun c_3 => ?_) (fun c_3 => ?_)
  · have h := xif_t c_3 h
    refine lv_iconst (v := (-1 : Int32)) hx hb d_CT_channel_22 (by decide) ?_
    have h9 := Option.some.inj h
    subst h9
    exact W.iret (v := (-1 : Int32)) hx hb hr (fun t ht hW => ⟨⟨(-1 : Int32), (), rfl, rfl, by show va_P D xcl _ t.heap; rw [ht]; exact hP⟩, hS.F ht⟩) hS.2.2 d_CT_channel_23
  · have h := xif_f c_3 h
    refine lv_aload_n hx hb d_CT_channel_7 rfl (lv_at hl 0 rfl) ?_
    refine va_get (v := .ref (lay 3)) (C := R_CT) (T := F_CT) (N := 6) hx hb hts i_CT hown hK hP 0 (xw_at (by decide) (xc_0 _ _ _ _)) rfl 3 (by decide) (hts _ wd_185) (fun _ h9 => h9) rfl d_CT_channel_8 ?_
    refine va_getN (v := .ref (lay 173)) (C := R_CF) (T := F_CF) (N := 7) hx hb hts i_CF hown hK hP 3 (xw_at (by decide) (xc_3 _ _ _ _)) rfl 2 (by decide) (E.nest wn_137) (fun _ h9 => h9) rfl d_CT_channel_11 ?_
    refine lv_iload_n hx hb d_CT_channel_14 rfl (lv_at hl 1 rfl) ?_
    refine lv_iload_n hx hb d_CT_channel_15 rfl (lv_at hl 2 rfl) ?_
    obtain ⟨q2, e1, h⟩ := xb h
    refine xc_i (va_runV (As := [.int a1, .int a2]) (rest := []) ⟨hx, hb, hml, hown, hts⟩ (c_RO_get l D lay cA adK adV s0 S 173 a1 a2 q2 e1) (cwV 2 hts (xT_V wd_241 wd_242 wd_243 wd_5 wd_244) rfl rfl rfl (by decide +kernel) ⟨Nat.le_of_ble_eq_true rfl, Nat.le_of_ble_eq_true rfl⟩) (xpV E hP hS (xR_lt (by decide : xR 173)).1 (xc_RO _ _ _ _ (by decide : xR 173)) rfl) rfl rfl hl.1 rfl (lv_room (Nat.le_of_ble_eq_true rfl)) d_CT_channel_16 ⟨Nat.le_of_ble_eq_true rfl, Nat.le_of_ble_eq_true rfl⟩) hS (fun H locs hP hS => ?_)
    refine lv_goto (tgt := 23) hx hb d_CT_channel_19 (by decide) ?_
    have h9 := Option.some.inj h
    subst h9
    exact W.iret (v := q2) hx hb hr (fun t ht hW => ⟨⟨q2, (), rfl, rfl, by show va_P D xcl _ t.heap; rw [ht]; exact hP⟩, hS.F ht⟩) hS.2.2 d_CT_channel_23
theorem c_CT_channel (l : Launch) (D : va_G) (lay : Nat → Nat) (cA : Nat → ClassId) (adK adV : Nat → Nat) (s0 : State) (S : XS) (a1 : Int32) (a2 : Int32) (r : Int32) (h : f_CT_channel S a1 a2 = some r) : Met l y_CT_channel (.code y_CT_channel b_CT_channel 3 ((Option.some Jvm.ClassFile.FieldType.int)) :: xT) rm_CT_channel (xPc D lay cA adK adV s0 S [.ref (lay 0), .int a1, .int a2]) (xqi D lay cA r S) 0 0 (xI lay) := by
  refine Met.ofW (cc := b_CT_channel) (maxL := 3) (ret := (Option.some Jvm.ClassFile.FieldType.int)) (by decide +kernel) rfl ?_
  intro p e s m args below meth c s₁ B hml hv
  obtain ⟨rfl, hP, E⟩ := hv
  have C := xB_of B hml
  have hl := lv_entry ([.ref (lay 0), .int a1, .int a2]) (n := 3) (Nat.le_of_ble_eq_true rfl)
  rw [lg_entry_eq]
  generalize (lg_sl ([.ref (lay 0), .int a1, .int a2]) ++ List.replicate (3 - (lg_sl ([.ref (lay 0), .int a1, .int a2])).length) Slot.unset).toArray = ls at hl ⊢
  exact k_CT_channel l C E S a1 a2 r h s.heap [] ls hP va_S.rf hl
/-! ConfigTexts.window(II)I -/
def rm_CT_window : Room := { frames := 2, cells := 0, slots := 0, locals := 44 }
theorem d_CT_window_0 : decode b_CT_window 0 = .ok (.aload_n 0, 1) := by decide +kernel
theorem d_CT_window_1 : decode b_CT_window 1 = .ok (.getfield 42, 3) := by decide +kernel
theorem d_CT_window_4 : decode b_CT_window 4 = .ok (.ifCond .eq 18, 3) := by decide +kernel
theorem d_CT_window_7 : decode b_CT_window 7 = .ok (.aload_n 0, 1) := by decide +kernel
theorem d_CT_window_8 : decode b_CT_window 8 = .ok (.getfield 29, 3) := by decide +kernel
theorem d_CT_window_11 : decode b_CT_window 11 = .ok (.getfield 108, 3) := by decide +kernel
theorem d_CT_window_14 : decode b_CT_window 14 = .ok (.iload_n 1, 1) := by decide +kernel
theorem d_CT_window_15 : decode b_CT_window 15 = .ok (.iload_n 2, 1) := by decide +kernel
theorem d_CT_window_16 : decode b_CT_window 16 = .ok (.invokevirtual 103, 3) := by decide +kernel
theorem d_CT_window_19 : decode b_CT_window 19 = .ok (.goto 4, 3) := by decide +kernel
theorem d_CT_window_22 : decode b_CT_window 22 = .ok (.iconst (-1), 1) := by decide +kernel
theorem d_CT_window_23 : decode b_CT_window 23 = .ok (.ireturn, 1) := by decide +kernel
def f_CT_window (S : XS) (a1 : Int32) (a2 : Int32) : Option (Int32) :=
  if (xgi S 0 5) = 0 then (some (-1 : Int32)) else ((f_RO_get S 176 a1 a2).bind fun q2 => some q2)
set_option maxHeartbeats 4000000 in
set_option maxRecDepth 100000 in
theorem k_CT_window (l : Launch) {p : Program} {e : Env} {s : State} {m : MethodId} {args : Array Value} {below : List Frame} {meth : Method} {c : Code} {D : va_G} {lay : Nat → Nat} {cA : Nat → ClassId} {adK adV : Nat → Nat} {s0 : State} (C : xB p s m args meth c R_CT b_CT_window ((Option.some Jvm.ClassFile.FieldType.int)) 3) (E : xE D lay cA adK adV s0 s s.heap) : ∀ (S : XS) (a1 : Int32) (a2 : Int32) (r : Int32) (_ : f_CT_window S a1 a2 = some r) (H : Heap) (locs : List Loc) (ls : Array Slot), va_P D xcl (xw lay cA S) H → va_S (xI lay) s.heap H locs → lv_has ls 3 [(0, .ref (lay 0)), (1, .int a1), (2, .int a2)] → W p l e rm_CT_window s m args below meth c H locs 0 0 (MQ below (xqi D lay cA r S) args s 0 0 (xI lay)) (F0 m 0 ls []) := by
  obtain ⟨hx, hb, hr, hml, hown, hts, hlk, hnh⟩ := id C
  have hK := E.K
  intro S a1 a2 r h H locs ls hP hS hl
  unfold f_CT_window at h
  refine lv_aload_n hx hb d_CT_window_0 rfl (lv_at hl 0 rfl) ?_
  refine va_get (v := .int (xgi S 0 5)) (C := R_CT) (T := F_CT) (N := 6) hx hb hts i_CT hown hK hP 0 (xw_at (by decide) (xc_0 _ _ _ _)) rfl 5 (by decide) (hts _ wd_187) (fun _ h9 => h9) rfl d_CT_window_1 ?_
  refine lv_if_eq (tgt := 22) hx hb d_CT_window_4 (by decide) (fun c_3 => ?_) (fun c_3 => ?_)
  · have h := xif_t c_3 h
    refine lv_iconst (v := (-1 : Int32)) hx hb d_CT_window_22 (by decide) ?_
    have h9 := Option.some.inj h
    subst h9
    exact W.iret (v := (-1 : Int32)) hx hb hr (fun t ht hW => ⟨⟨(-1 : Int32), (), rfl, rfl, by show va_P D xcl _ t.heap; rw [ht]; exact hP⟩, hS.F ht⟩) hS.2.2 d_CT_window_23
  · have h := xif_f c_3 h
    refine lv_aload_n hx hb d_CT_window_7 rfl (lv_at hl 0 rfl) ?_
    refine va_get (v := .ref (lay 3)) (C := R_CT) (T := F_CT) (N := 6) hx hb hts i_CT hown hK hP 0 (xw_at (by decide) (xc_0 _ _ _ _)) rfl 3 (by decide) (hts _ wd_185) (fun _ h9 => h9) rfl d_CT_window_8 ?_
    refine va_getN (v := .ref (lay 176)) (C := R_CF) (T := F_CF) (N := 7) hx hb hts i_CF hown hK hP 3 (xw_at (by decide) (xc_3 _ _ _ _)) rfl 3 (by decide) (E.nest wn_140) (fun _ h9 => h9) rfl d_CT_window_11 ?_
    refine lv_iload_n hx hb d_CT_window_14 rfl (lv_at hl 1 rfl) ?_
    refine lv_iload_n hx hb d_CT_window_15 rfl (lv_at hl 2 rfl) ?_
    obtain ⟨q2, e1, h⟩ := xb h
    refine xc_i (va_runV (As := [.int a1, .int a2]) (rest := []) ⟨hx, hb, hml, hown, hts⟩ (c_RO_get l D lay cA adK adV s0 S 176 a1 a2 q2 e1) (cwV 2 hts (xT_V wd_241 wd_242 wd_243 wd_5 wd_244) rfl rfl rfl (by decide +kernel) ⟨Nat.le_of_ble_eq_true rfl, Nat.le_of_ble_eq_true rfl⟩) (xpV E hP hS (xR_lt (by decide : xR 176)).1 (xc_RO _ _ _ _ (by decide : xR 176)) rfl) rfl rfl hl.1 rfl (lv_room (Nat.le_of_ble_eq_true rfl)) d_CT_window_16 ⟨Nat.le_of_ble_eq_true rfl, Nat.le_of_ble_eq_true rfl⟩) hS (fun H locs hP hS => ?_)
    refine lv_goto (tgt := 23) hx hb d_CT_window_19 (by decide) ?_
    have h9 := Option.some.inj h
    subst h9
    exact W.iret (v := q2) hx hb hr (fun t ht hW => ⟨⟨q2, (), rfl, rfl, by show va_P D xcl _ t.heap; rw [ht]; exact hP⟩, hS.F ht⟩) hS.2.2 d_CT_window_23
theorem c_CT_window (l : Launch) (D : va_G) (lay : Nat → Nat) (cA : Nat → ClassId) (adK adV : Nat → Nat) (s0 : State) (S : XS) (a1 : Int32) (a2 : Int32) (r : Int32) (h : f_CT_window S a1 a2 = some r) : Met l y_CT_window (.code y_CT_window b_CT_window 3 ((Option.some Jvm.ClassFile.FieldType.int)) :: xT) rm_CT_window (xPc D lay cA adK adV s0 S [.ref (lay 0), .int a1, .int a2]) (xqi D lay cA r S) 0 0 (xI lay) := by
  refine Met.ofW (cc := b_CT_window) (maxL := 3) (ret := (Option.some Jvm.ClassFile.FieldType.int)) (by decide +kernel) rfl ?_
  intro p e s m args below meth c s₁ B hml hv
  obtain ⟨rfl, hP, E⟩ := hv
  have C := xB_of B hml
  have hl := lv_entry ([.ref (lay 0), .int a1, .int a2]) (n := 3) (Nat.le_of_ble_eq_true rfl)
  rw [lg_entry_eq]
  generalize (lg_sl ([.ref (lay 0), .int a1, .int a2]) ++ List.replicate (3 - (lg_sl ([.ref (lay 0), .int a1, .int a2])).length) Slot.unset).toArray = ls at hl ⊢
  exact k_CT_window l C E S a1 a2 r h s.heap [] ls hP va_S.rf hl
