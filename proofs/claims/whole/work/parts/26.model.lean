/-! ConfigTextsModel.readErrors(I)V -/
def rm_MO_readErrors : Room := { frames := 5, cells := 0, slots := 0, locals := 109 }
theorem d_MO_readErrors_0 : decode b_MO_readErrors 0 = .ok (.aload_n 0, 1) := by decide +kernel
theorem d_MO_readErrors_1 : decode b_MO_readErrors 1 = .ok (.getfield 115, 3) := by decide +kernel
theorem d_MO_readErrors_4 : decode b_MO_readErrors 4 = .ok (.iload_n 1, 1) := by decide +kernel
theorem d_MO_readErrors_5 : decode b_MO_readErrors 5 = .ok (.baload, 1) := by decide +kernel
theorem d_MO_readErrors_6 : decode b_MO_readErrors 6 = .ok (.ifCond .eq 14, 3) := by decide +kernel
theorem d_MO_readErrors_9 : decode b_MO_readErrors 9 = .ok (.aload_n 0, 1) := by decide +kernel
theorem d_MO_readErrors_10 : decode b_MO_readErrors 10 = .ok (.bipush 7, 2) := by decide +kernel
theorem d_MO_readErrors_12 : decode b_MO_readErrors 12 = .ok (.aload_n 0, 1) := by decide +kernel
theorem d_MO_readErrors_13 : decode b_MO_readErrors 13 = .ok (.getfield 185, 3) := by decide +kernel
theorem d_MO_readErrors_16 : decode b_MO_readErrors 16 = .ok (.invokevirtual 210, 3) := by decide +kernel
theorem d_MO_readErrors_19 : decode b_MO_readErrors 19 = .ok (.return_, 1) := by decide +kernel
theorem d_MO_readErrors_20 : decode b_MO_readErrors 20 = .ok (.aload_n 0, 1) := by decide +kernel
theorem d_MO_readErrors_21 : decode b_MO_readErrors 21 = .ok (.getfield 115, 3) := by decide +kernel
theorem d_MO_readErrors_24 : decode b_MO_readErrors 24 = .ok (.iload_n 1, 1) := by decide +kernel
theorem d_MO_readErrors_25 : decode b_MO_readErrors 25 = .ok (.iconst 1, 1) := by decide +kernel
theorem d_MO_readErrors_26 : decode b_MO_readErrors 26 = .ok (.bastore, 1) := by decide +kernel
theorem d_MO_readErrors_27 : decode b_MO_readErrors 27 = .ok (.aload_n 0, 1) := by decide +kernel
theorem d_MO_readErrors_28 : decode b_MO_readErrors 28 = .ok (.invokevirtual 225, 3) := by decide +kernel
theorem d_MO_readErrors_31 : decode b_MO_readErrors 31 = .ok (.aload_n 0, 1) := by decide +kernel
theorem d_MO_readErrors_32 : decode b_MO_readErrors 32 = .ok (.bipush 123, 2) := by decide +kernel
theorem d_MO_readErrors_34 : decode b_MO_readErrors 34 = .ok (.invokevirtual 238, 3) := by decide +kernel
theorem d_MO_readErrors_37 : decode b_MO_readErrors 37 = .ok (.iconst 0, 1) := by decide +kernel
theorem d_MO_readErrors_38 : decode b_MO_readErrors 38 = .ok (.istore_n 2, 1) := by decide +kernel
theorem d_MO_readErrors_39 : decode b_MO_readErrors 39 = .ok (.iload_n 2, 1) := by decide +kernel
theorem d_MO_readErrors_40 : decode b_MO_readErrors 40 = .ok (.iconst 4, 1) := by decide +kernel
theorem d_MO_readErrors_41 : decode b_MO_readErrors 41 = .ok (.if_icmp .ge 16, 3) := by decide +kernel
theorem d_MO_readErrors_44 : decode b_MO_readErrors 44 = .ok (.aload_n 0, 1) := by decide +kernel
theorem d_MO_readErrors_45 : decode b_MO_readErrors 45 = .ok (.getfield 119, 3) := by decide +kernel
theorem d_MO_readErrors_48 : decode b_MO_readErrors 48 = .ok (.iload_n 2, 1) := by decide +kernel
theorem d_MO_readErrors_49 : decode b_MO_readErrors 49 = .ok (.iconst 0, 1) := by decide +kernel
theorem d_MO_readErrors_50 : decode b_MO_readErrors 50 = .ok (.bastore, 1) := by decide +kernel
theorem d_MO_readErrors_51 : decode b_MO_readErrors 51 = .ok (.iinc 2 1, 3) := by decide +kernel
theorem d_MO_readErrors_54 : decode b_MO_readErrors 54 = .ok (.goto (-15), 3) := by decide +kernel
theorem d_MO_readErrors_57 : decode b_MO_readErrors 57 = .ok (.aload_n 0, 1) := by decide +kernel
theorem d_MO_readErrors_58 : decode b_MO_readErrors 58 = .ok (.invokevirtual 214, 3) := by decide +kernel
theorem d_MO_readErrors_61 : decode b_MO_readErrors 61 = .ok (.istore_n 2, 1) := by decide +kernel
theorem d_MO_readErrors_62 : decode b_MO_readErrors 62 = .ok (.iload_n 2, 1) := by decide +kernel
theorem d_MO_readErrors_63 : decode b_MO_readErrors 63 = .ok (.ifCond .eq 33, 3) := by decide +kernel
theorem d_MO_readErrors_66 : decode b_MO_readErrors 66 = .ok (.aload_n 0, 1) := by decide +kernel
theorem d_MO_readErrors_67 : decode b_MO_readErrors 67 = .ok (.iload_n 1, 1) := by decide +kernel
theorem d_MO_readErrors_68 : decode b_MO_readErrors 68 = .ok (.invokevirtual 270, 3) := by decide +kernel
theorem d_MO_readErrors_71 : decode b_MO_readErrors 71 = .ok (.aload_n 0, 1) := by decide +kernel
theorem d_MO_readErrors_72 : decode b_MO_readErrors 72 = .ok (.invokevirtual 214, 3) := by decide +kernel
theorem d_MO_readErrors_75 : decode b_MO_readErrors 75 = .ok (.ifCond .eq 16, 3) := by decide +kernel
theorem d_MO_readErrors_78 : decode b_MO_readErrors 78 = .ok (.aload_n 0, 1) := by decide +kernel
theorem d_MO_readErrors_79 : decode b_MO_readErrors 79 = .ok (.bipush 125, 2) := by decide +kernel
theorem d_MO_readErrors_81 : decode b_MO_readErrors 81 = .ok (.invokevirtual 218, 3) := by decide +kernel
theorem d_MO_readErrors_84 : decode b_MO_readErrors 84 = .ok (.ifCond .ne 7, 3) := by decide +kernel
theorem d_MO_readErrors_87 : decode b_MO_readErrors 87 = .ok (.iconst 1, 1) := by decide +kernel
theorem d_MO_readErrors_88 : decode b_MO_readErrors 88 = .ok (.goto 4, 3) := by decide +kernel
theorem d_MO_readErrors_91 : decode b_MO_readErrors 91 = .ok (.iconst 0, 1) := by decide +kernel
theorem d_MO_readErrors_92 : decode b_MO_readErrors 92 = .ok (.istore_n 2, 1) := by decide +kernel
theorem d_MO_readErrors_93 : decode b_MO_readErrors 93 = .ok (.goto (-31), 3) := by decide +kernel
theorem d_MO_readErrors_96 : decode b_MO_readErrors 96 = .ok (.aload_n 0, 1) := by decide +kernel
theorem d_MO_readErrors_97 : decode b_MO_readErrors 97 = .ok (.bipush 125, 2) := by decide +kernel
theorem d_MO_readErrors_99 : decode b_MO_readErrors 99 = .ok (.invokevirtual 238, 3) := by decide +kernel
theorem d_MO_readErrors_102 : decode b_MO_readErrors 102 = .ok (.return_, 1) := by decide +kernel
def f_MO_readErrors_62 : Nat → XS → Int32 → Int32 → Option (XS)
  | 0, _, _, _ => none
  | n + 1, S, a1, a2 =>
    if a2 = 0 then ((f_MO_sign S (125 : Int32)).bind fun q15 => some q15) else ((f_MO_readError S a1).bind fun q17 => (f_MO_good q17).bind fun q19 => if q19 = 0 then (f_MO_readErrors_62 n q17 a1 (0 : Int32)) else ((f_MO_isSign q17 (125 : Int32)).bind fun q21 => if q21 = 0 then (f_MO_readErrors_62 n q17 a1 (1 : Int32)) else (f_MO_readErrors_62 n q17 a1 (0 : Int32))))
set_option maxHeartbeats 4000000 in
set_option maxRecDepth 100000 in
theorem k_MO_readErrors_62 (l : Launch) {p : Program} {e : Env} {s : State} {m : MethodId} {args : Array Value} {below : List Frame} {meth : Method} {c : Code} {D : va_G} {lay : Nat → Nat} {cA : Nat → ClassId} (C : xB p s m args meth c R_MO b_MO_readErrors ((Option.none : Option Jvm.ClassFile.FieldType)) 3) (E : mE D lay cA s s.heap) : ∀ (n : Nat) (S : XS) (a1 : Int32) (a2 : Int32) (r : XS) (_ : f_MO_readErrors_62 n S a1 a2 = some r) (H : Heap) (locs : List Loc) (ls : Array Slot), va_P D xcl (mw lay cA S) H → va_S (mI lay) s.heap H locs → lv_has ls 3 [(0, .ref (lay 0)), (1, .int a1), (2, .int a2)] → W p l e rm_MO_readErrors s m args below meth c H locs 0 0 (MQ below (mqv D lay cA r) args s 0 0 (mI lay)) (F0 m 62 ls []) := by
  obtain ⟨hx, hb, hr, hml, hown, hts, hlk, hnh⟩ := id C
  have hK := E.K
  intro n
  induction n with
  | zero => intro S a1 a2 r h; rw [f_MO_readErrors_62] at h; cases h
  | succ n ih =>
    intro S a1 a2 r h H locs ls hP hS hl
    rw [f_MO_readErrors_62] at h
    refine lv_iload_n hx hb d_MO_readErrors_62 rfl (lv_at hl 2 rfl) ?_
    refine lv_if_eq (tgt := 96) hx hb d_MO_readErrors_63 (by decide) (fun c_24 => ?_) (fun c_24 => ?_)
    · have h := xif_t c_24 h
      refine lv_aload_n hx hb d_MO_readErrors_96 rfl (lv_at hl 0 rfl) ?_
      refine lv_bipush (v := (125 : Int32)) hx hb d_MO_readErrors_97 (by decide) ?_
      obtain ⟨q15, e14, h⟩ := xb h
      refine mc_v (va_runV (As := [.int (125 : Int32)]) (rest := []) ⟨hx, hb, hml, hown, hts⟩ (c_MO_sign l D lay cA S (125 : Int32) q15 e14) (cwV 1 hts (xT_V wd_902 wd_904 wp_34 wd_7 wd_905) rfl rfl rfl (by decide +kernel) ⟨Nat.le_of_ble_eq_true rfl, Nat.le_of_ble_eq_true rfl⟩) (mpV E hP hS (by decide) (mc_0 _ _ _ _) rfl) rfl rfl hl.1 rfl (lv_room (Nat.le_of_ble_eq_true rfl)) d_MO_readErrors_99 ⟨Nat.le_of_ble_eq_true rfl, Nat.le_of_ble_eq_true rfl⟩) hS (fun H locs hP hS => ?_)
      have h9 := Option.some.inj h
      subst h9
      exact W.vret hx hb hr (fun t ht hW => ⟨⟨(), rfl, trivial, by show va_P D xcl _ t.heap; rw [ht]; exact hP⟩, hS.F ht⟩) hS.2.2 d_MO_readErrors_102
    · have h := xif_f c_24 h
      refine lv_aload_n hx hb d_MO_readErrors_66 rfl (lv_at hl 0 rfl) ?_
      refine lv_iload_n hx hb d_MO_readErrors_67 rfl (lv_at hl 1 rfl) ?_
      obtain ⟨q17, e16, h⟩ := xb h
      refine mc_v (va_runV (As := [.int a1]) (rest := []) ⟨hx, hb, hml, hown, hts⟩ (c_MO_readError l D lay cA S a1 q17 e16) (cwV 1 hts (xT_V wd_962 wd_964 wp_48 wd_7 wd_965) rfl rfl rfl (by decide +kernel) ⟨Nat.le_of_ble_eq_true rfl, Nat.le_of_ble_eq_true rfl⟩) (mpV E hP hS (by decide) (mc_0 _ _ _ _) rfl) rfl rfl hl.1 rfl (lv_room (Nat.le_of_ble_eq_true rfl)) d_MO_readErrors_68 ⟨Nat.le_of_ble_eq_true rfl, Nat.le_of_ble_eq_true rfl⟩) hS (fun H locs hP hS => ?_)
      refine lv_aload_n hx hb d_MO_readErrors_71 rfl (lv_at hl 0 rfl) ?_
      obtain ⟨q19, e18, h⟩ := xb h
      refine mc_i (va_runV (As := []) (rest := []) ⟨hx, hb, hml, hown, hts⟩ (c_MO_good l D lay cA q17 q19 e18) (cwV 0 hts (xT_V wd_882 wd_884 wp_29 wd_7 wd_885) rfl rfl rfl (by decide +kernel) ⟨Nat.le_of_ble_eq_true rfl, Nat.le_of_ble_eq_true rfl⟩) (mpV E hP hS (by decide) (mc_0 _ _ _ _) rfl) rfl rfl hl.1 rfl (lv_room (Nat.le_of_ble_eq_true rfl)) d_MO_readErrors_72 ⟨Nat.le_of_ble_eq_true rfl, Nat.le_of_ble_eq_true rfl⟩) hS (fun H locs hP hS => ?_)
      refine lv_if_eq (tgt := 91) hx hb d_MO_readErrors_75 (by decide) (fun c_23 => ?_) (fun c_23 => ?_)
      · have h := xif_t c_23 h
        refine lv_iconst (v := (0 : Int32)) hx hb d_MO_readErrors_91 (by decide) ?_
        refine lv_istore_n (lv' := [(2, .int (0 : Int32)), (0, .ref (lay 0)), (1, .int a1)]) hx hb d_MO_readErrors_92 rfl hl (by decide) rfl (fun ls hl => ?_)
        refine lv_goto (tgt := 62) hx hb d_MO_readErrors_93 (by decide) ?_
        exact ih q17 a1 (0 : Int32) _ h H locs ls hP hS (lv_sub hl [1, 2, 0] rfl)
      · have h := xif_f c_23 h
        refine lv_aload_n hx hb d_MO_readErrors_78 rfl (lv_at hl 0 rfl) ?_
        refine lv_bipush (v := (125 : Int32)) hx hb d_MO_readErrors_79 (by decide) ?_
        obtain ⟨q21, e20, h⟩ := xb h
        refine mc_i (va_runV (As := [.int (125 : Int32)]) (rest := []) ⟨hx, hb, hml, hown, hts⟩ (c_MO_isSign l D lay cA q17 (125 : Int32) q21 e20) (cwV 1 hts (xT_V wd_906 wd_908 wp_35 wd_7 wd_909) rfl rfl rfl (by decide +kernel) ⟨Nat.le_of_ble_eq_true rfl, Nat.le_of_ble_eq_true rfl⟩) (mpV E hP hS (by decide) (mc_0 _ _ _ _) rfl) rfl rfl hl.1 rfl (lv_room (Nat.le_of_ble_eq_true rfl)) d_MO_readErrors_81 ⟨Nat.le_of_ble_eq_true rfl, Nat.le_of_ble_eq_true rfl⟩) hS (fun H locs hP hS => ?_)
        refine lv_if_ne (tgt := 91) hx hb d_MO_readErrors_84 (by decide) (fun c_22 => ?_) (fun c_22 => ?_)
        · have h := xif_f c_22 h
          refine lv_iconst (v := (0 : Int32)) hx hb d_MO_readErrors_91 (by decide) ?_
          refine lv_istore_n (lv' := [(2, .int (0 : Int32)), (0, .ref (lay 0)), (1, .int a1)]) hx hb d_MO_readErrors_92 rfl hl (by decide) rfl (fun ls hl => ?_)
          refine lv_goto (tgt := 62) hx hb d_MO_readErrors_93 (by decide) ?_
          exact ih q17 a1 (0 : Int32) _ h H locs ls hP hS (lv_sub hl [1, 2, 0] rfl)
        · have h := xif_t c_22 h
          refine lv_iconst (v := (1 : Int32)) hx hb d_MO_readErrors_87 (by decide) ?_
          refine lv_goto (tgt := 92) hx hb d_MO_readErrors_88 (by decide) ?_
          refine lv_istore_n (lv' := [(2, .int (1 : Int32)), (0, .ref (lay 0)), (1, .int a1)]) hx hb d_MO_readErrors_92 rfl hl (by decide) rfl (fun ls hl => ?_)
          refine lv_goto (tgt := 62) hx hb d_MO_readErrors_93 (by decide) ?_
          exact ih q17 a1 (1 : Int32) _ h H locs ls hP hS (lv_sub hl [1, 2, 0] rfl)
def f_MO_readErrors_39 : Nat → XS → Int32 → Int32 → Option (XS)
  | 0, _, _, _ => none
  | n + 1, S, a1, a2 =>
    if (4 : Int32) ≤ a2 then ((f_MO_good S).bind fun q11 => f_MO_readErrors_62 4096 S a1 q11) else (if ¬ (a2 < 0 ∨ 4 ≤ a2.toNatClampNeg) then (f_MO_readErrors_39 n (xpi S 12 a2.toNatClampNeg (vp_nar .boolean (0 : Int32))) a1 (a2 + (1 : Int32))) else none)
set_option maxHeartbeats 4000000 in
set_option maxRecDepth 100000 in
theorem k_MO_readErrors_39 (l : Launch) {p : Program} {e : Env} {s : State} {m : MethodId} {args : Array Value} {below : List Frame} {meth : Method} {c : Code} {D : va_G} {lay : Nat → Nat} {cA : Nat → ClassId} (C : xB p s m args meth c R_MO b_MO_readErrors ((Option.none : Option Jvm.ClassFile.FieldType)) 3) (E : mE D lay cA s s.heap) : ∀ (n : Nat) (S : XS) (a1 : Int32) (a2 : Int32) (r : XS) (_ : f_MO_readErrors_39 n S a1 a2 = some r) (H : Heap) (locs : List Loc) (ls : Array Slot), va_P D xcl (mw lay cA S) H → va_S (mI lay) s.heap H locs → lv_has ls 3 [(0, .ref (lay 0)), (1, .int a1), (2, .int a2)] → W p l e rm_MO_readErrors s m args below meth c H locs 0 0 (MQ below (mqv D lay cA r) args s 0 0 (mI lay)) (F0 m 39 ls []) := by
  obtain ⟨hx, hb, hr, hml, hown, hts, hlk, hnh⟩ := id C
  have hK := E.K
  intro n
  induction n with
  | zero => intro S a1 a2 r h; rw [f_MO_readErrors_39] at h; cases h
  | succ n ih =>
    intro S a1 a2 r h H locs ls hP hS hl
    rw [f_MO_readErrors_39] at h
    refine lv_iload_n hx hb d_MO_readErrors_39 rfl (lv_at hl 2 rfl) ?_
    refine lv_iconst (v := (4 : Int32)) hx hb d_MO_readErrors_40 (by decide) ?_
    refine lv_icmp_ge (tgt := 57) hx hb d_MO_readErrors_41 (by decide) (fun c_13 => ?_) (fun c_13 => ?_)
    · have h := xif_t c_13 h
      refine lv_aload_n hx hb d_MO_readErrors_57 rfl (lv_at hl 0 rfl) ?_
      obtain ⟨q11, e10, h⟩ := xb h
      refine mc_i (va_runV (As := []) (rest := []) ⟨hx, hb, hml, hown, hts⟩ (c_MO_good l D lay cA S q11 e10) (cwV 0 hts (xT_V wd_882 wd_884 wp_29 wd_7 wd_885) rfl rfl rfl (by decide +kernel) ⟨Nat.le_of_ble_eq_true rfl, Nat.le_of_ble_eq_true rfl⟩) (mpV E hP hS (by decide) (mc_0 _ _ _ _) rfl) rfl rfl hl.1 rfl (lv_room (Nat.le_of_ble_eq_true rfl)) d_MO_readErrors_58 ⟨Nat.le_of_ble_eq_true rfl, Nat.le_of_ble_eq_true rfl⟩) hS (fun H locs hP hS => ?_)
      refine lv_istore_n (lv' := [(2, .int q11), (0, .ref (lay 0)), (1, .int a1)]) hx hb d_MO_readErrors_61 rfl hl (by decide) rfl (fun ls hl => ?_)
      exact k_MO_readErrors_62 l C E 4096 S a1 q11 _ h H locs ls hP hS (lv_sub hl [1, 2, 0] rfl)
    · have h := xif_f c_13 h
      refine lv_aload_n hx hb d_MO_readErrors_44 rfl (lv_at hl 0 rfl) ?_
      refine va_get (v := .ref (lay 12)) (C := R_MO) (T := F_MO) (N := 41) hx hb hts i_MO hown hK hP 0 (mw_at (by decide) (mc_0 _ _ _ _)) rfl 23 (by decide) (hts _ wd_723) (fun _ h9 => h9) rfl d_MO_readErrors_45 ?_
      refine lv_iload_n hx hb d_MO_readErrors_48 rfl (lv_at hl 2 rfl) ?_
      refine lv_iconst (v := (0 : Int32)) hx hb d_MO_readErrors_49 (by decide) ?_
      obtain ⟨hg12, h⟩ := xg h
      refine mas_12 hx hb E hP hS hg12 d_MO_readErrors_50 (fun H locs hP hS => ?_)
      refine lv_iinc (v := a2 + (1 : Int32)) (lv' := [(2, .int (a2 + (1 : Int32))), (0, .ref (lay 0)), (1, .int a1)]) hx hb d_MO_readErrors_51 hl (k := 2) rfl (by rfl) (by decide) rfl (fun ls hl => ?_)
      refine lv_goto (tgt := 39) hx hb d_MO_readErrors_54 (by decide) ?_
      exact ih (xpi S 12 a2.toNatClampNeg (vp_nar .boolean (0 : Int32))) a1 (a2 + (1 : Int32)) _ h H locs ls hP hS (lv_sub hl [1, 2, 0] rfl)
def f_MO_readErrors (S : XS) (a1 : Int32) : Option (XS) :=
  if ¬ (a1 < 0 ∨ 8 ≤ a1.toNatClampNeg) then (if (xgi S 11 a1.toNatClampNeg) = 0 then (if ¬ (a1 < 0 ∨ 8 ≤ a1.toNatClampNeg) then ((f_MO_next (xpi S 11 a1.toNatClampNeg (vp_nar .boolean (1 : Int32)))).bind fun q4 => (f_MO_sign q4 (123 : Int32)).bind fun q6 => f_MO_readErrors_39 4096 q6 a1 (0 : Int32)) else none) else ((f_MO_fail S (7 : Int32) (xgi S 0 6)).bind fun q8 => some q8)) else none
set_option maxHeartbeats 4000000 in
set_option maxRecDepth 100000 in
theorem k_MO_readErrors (l : Launch) {p : Program} {e : Env} {s : State} {m : MethodId} {args : Array Value} {below : List Frame} {meth : Method} {c : Code} {D : va_G} {lay : Nat → Nat} {cA : Nat → ClassId} (C : xB p s m args meth c R_MO b_MO_readErrors ((Option.none : Option Jvm.ClassFile.FieldType)) 3) (E : mE D lay cA s s.heap) : ∀ (S : XS) (a1 : Int32) (r : XS) (_ : f_MO_readErrors S a1 = some r) (H : Heap) (locs : List Loc) (ls : Array Slot), va_P D xcl (mw lay cA S) H → va_S (mI lay) s.heap H locs → lv_has ls 3 [(0, .ref (lay 0)), (1, .int a1)] → W p l e rm_MO_readErrors s m args below meth c H locs 0 0 (MQ below (mqv D lay cA r) args s 0 0 (mI lay)) (F0 m 0 ls []) := by
  obtain ⟨hx, hb, hr, hml, hown, hts, hlk, hnh⟩ := id C
  have hK := E.K
  intro S a1 r h H locs ls hP hS hl
  unfold f_MO_readErrors at h
  refine lv_aload_n hx hb d_MO_readErrors_0 rfl (lv_at hl 0 rfl) ?_
  refine va_get (v := .ref (lay 11)) (C := R_MO) (T := F_MO) (N := 41) hx hb hts i_MO hown hK hP 0 (mw_at (by decide) (mc_0 _ _ _ _)) rfl 22 (by decide) (hts _ wd_722) (fun _ h9 => h9) rfl d_MO_readErrors_1 ?_
  refine lv_iload_n hx hb d_MO_readErrors_4 rfl (lv_at hl 1 rfl) ?_
  obtain ⟨hg1, h⟩ := xg h
  refine mal_11 hx hb E hP hg1 d_MO_readErrors_5 ?_
  refine lv_if_eq (tgt := 20) hx hb d_MO_readErrors_6 (by decide) (fun c_9 => ?_) (fun c_9 => ?_)
  · have h := xif_t c_9 h
    refine lv_aload_n hx hb d_MO_readErrors_20 rfl (lv_at hl 0 rfl) ?_
    refine va_get (v := .ref (lay 11)) (C := R_MO) (T := F_MO) (N := 41) hx hb hts i_MO hown hK hP 0 (mw_at (by decide) (mc_0 _ _ _ _)) rfl 22 (by decide) (hts _ wd_722) (fun _ h9 => h9) rfl d_MO_readErrors_21 ?_
    refine lv_iload_n hx hb d_MO_readErrors_24 rfl (lv_at hl 1 rfl) ?_
    refine lv_iconst (v := (1 : Int32)) hx hb d_MO_readErrors_25 (by decide) ?_
    obtain ⟨hg2, h⟩ := xg h
    refine mas_11 hx hb E hP hS hg2 d_MO_readErrors_26 (fun H locs hP hS => ?_)
    refine lv_aload_n hx hb d_MO_readErrors_27 rfl (lv_at hl 0 rfl) ?_
    obtain ⟨q4, e3, h⟩ := xb h
    refine mc_v (va_runV (As := []) (rest := []) ⟨hx, hb, hml, hown, hts⟩ (c_MO_next l D lay cA (xpi S 11 a1.toNatClampNeg (vp_nar .boolean (1 : Int32))) q4 e3) (cwV 0 hts (xT_V wd_841 wd_843 wp_21 wd_7 wd_844) rfl rfl rfl (by decide +kernel) ⟨Nat.le_of_ble_eq_true rfl, Nat.le_of_ble_eq_true rfl⟩) (mpV E hP hS (by decide) (mc_0 _ _ _ _) rfl) rfl rfl hl.1 rfl (lv_room (Nat.le_of_ble_eq_true rfl)) d_MO_readErrors_28 ⟨Nat.le_of_ble_eq_true rfl, Nat.le_of_ble_eq_true rfl⟩) hS (fun H locs hP hS => ?_)
    refine lv_aload_n hx hb d_MO_readErrors_31 rfl (lv_at hl 0 rfl) ?_
    refine lv_bipush (v := (123 : Int32)) hx hb d_MO_readErrors_32 (by decide) ?_
    obtain ⟨q6, e5, h⟩ := xb h
    refine mc_v (va_runV (As := [.int (123 : Int32)]) (rest := []) ⟨hx, hb, hml, hown, hts⟩ (c_MO_sign l D lay cA q4 (123 : Int32) q6 e5) (cwV 1 hts (xT_V wd_902 wd_904 wp_34 wd_7 wd_905) rfl rfl rfl (by decide +kernel) ⟨Nat.le_of_ble_eq_true rfl, Nat.le_of_ble_eq_true rfl⟩) (mpV E hP hS (by decide) (mc_0 _ _ _ _) rfl) rfl rfl hl.1 rfl (lv_room (Nat.le_of_ble_eq_true rfl)) d_MO_readErrors_34 ⟨Nat.le_of_ble_eq_true rfl, Nat.le_of_ble_eq_true rfl⟩) hS (fun H locs hP hS => ?_)
    refine lv_iconst (v := (0 : Int32)) hx hb d_MO_readErrors_37 (by decide) ?_
    refine lv_istore_n (lv' := [(2, .int (0 : Int32)), (0, .ref (lay 0)), (1, .int a1)]) hx hb d_MO_readErrors_38 rfl hl (by decide) rfl (fun ls hl => ?_)
    exact k_MO_readErrors_39 l C E 4096 q6 a1 (0 : Int32) _ h H locs ls hP hS (lv_sub hl [1, 2, 0] rfl)
  · have h := xif_f c_9 h
    refine lv_aload_n hx hb d_MO_readErrors_9 rfl (lv_at hl 0 rfl) ?_
    refine lv_bipush (v := (7 : Int32)) hx hb d_MO_readErrors_10 (by decide) ?_
    refine lv_aload_n hx hb d_MO_readErrors_12 rfl (lv_at hl 0 rfl) ?_
    refine va_get (v := .int (xgi S 0 6)) (C := R_MO) (T := F_MO) (N := 41) hx hb hts i_MO hown hK hP 0 (mw_at (by decide) (mc_0 _ _ _ _)) rfl 6 (by decide) (hts _ wd_706) (fun _ h9 => h9) rfl d_MO_readErrors_13 ?_
    obtain ⟨q8, e7, h⟩ := xb h
    refine mc_v (va_runV (As := [.int (7 : Int32), .int (xgi S 0 6)]) (rest := []) ⟨hx, hb, hml, hown, hts⟩ (c_MO_fail l D lay cA S (7 : Int32) (xgi S 0 6) q8 e7) (cwV 2 hts (xT_V wd_890 wd_892 wp_31 wd_7 wd_893) rfl rfl rfl (by decide +kernel) ⟨Nat.le_of_ble_eq_true rfl, Nat.le_of_ble_eq_true rfl⟩) (mpV E hP hS (by decide) (mc_0 _ _ _ _) rfl) rfl rfl hl.1 rfl (lv_room (Nat.le_of_ble_eq_true rfl)) d_MO_readErrors_16 ⟨Nat.le_of_ble_eq_true rfl, Nat.le_of_ble_eq_true rfl⟩) hS (fun H locs hP hS => ?_)
    have h9 := Option.some.inj h
    subst h9
    exact W.vret hx hb hr (fun t ht hW => ⟨⟨(), rfl, trivial, by show va_P D xcl _ t.heap; rw [ht]; exact hP⟩, hS.F ht⟩) hS.2.2 d_MO_readErrors_19
theorem c_MO_readErrors (l : Launch) (D : va_G) (lay : Nat → Nat) (cA : Nat → ClassId) (S : XS) (a1 : Int32) (r : XS) (h : f_MO_readErrors S a1 = some r) : Met l y_MO_readErrors (.code y_MO_readErrors b_MO_readErrors 3 ((Option.none : Option Jvm.ClassFile.FieldType)) :: xT) rm_MO_readErrors (mPc D lay cA S [.ref (lay 0), .int a1]) (mqv D lay cA r) 0 0 (mI lay) := by
  refine Met.ofW (cc := b_MO_readErrors) (maxL := 3) (ret := (Option.none : Option Jvm.ClassFile.FieldType)) (by decide +kernel) rfl ?_
  intro p e s m args below meth c s₁ B hml hv
  obtain ⟨rfl, hP, E⟩ := hv
  have C := xB_of B hml
  have hl := lv_entry ([.ref (lay 0), .int a1]) (n := 3) (Nat.le_of_ble_eq_true rfl)
  rw [lg_entry_eq]
  generalize (lg_sl ([.ref (lay 0), .int a1]) ++ List.replicate (3 - (lg_sl ([.ref (lay 0), .int a1])).length) Slot.unset).toArray = ls at hl ⊢
  exact k_MO_readErrors l C E S a1 r h s.heap [] ls hP va_S.rf hl
/-! ConfigTextsModel.thingOf(I)V -/
def rm_MO_thingOf : Room := { frames := 6, cells := 0, slots := 0, locals := 136 }
theorem d_MO_thingOf_0 : decode b_MO_thingOf 0 = .ok (.aload_n 0, 1) := by decide +kernel
theorem d_MO_thingOf_1 : decode b_MO_thingOf 1 = .ok (.getfield 197, 3) := by decide +kernel
theorem d_MO_thingOf_4 : decode b_MO_thingOf 4 = .ok (.iconst 2, 1) := by decide +kernel
theorem d_MO_thingOf_5 : decode b_MO_thingOf 5 = .ok (.if_icmp .ne 10, 3) := by decide +kernel
theorem d_MO_thingOf_8 : decode b_MO_thingOf 8 = .ok (.aload_n 0, 1) := by decide +kernel
theorem d_MO_thingOf_9 : decode b_MO_thingOf 9 = .ok (.getfield 194, 3) := by decide +kernel
theorem d_MO_thingOf_12 : decode b_MO_thingOf 12 = .ok (.goto 4, 3) := by decide +kernel
theorem d_MO_thingOf_15 : decode b_MO_thingOf 15 = .ok (.iconst (-1), 1) := by decide +kernel
theorem d_MO_thingOf_16 : decode b_MO_thingOf 16 = .ok (.tableswitch 134 2 16 #[76, 134, 134, 134, 134, 134, 134, 84, 92, 101, 109, 118, 134, 134, 126], 76) := by decide +kernel
theorem d_MO_thingOf_92 : decode b_MO_thingOf 92 = .ok (.aload_n 0, 1) := by decide +kernel
theorem d_MO_thingOf_93 : decode b_MO_thingOf 93 = .ok (.iload_n 1, 1) := by decide +kernel
theorem d_MO_thingOf_94 : decode b_MO_thingOf 94 = .ok (.invokevirtual 273, 3) := by decide +kernel
theorem d_MO_thingOf_97 : decode b_MO_thingOf 97 = .ok (.goto 58, 3) := by decide +kernel
theorem d_MO_thingOf_100 : decode b_MO_thingOf 100 = .ok (.aload_n 0, 1) := by decide +kernel
theorem d_MO_thingOf_101 : decode b_MO_thingOf 101 = .ok (.iload_n 1, 1) := by decide +kernel
theorem d_MO_thingOf_102 : decode b_MO_thingOf 102 = .ok (.invokevirtual 276, 3) := by decide +kernel
theorem d_MO_thingOf_105 : decode b_MO_thingOf 105 = .ok (.goto 50, 3) := by decide +kernel
theorem d_MO_thingOf_108 : decode b_MO_thingOf 108 = .ok (.aload_n 0, 1) := by decide +kernel
theorem d_MO_thingOf_109 : decode b_MO_thingOf 109 = .ok (.iload_n 1, 1) := by decide +kernel
theorem d_MO_thingOf_110 : decode b_MO_thingOf 110 = .ok (.iconst 2, 1) := by decide +kernel
theorem d_MO_thingOf_111 : decode b_MO_thingOf 111 = .ok (.invokevirtual 279, 3) := by decide +kernel
theorem d_MO_thingOf_114 : decode b_MO_thingOf 114 = .ok (.goto 41, 3) := by decide +kernel
theorem d_MO_thingOf_117 : decode b_MO_thingOf 117 = .ok (.aload_n 0, 1) := by decide +kernel
theorem d_MO_thingOf_118 : decode b_MO_thingOf 118 = .ok (.iload_n 1, 1) := by decide +kernel
theorem d_MO_thingOf_119 : decode b_MO_thingOf 119 = .ok (.invokevirtual 282, 3) := by decide +kernel
theorem d_MO_thingOf_122 : decode b_MO_thingOf 122 = .ok (.goto 33, 3) := by decide +kernel
theorem d_MO_thingOf_125 : decode b_MO_thingOf 125 = .ok (.aload_n 0, 1) := by decide +kernel
theorem d_MO_thingOf_126 : decode b_MO_thingOf 126 = .ok (.iload_n 1, 1) := by decide +kernel
theorem d_MO_thingOf_127 : decode b_MO_thingOf 127 = .ok (.iconst 4, 1) := by decide +kernel
theorem d_MO_thingOf_128 : decode b_MO_thingOf 128 = .ok (.invokevirtual 279, 3) := by decide +kernel
theorem d_MO_thingOf_131 : decode b_MO_thingOf 131 = .ok (.goto 24, 3) := by decide +kernel
theorem d_MO_thingOf_134 : decode b_MO_thingOf 134 = .ok (.aload_n 0, 1) := by decide +kernel
theorem d_MO_thingOf_135 : decode b_MO_thingOf 135 = .ok (.iload_n 1, 1) := by decide +kernel
theorem d_MO_thingOf_136 : decode b_MO_thingOf 136 = .ok (.invokevirtual 285, 3) := by decide +kernel
theorem d_MO_thingOf_139 : decode b_MO_thingOf 139 = .ok (.goto 16, 3) := by decide +kernel
theorem d_MO_thingOf_142 : decode b_MO_thingOf 142 = .ok (.aload_n 0, 1) := by decide +kernel
theorem d_MO_thingOf_143 : decode b_MO_thingOf 143 = .ok (.iload_n 1, 1) := by decide +kernel
theorem d_MO_thingOf_144 : decode b_MO_thingOf 144 = .ok (.invokevirtual 288, 3) := by decide +kernel
theorem d_MO_thingOf_147 : decode b_MO_thingOf 147 = .ok (.goto 8, 3) := by decide +kernel
theorem d_MO_thingOf_150 : decode b_MO_thingOf 150 = .ok (.aload_n 0, 1) := by decide +kernel
theorem d_MO_thingOf_151 : decode b_MO_thingOf 151 = .ok (.iconst 1, 1) := by decide +kernel
theorem d_MO_thingOf_152 : decode b_MO_thingOf 152 = .ok (.invokevirtual 221, 3) := by decide +kernel
theorem d_MO_thingOf_155 : decode b_MO_thingOf 155 = .ok (.return_, 1) := by decide +kernel
def f_MO_thingOf_16 (S : XS) (a1 : Int32) (t0 : Int32) : Option (XS) :=
  if t0 = 2 then ((f_MO_readProcess S a1).bind fun q3 => some q3) else (if t0 = 9 then ((f_MO_semaphore S a1).bind fun q6 => some q6) else (if t0 = 10 then ((f_MO_plain S a1 (2 : Int32)).bind fun q9 => some q9) else (if t0 = 11 then ((f_MO_buffer S a1).bind fun q12 => some q12) else (if t0 = 12 then ((f_MO_plain S a1 (4 : Int32)).bind fun q15 => some q15) else (if t0 = 13 then ((f_MO_port S a1).bind fun q18 => some q18) else (if t0 = 16 then ((f_MO_readErrors S a1).bind fun q21 => some q21) else ((f_MO_bad S (1 : Int32)).bind fun q24 => some q24)))))))
set_option maxHeartbeats 4000000 in
set_option maxRecDepth 100000 in
theorem k_MO_thingOf_16 (l : Launch) {p : Program} {e : Env} {s : State} {m : MethodId} {args : Array Value} {below : List Frame} {meth : Method} {c : Code} {D : va_G} {lay : Nat → Nat} {cA : Nat → ClassId} (C : xB p s m args meth c R_MO b_MO_thingOf ((Option.none : Option Jvm.ClassFile.FieldType)) 2) (E : mE D lay cA s s.heap) : ∀ (S : XS) (a1 : Int32) (t0 : Int32) (r : XS) (_ : f_MO_thingOf_16 S a1 t0 = some r) (H : Heap) (locs : List Loc) (ls : Array Slot), va_P D xcl (mw lay cA S) H → va_S (mI lay) s.heap H locs → lv_has ls 2 [(0, .ref (lay 0)), (1, .int a1)] → W p l e rm_MO_thingOf s m args below meth c H locs 0 0 (MQ below (mqv D lay cA r) args s 0 0 (mI lay)) (F0 m 16 ls [.int t0]) := by
  obtain ⟨hx, hb, hr, hml, hown, hts, hlk, hnh⟩ := id C
  have hK := E.K
  intro S a1 t0 r h H locs ls hP hS hl
  unfold f_MO_thingOf_16 at h
  by_cases c_4 : t0 = 2
  · have h := xif_t c_4 h
    refine lv_tableIn (off := 76) (tgt := 92) hx hb d_MO_thingOf_16 (by rw [c_4]; decide) (by rw [c_4]; decide) (by rw [c_4]; decide) (by decide) ?_
    refine lv_aload_n hx hb d_MO_thingOf_92 rfl (lv_at hl 0 rfl) ?_
    refine lv_iload_n hx hb d_MO_thingOf_93 rfl (lv_at hl 1 rfl) ?_
    obtain ⟨q3, e2, h⟩ := xb h
    refine mc_v (va_runV (As := [.int a1]) (rest := []) ⟨hx, hb, hml, hown, hts⟩ (c_MO_readProcess l D lay cA S a1 q3 e2) (cwV 1 hts (xT_V wd_922 wd_924 wp_39 wd_7 wd_925) rfl rfl rfl (by decide +kernel) ⟨Nat.le_of_ble_eq_true rfl, Nat.le_of_ble_eq_true rfl⟩) (mpV E hP hS (by decide) (mc_0 _ _ _ _) rfl) rfl rfl hl.1 rfl (lv_room (Nat.le_of_ble_eq_true rfl)) d_MO_thingOf_94 ⟨Nat.le_of_ble_eq_true rfl, Nat.le_of_ble_eq_true rfl⟩) hS (fun H locs hP hS => ?_)
    refine lv_goto (tgt := 155) hx hb d_MO_thingOf_97 (by decide) ?_
    have h9 := Option.some.inj h
    subst h9
    exact W.vret hx hb hr (fun t ht hW => ⟨⟨(), rfl, trivial, by show va_P D xcl _ t.heap; rw [ht]; exact hP⟩, hS.F ht⟩) hS.2.2 d_MO_thingOf_155
  · have h := xif_f c_4 h
    by_cases c_7 : t0 = 9
    · have h := xif_t c_7 h
      refine lv_tableIn (off := 84) (tgt := 100) hx hb d_MO_thingOf_16 (by rw [c_7]; decide) (by rw [c_7]; decide) (by rw [c_7]; decide) (by decide) ?_
      refine lv_aload_n hx hb d_MO_thingOf_100 rfl (lv_at hl 0 rfl) ?_
      refine lv_iload_n hx hb d_MO_thingOf_101 rfl (lv_at hl 1 rfl) ?_
      obtain ⟨q6, e5, h⟩ := xb h
      refine mc_v (va_runV (As := [.int a1]) (rest := []) ⟨hx, hb, hml, hown, hts⟩ (c_MO_semaphore l D lay cA S a1 q6 e5) (cwV 1 hts (xT_V wd_942 wd_944 wp_43 wd_7 wd_945) rfl rfl rfl (by decide +kernel) ⟨Nat.le_of_ble_eq_true rfl, Nat.le_of_ble_eq_true rfl⟩) (mpV E hP hS (by decide) (mc_0 _ _ _ _) rfl) rfl rfl hl.1 rfl (lv_room (Nat.le_of_ble_eq_true rfl)) d_MO_thingOf_102 ⟨Nat.le_of_ble_eq_true rfl, Nat.le_of_ble_eq_true rfl⟩) hS (fun H locs hP hS => ?_)
      refine lv_goto (tgt := 155) hx hb d_MO_thingOf_105 (by decide) ?_
      have h9 := Option.some.inj h
      subst h9
      exact W.vret hx hb hr (fun t ht hW => ⟨⟨(), rfl, trivial, by show va_P D xcl _ t.heap; rw [ht]; exact hP⟩, hS.F ht⟩) hS.2.2 d_MO_thingOf_155
    · have h := xif_f c_7 h
      by_cases c_10 : t0 = 10
      · have h := xif_t c_10 h
        refine lv_tableIn (off := 92) (tgt := 108) hx hb d_MO_thingOf_16 (by rw [c_10]; decide) (by rw [c_10]; decide) (by rw [c_10]; decide) (by decide) ?_
        refine lv_aload_n hx hb d_MO_thingOf_108 rfl (lv_at hl 0 rfl) ?_
        refine lv_iload_n hx hb d_MO_thingOf_109 rfl (lv_at hl 1 rfl) ?_
        refine lv_iconst (v := (2 : Int32)) hx hb d_MO_thingOf_110 (by decide) ?_
        obtain ⟨q9, e8, h⟩ := xb h
        refine mc_v (va_runV (As := [.int a1, .int (2 : Int32)]) (rest := []) ⟨hx, hb, hml, hown, hts⟩ (c_MO_plain l D lay cA S a1 (2 : Int32) q9 e8) (cwV 2 hts (xT_V wd_946 wd_948 wp_44 wd_7 wd_949) rfl rfl rfl (by decide +kernel) ⟨Nat.le_of_ble_eq_true rfl, Nat.le_of_ble_eq_true rfl⟩) (mpV E hP hS (by decide) (mc_0 _ _ _ _) rfl) rfl rfl hl.1 rfl (lv_room (Nat.le_of_ble_eq_true rfl)) d_MO_thingOf_111 ⟨Nat.le_of_ble_eq_true rfl, Nat.le_of_ble_eq_true rfl⟩) hS (fun H locs hP hS => ?_)
        refine lv_goto (tgt := 155) hx hb d_MO_thingOf_114 (by decide) ?_
        have h9 := Option.some.inj h
        subst h9
        exact W.vret hx hb hr (fun t ht hW => ⟨⟨(), rfl, trivial, by show va_P D xcl _ t.heap; rw [ht]; exact hP⟩, hS.F ht⟩) hS.2.2 d_MO_thingOf_155
      · have h := xif_f c_10 h
        by_cases c_13 : t0 = 11
        · have h := xif_t c_13 h
          refine lv_tableIn (off := 101) (tgt := 117) hx hb d_MO_thingOf_16 (by rw [c_13]; decide) (by rw [c_13]; decide) (by rw [c_13]; decide) (by decide) ?_
          refine lv_aload_n hx hb d_MO_thingOf_117 rfl (lv_at hl 0 rfl) ?_
          refine lv_iload_n hx hb d_MO_thingOf_118 rfl (lv_at hl 1 rfl) ?_
          obtain ⟨q12, e11, h⟩ := xb h
          refine mc_v (va_runV (As := [.int a1]) (rest := []) ⟨hx, hb, hml, hown, hts⟩ (c_MO_buffer l D lay cA S a1 q12 e11) (cwV 1 hts (xT_V wd_950 wd_952 wp_45 wd_7 wd_953) rfl rfl rfl (by decide +kernel) ⟨Nat.le_of_ble_eq_true rfl, Nat.le_of_ble_eq_true rfl⟩) (mpV E hP hS (by decide) (mc_0 _ _ _ _) rfl) rfl rfl hl.1 rfl (lv_room (Nat.le_of_ble_eq_true rfl)) d_MO_thingOf_119 ⟨Nat.le_of_ble_eq_true rfl, Nat.le_of_ble_eq_true rfl⟩) hS (fun H locs hP hS => ?_)
          refine lv_goto (tgt := 155) hx hb d_MO_thingOf_122 (by decide) ?_
          have h9 := Option.some.inj h
          subst h9
          exact W.vret hx hb hr (fun t ht hW => ⟨⟨(), rfl, trivial, by show va_P D xcl _ t.heap; rw [ht]; exact hP⟩, hS.F ht⟩) hS.2.2 d_MO_thingOf_155
        · have h := xif_f c_13 h
          by_cases c_16 : t0 = 12
          · have h := xif_t c_16 h
            refine lv_tableIn (off := 109) (tgt := 125) hx hb d_MO_thingOf_16 (by rw [c_16]; decide) (by rw [c_16]; decide) (by rw [c_16]; decide) (by decide) ?_
            refine lv_aload_n hx hb d_MO_thingOf_125 rfl (lv_at hl 0 rfl) ?_
            refine lv_iload_n hx hb d_MO_thingOf_126 rfl (lv_at hl 1 rfl) ?_
            refine lv_iconst (v := (4 : Int32)) hx hb d_MO_thingOf_127 (by decide) ?_
            obtain ⟨q15, e14, h⟩ := xb h
            refine mc_v (va_runV (As := [.int a1, .int (4 : Int32)]) (rest := []) ⟨hx, hb, hml, hown, hts⟩ (c_MO_plain l D lay cA S a1 (4 : Int32) q15 e14) (cwV 2 hts (xT_V wd_946 wd_948 wp_44 wd_7 wd_949) rfl rfl rfl (by decide +kernel) ⟨Nat.le_of_ble_eq_true rfl, Nat.le_of_ble_eq_true rfl⟩) (mpV E hP hS (by decide) (mc_0 _ _ _ _) rfl) rfl rfl hl.1 rfl (lv_room (Nat.le_of_ble_eq_true rfl)) d_MO_thingOf_128 ⟨Nat.le_of_ble_eq_true rfl, Nat.le_of_ble_eq_true rfl⟩) hS (fun H locs hP hS => ?_)
            refine lv_goto (tgt := 155) hx hb d_MO_thingOf_131 (by decide) ?_
            have h9 := Option.some.inj h
            subst h9
            exact W.vret hx hb hr (fun t ht hW => ⟨⟨(), rfl, trivial, by show va_P D xcl _ t.heap; rw [ht]; exact hP⟩, hS.F ht⟩) hS.2.2 d_MO_thingOf_155
          · have h := xif_f c_16 h
            by_cases c_19 : t0 = 13
            · have h := xif_t c_19 h
              refine lv_tableIn (off := 118) (tgt := 134) hx hb d_MO_thingOf_16 (by rw [c_19]; decide) (by rw [c_19]; decide) (by rw [c_19]; decide) (by decide) ?_
              refine lv_aload_n hx hb d_MO_thingOf_134 rfl (lv_at hl 0 rfl) ?_
              refine lv_iload_n hx hb d_MO_thingOf_135 rfl (lv_at hl 1 rfl) ?_
              obtain ⟨q18, e17, h⟩ := xb h
              refine mc_v (va_runV (As := [.int a1]) (rest := []) ⟨hx, hb, hml, hown, hts⟩ (c_MO_port l D lay cA S a1 q18 e17) (cwV 1 hts (xT_V wd_954 wd_956 wp_46 wd_7 wd_957) rfl rfl rfl (by decide +kernel) ⟨Nat.le_of_ble_eq_true rfl, Nat.le_of_ble_eq_true rfl⟩) (mpV E hP hS (by decide) (mc_0 _ _ _ _) rfl) rfl rfl hl.1 rfl (lv_room (Nat.le_of_ble_eq_true rfl)) d_MO_thingOf_136 ⟨Nat.le_of_ble_eq_true rfl, Nat.le_of_ble_eq_true rfl⟩) hS (fun H locs hP hS => ?_)
              refine lv_goto (tgt := 155) hx hb d_MO_thingOf_139 (by decide) ?_
              have h9 := Option.some.inj h
              subst h9
              exact W.vret hx hb hr (fun t ht hW => ⟨⟨(), rfl, trivial, by show va_P D xcl _ t.heap; rw [ht]; exact hP⟩, hS.F ht⟩) hS.2.2 d_MO_thingOf_155
            · have h := xif_f c_19 h
              by_cases c_22 : t0 = 16
              · have h := xif_t c_22 h
                refine lv_tableIn (off := 126) (tgt := 142) hx hb d_MO_thingOf_16 (by rw [c_22]; decide) (by rw [c_22]; decide) (by rw [c_22]; decide) (by decide) ?_
                refine lv_aload_n hx hb d_MO_thingOf_142 rfl (lv_at hl 0 rfl) ?_
                refine lv_iload_n hx hb d_MO_thingOf_143 rfl (lv_at hl 1 rfl) ?_
                obtain ⟨q21, e20, h⟩ := xb h
                refine mc_v (va_runV (As := [.int a1]) (rest := []) ⟨hx, hb, hml, hown, hts⟩ (c_MO_readErrors l D lay cA S a1 q21 e20) (cwV 1 hts (xT_V wd_958 wd_960 wp_47 wd_7 wd_961) rfl rfl rfl (by decide +kernel) ⟨Nat.le_of_ble_eq_true rfl, Nat.le_of_ble_eq_true rfl⟩) (mpV E hP hS (by decide) (mc_0 _ _ _ _) rfl) rfl rfl hl.1 rfl (lv_room (Nat.le_of_ble_eq_true rfl)) d_MO_thingOf_144 ⟨Nat.le_of_ble_eq_true rfl, Nat.le_of_ble_eq_true rfl⟩) hS (fun H locs hP hS => ?_)
                refine lv_goto (tgt := 155) hx hb d_MO_thingOf_147 (by decide) ?_
                have h9 := Option.some.inj h
                subst h9
                exact W.vret hx hb hr (fun t ht hW => ⟨⟨(), rfl, trivial, by show va_P D xcl _ t.heap; rw [ht]; exact hP⟩, hS.F ht⟩) hS.2.2 d_MO_thingOf_155
              · have h := xif_f c_22 h
                have nc_4 := lv_neT (k := 2) (a := 2) c_4 (by decide)
                have nc_7 := lv_neT (k := 9) (a := 9) c_7 (by decide)
                have nc_10 := lv_neT (k := 10) (a := 10) c_10 (by decide)
                have nc_13 := lv_neT (k := 11) (a := 11) c_13 (by decide)
                have nc_16 := lv_neT (k := 12) (a := 12) c_16 (by decide)
                have nc_19 := lv_neT (k := 13) (a := 13) c_19 (by decide)
                have nc_22 := lv_neT (k := 16) (a := 16) c_22 (by decide)
                have zz25 : ¬ t0.toInt < 2 → ¬ 16 < t0.toInt → (t0.toInt = 3 ∨ t0.toInt = 4 ∨ t0.toInt = 5 ∨ t0.toInt = 6 ∨ t0.toInt = 7 ∨ t0.toInt = 8 ∨ t0.toInt = 14 ∨ t0.toInt = 15) := by omega
                refine xtab (tgt := 150) hx hb d_MO_thingOf_16 (by decide) (fun z1 z2 => by rcases zz25 z1 z2 with z3 | z3 | z3 | z3 | z3 | z3 | z3 | z3 <;> rw [z3] <;> rfl) ?_
                refine lv_aload_n hx hb d_MO_thingOf_150 rfl (lv_at hl 0 rfl) ?_
                refine lv_iconst (v := (1 : Int32)) hx hb d_MO_thingOf_151 (by decide) ?_
                obtain ⟨q24, e23, h⟩ := xb h
                refine mc_v (va_runV (As := [.int (1 : Int32)]) (rest := []) ⟨hx, hb, hml, hown, hts⟩ (c_MO_bad l D lay cA S (1 : Int32) q24 e23) (cwV 1 hts (xT_V wd_886 wd_888 wp_30 wd_7 wd_889) rfl rfl rfl (by decide +kernel) ⟨Nat.le_of_ble_eq_true rfl, Nat.le_of_ble_eq_true rfl⟩) (mpV E hP hS (by decide) (mc_0 _ _ _ _) rfl) rfl rfl hl.1 rfl (lv_room (Nat.le_of_ble_eq_true rfl)) d_MO_thingOf_152 ⟨Nat.le_of_ble_eq_true rfl, Nat.le_of_ble_eq_true rfl⟩) hS (fun H locs hP hS => ?_)
                have h9 := Option.some.inj h
                subst h9
                exact W.vret hx hb hr (fun t ht hW => ⟨⟨(), rfl, trivial, by show va_P D xcl _ t.heap; rw [ht]; exact hP⟩, hS.F ht⟩) hS.2.2 d_MO_thingOf_155
def f_MO_thingOf (S : XS) (a1 : Int32) : Option (XS) :=
  if (xgi S 0 8) = (2 : Int32) then (f_MO_thingOf_16 S a1 (xgi S 0 9)) else (f_MO_thingOf_16 S a1 (-1 : Int32))
set_option maxHeartbeats 4000000 in
set_option maxRecDepth 100000 in
theorem k_MO_thingOf (l : Launch) {p : Program} {e : Env} {s : State} {m : MethodId} {args : Array Value} {below : List Frame} {meth : Method} {c : Code} {D : va_G} {lay : Nat → Nat} {cA : Nat → ClassId} (C : xB p s m args meth c R_MO b_MO_thingOf ((Option.none : Option Jvm.ClassFile.FieldType)) 2) (E : mE D lay cA s s.heap) : ∀ (S : XS) (a1 : Int32) (r : XS) (_ : f_MO_thingOf S a1 = some r) (H : Heap) (locs : List Loc) (ls : Array Slot), va_P D xcl (mw lay cA S) H → va_S (mI lay) s.heap H locs → lv_has ls 2 [(0, .ref (lay 0)), (1, .int a1)] → W p l e rm_MO_thingOf s m args below meth c H locs 0 0 (MQ below (mqv D lay cA r) args s 0 0 (mI lay)) (F0 m 0 ls []) := by
  obtain ⟨hx, hb, hr, hml, hown, hts, hlk, hnh⟩ := id C
  have hK := E.K
  intro S a1 r h H locs ls hP hS hl
  unfold f_MO_thingOf at h
  refine lv_aload_n hx hb d_MO_thingOf_0 rfl (lv_at hl 0 rfl) ?_
  refine va_get (v := .int (xgi S 0 8)) (C := R_MO) (T := F_MO) (N := 41) hx hb hts i_MO hown hK hP 0 (mw_at (by decide) (mc_0 _ _ _ _)) rfl 8 (by decide) (hts _ wd_708) (fun _ h9 => h9) rfl d_MO_thingOf_1 ?_
  refine lv_iconst (v := (2 : Int32)) hx hb d_MO_thingOf_4 (by decide) ?_
  refine lv_icmp_ne (tgt := 15) hx hb d_MO_thingOf_5 (by decide) (fun c_1 => ?_) (fun c_1 => ?_)
  · have h := xif_f c_1 h
    refine lv_iconst (v := (-1 : Int32)) hx hb d_MO_thingOf_15 (by decide) ?_
    exact k_MO_thingOf_16 l C E S a1 (-1 : Int32) _ h H locs ls hP hS hl
  · have h := xif_t c_1 h
    refine lv_aload_n hx hb d_MO_thingOf_8 rfl (lv_at hl 0 rfl) ?_
    refine va_get (v := .int (xgi S 0 9)) (C := R_MO) (T := F_MO) (N := 41) hx hb hts i_MO hown hK hP 0 (mw_at (by decide) (mc_0 _ _ _ _)) rfl 9 (by decide) (hts _ wd_709) (fun _ h9 => h9) rfl d_MO_thingOf_9 ?_
    refine lv_goto (tgt := 16) hx hb d_MO_thingOf_12 (by decide) ?_
    exact k_MO_thingOf_16 l C E S a1 (xgi S 0 9) _ h H locs ls hP hS hl
theorem c_MO_thingOf (l : Launch) (D : va_G) (lay : Nat → Nat) (cA : Nat → ClassId) (S : XS) (a1 : Int32) (r : XS) (h : f_MO_thingOf S a1 = some r) : Met l y_MO_thingOf (.code y_MO_thingOf b_MO_thingOf 2 ((Option.none : Option Jvm.ClassFile.FieldType)) :: xT) rm_MO_thingOf (mPc D lay cA S [.ref (lay 0), .int a1]) (mqv D lay cA r) 0 0 (mI lay) := by
  refine Met.ofW (cc := b_MO_thingOf) (maxL := 2) (ret := (Option.none : Option Jvm.ClassFile.FieldType)) (by decide +kernel) rfl ?_
  intro p e s m args below meth c s₁ B hml hv
  obtain ⟨rfl, hP, E⟩ := hv
  have C := xB_of B hml
  have hl := lv_entry ([.ref (lay 0), .int a1]) (n := 2) (Nat.le_of_ble_eq_true rfl)
  rw [lg_entry_eq]
  generalize (lg_sl ([.ref (lay 0), .int a1]) ++ List.replicate (2 - (lg_sl ([.ref (lay 0), .int a1])).length) Slot.unset).toArray = ls at hl ⊢
  exact k_MO_thingOf l C E S a1 r h s.heap [] ls hP va_S.rf hl
/-! ConfigTextsModel.clear(I)V -/
def rm_MO_clear : Room := { frames := 0, cells := 0, slots := 0, locals := 0 }
theorem d_MO_clear_0 : decode b_MO_clear 0 = .ok (.aload_n 0, 1) := by decide +kernel
theorem d_MO_clear_1 : decode b_MO_clear 1 = .ok (.getfield 103, 3) := by decide +kernel
theorem d_MO_clear_4 : decode b_MO_clear 4 = .ok (.iload_n 1, 1) := by decide +kernel
theorem d_MO_clear_5 : decode b_MO_clear 5 = .ok (.iconst (-1), 1) := by decide +kernel
theorem d_MO_clear_6 : decode b_MO_clear 6 = .ok (.iastore, 1) := by decide +kernel
theorem d_MO_clear_7 : decode b_MO_clear 7 = .ok (.aload_n 0, 1) := by decide +kernel
theorem d_MO_clear_8 : decode b_MO_clear 8 = .ok (.getfield 106, 3) := by decide +kernel
theorem d_MO_clear_11 : decode b_MO_clear 11 = .ok (.iload_n 1, 1) := by decide +kernel
theorem d_MO_clear_12 : decode b_MO_clear 12 = .ok (.iconst (-1), 1) := by decide +kernel
theorem d_MO_clear_13 : decode b_MO_clear 13 = .ok (.iastore, 1) := by decide +kernel
theorem d_MO_clear_14 : decode b_MO_clear 14 = .ok (.aload_n 0, 1) := by decide +kernel
theorem d_MO_clear_15 : decode b_MO_clear 15 = .ok (.getfield 115, 3) := by decide +kernel
theorem d_MO_clear_18 : decode b_MO_clear 18 = .ok (.iload_n 1, 1) := by decide +kernel
theorem d_MO_clear_19 : decode b_MO_clear 19 = .ok (.iconst 0, 1) := by decide +kernel
theorem d_MO_clear_20 : decode b_MO_clear 20 = .ok (.bastore, 1) := by decide +kernel
theorem d_MO_clear_21 : decode b_MO_clear 21 = .ok (.aload_n 0, 1) := by decide +kernel
theorem d_MO_clear_22 : decode b_MO_clear 22 = .ok (.getfield 122, 3) := by decide +kernel
theorem d_MO_clear_25 : decode b_MO_clear 25 = .ok (.iload_n 1, 1) := by decide +kernel
theorem d_MO_clear_26 : decode b_MO_clear 26 = .ok (.iconst 0, 1) := by decide +kernel
theorem d_MO_clear_27 : decode b_MO_clear 27 = .ok (.iastore, 1) := by decide +kernel
theorem d_MO_clear_28 : decode b_MO_clear 28 = .ok (.iconst 0, 1) := by decide +kernel
theorem d_MO_clear_29 : decode b_MO_clear 29 = .ok (.istore_n 2, 1) := by decide +kernel
theorem d_MO_clear_30 : decode b_MO_clear 30 = .ok (.iload_n 2, 1) := by decide +kernel
theorem d_MO_clear_31 : decode b_MO_clear 31 = .ok (.iconst 4, 1) := by decide +kernel
theorem d_MO_clear_32 : decode b_MO_clear 32 = .ok (.if_icmp .ge 20, 3) := by decide +kernel
theorem d_MO_clear_35 : decode b_MO_clear 35 = .ok (.aload_n 0, 1) := by decide +kernel
theorem d_MO_clear_36 : decode b_MO_clear 36 = .ok (.getfield 109, 3) := by decide +kernel
theorem d_MO_clear_39 : decode b_MO_clear 39 = .ok (.iconst 4, 1) := by decide +kernel
theorem d_MO_clear_40 : decode b_MO_clear 40 = .ok (.iload_n 1, 1) := by decide +kernel
theorem d_MO_clear_41 : decode b_MO_clear 41 = .ok (.imul, 1) := by decide +kernel
theorem d_MO_clear_42 : decode b_MO_clear 42 = .ok (.iload_n 2, 1) := by decide +kernel
theorem d_MO_clear_43 : decode b_MO_clear 43 = .ok (.iadd, 1) := by decide +kernel
theorem d_MO_clear_44 : decode b_MO_clear 44 = .ok (.iconst 0, 1) := by decide +kernel
theorem d_MO_clear_45 : decode b_MO_clear 45 = .ok (.iastore, 1) := by decide +kernel
theorem d_MO_clear_46 : decode b_MO_clear 46 = .ok (.iinc 2 1, 3) := by decide +kernel
theorem d_MO_clear_49 : decode b_MO_clear 49 = .ok (.goto (-19), 3) := by decide +kernel
theorem d_MO_clear_52 : decode b_MO_clear 52 = .ok (.iconst 0, 1) := by decide +kernel
theorem d_MO_clear_53 : decode b_MO_clear 53 = .ok (.istore_n 2, 1) := by decide +kernel
theorem d_MO_clear_54 : decode b_MO_clear 54 = .ok (.iload_n 2, 1) := by decide +kernel
theorem d_MO_clear_55 : decode b_MO_clear 55 = .ok (.bipush 6, 2) := by decide +kernel
theorem d_MO_clear_57 : decode b_MO_clear 57 = .ok (.if_icmp .ge 21, 3) := by decide +kernel
theorem d_MO_clear_60 : decode b_MO_clear 60 = .ok (.aload_n 0, 1) := by decide +kernel
theorem d_MO_clear_61 : decode b_MO_clear 61 = .ok (.getfield 112, 3) := by decide +kernel
theorem d_MO_clear_64 : decode b_MO_clear 64 = .ok (.bipush 6, 2) := by decide +kernel
theorem d_MO_clear_66 : decode b_MO_clear 66 = .ok (.iload_n 1, 1) := by decide +kernel
theorem d_MO_clear_67 : decode b_MO_clear 67 = .ok (.imul, 1) := by decide +kernel
theorem d_MO_clear_68 : decode b_MO_clear 68 = .ok (.iload_n 2, 1) := by decide +kernel
theorem d_MO_clear_69 : decode b_MO_clear 69 = .ok (.iadd, 1) := by decide +kernel
theorem d_MO_clear_70 : decode b_MO_clear 70 = .ok (.iconst 0, 1) := by decide +kernel
theorem d_MO_clear_71 : decode b_MO_clear 71 = .ok (.iastore, 1) := by decide +kernel
theorem d_MO_clear_72 : decode b_MO_clear 72 = .ok (.iinc 2 1, 3) := by decide +kernel
theorem d_MO_clear_75 : decode b_MO_clear 75 = .ok (.goto (-21), 3) := by decide +kernel
theorem d_MO_clear_78 : decode b_MO_clear 78 = .ok (.return_, 1) := by decide +kernel
def f_MO_clear_54 : Nat → XS → Int32 → Int32 → Option (XS)
  | 0, _, _, _ => none
  | n + 1, S, a1, a2 =>
    if (6 : Int32) ≤ a2 then (some S) else (if ¬ ((((6 : Int32) * a1) + a2) < 0 ∨ 48 ≤ (((6 : Int32) * a1) + a2).toNatClampNeg) then (f_MO_clear_54 n (xpi S 10 (((6 : Int32) * a1) + a2).toNatClampNeg (0 : Int32)) a1 (a2 + (1 : Int32))) else none)
set_option maxHeartbeats 4000000 in
set_option maxRecDepth 100000 in
theorem k_MO_clear_54 (l : Launch) {p : Program} {e : Env} {s : State} {m : MethodId} {args : Array Value} {below : List Frame} {meth : Method} {c : Code} {D : va_G} {lay : Nat → Nat} {cA : Nat → ClassId} (C : xB p s m args meth c R_MO b_MO_clear ((Option.none : Option Jvm.ClassFile.FieldType)) 3) (E : mE D lay cA s s.heap) : ∀ (n : Nat) (S : XS) (a1 : Int32) (a2 : Int32) (r : XS) (_ : f_MO_clear_54 n S a1 a2 = some r) (H : Heap) (locs : List Loc) (ls : Array Slot), va_P D xcl (mw lay cA S) H → va_S (mI lay) s.heap H locs → lv_has ls 3 [(0, .ref (lay 0)), (1, .int a1), (2, .int a2)] → W p l e rm_MO_clear s m args below meth c H locs 0 0 (MQ below (mqv D lay cA r) args s 0 0 (mI lay)) (F0 m 54 ls []) := by
  obtain ⟨hx, hb, hr, hml, hown, hts, hlk, hnh⟩ := id C
  have hK := E.K
  intro n
  induction n with
  | zero => intro S a1 a2 r h; rw [f_MO_clear_54] at h; cases h
  | succ n ih =>
    intro S a1 a2 r h H locs ls hP hS hl
    rw [f_MO_clear_54] at h
    refine lv_iload_n hx hb d_MO_clear_54 rfl (lv_at hl 2 rfl) ?_
    refine lv_bipush (v := (6 : Int32)) hx hb d_MO_clear_55 (by decide) ?_
    refine lv_icmp_ge (tgt := 78) hx hb d_MO_clear_57 (by decide) (fun c_8 => ?_) (fun c_8 => ?_)
    · have h := xif_t c_8 h
      have h9 := Option.some.inj h
      subst h9
      exact W.vret hx hb hr (fun t ht hW => ⟨⟨(), rfl, trivial, by show va_P D xcl _ t.heap; rw [ht]; exact hP⟩, hS.F ht⟩) hS.2.2 d_MO_clear_78
    · have h := xif_f c_8 h
      refine lv_aload_n hx hb d_MO_clear_60 rfl (lv_at hl 0 rfl) ?_
      refine va_get (v := .ref (lay 10)) (C := R_MO) (T := F_MO) (N := 41) hx hb hts i_MO hown hK hP 0 (mw_at (by decide) (mc_0 _ _ _ _)) rfl 21 (by decide) (hts _ wd_721) (fun _ h9 => h9) rfl d_MO_clear_61 ?_
      refine lv_bipush (v := (6 : Int32)) hx hb d_MO_clear_64 (by decide) ?_
      refine lv_iload_n hx hb d_MO_clear_66 rfl (lv_at hl 1 rfl) ?_
      refine lv_imul hx hb d_MO_clear_67 ?_
      refine lv_iload_n hx hb d_MO_clear_68 rfl (lv_at hl 2 rfl) ?_
      refine lv_iadd hx hb d_MO_clear_69 ?_
      refine lv_iconst (v := (0 : Int32)) hx hb d_MO_clear_70 (by decide) ?_
      obtain ⟨hg7, h⟩ := xg h
      refine mas_10 hx hb E hP hS hg7 d_MO_clear_71 (fun H locs hP hS => ?_)
      refine lv_iinc (v := a2 + (1 : Int32)) (lv' := [(2, .int (a2 + (1 : Int32))), (0, .ref (lay 0)), (1, .int a1)]) hx hb d_MO_clear_72 hl (k := 2) rfl (by rfl) (by decide) rfl (fun ls hl => ?_)
      refine lv_goto (tgt := 54) hx hb d_MO_clear_75 (by decide) ?_
      exact ih (xpi S 10 (((6 : Int32) * a1) + a2).toNatClampNeg (0 : Int32)) a1 (a2 + (1 : Int32)) _ h H locs ls hP hS (lv_sub hl [1, 2, 0] rfl)
def f_MO_clear_30 : Nat → XS → Int32 → Int32 → Option (XS)
  | 0, _, _, _ => none
  | n + 1, S, a1, a2 =>
    if (4 : Int32) ≤ a2 then (f_MO_clear_54 4096 S a1 (0 : Int32)) else (if ¬ ((((4 : Int32) * a1) + a2) < 0 ∨ 32 ≤ (((4 : Int32) * a1) + a2).toNatClampNeg) then (f_MO_clear_30 n (xpi S 9 (((4 : Int32) * a1) + a2).toNatClampNeg (0 : Int32)) a1 (a2 + (1 : Int32))) else none)
set_option maxHeartbeats 4000000 in
set_option maxRecDepth 100000 in
theorem k_MO_clear_30 (l : Launch) {p : Program} {e : Env} {s : State} {m : MethodId} {args : Array Value} {below : List Frame} {meth : Method} {c : Code} {D : va_G} {lay : Nat → Nat} {cA : Nat → ClassId} (C : xB p s m args meth c R_MO b_MO_clear ((Option.none : Option Jvm.ClassFile.FieldType)) 3) (E : mE D lay cA s s.heap) : ∀ (n : Nat) (S : XS) (a1 : Int32) (a2 : Int32) (r : XS) (_ : f_MO_clear_30 n S a1 a2 = some r) (H : Heap) (locs : List Loc) (ls : Array Slot), va_P D xcl (mw lay cA S) H → va_S (mI lay) s.heap H locs → lv_has ls 3 [(0, .ref (lay 0)), (1, .int a1), (2, .int a2)] → W p l e rm_MO_clear s m args below meth c H locs 0 0 (MQ below (mqv D lay cA r) args s 0 0 (mI lay)) (F0 m 30 ls []) := by
  obtain ⟨hx, hb, hr, hml, hown, hts, hlk, hnh⟩ := id C
  have hK := E.K
  intro n
  induction n with
  | zero => intro S a1 a2 r h; rw [f_MO_clear_30] at h; cases h
  | succ n ih =>
    intro S a1 a2 r h H locs ls hP hS hl
    rw [f_MO_clear_30] at h
    refine lv_iload_n hx hb d_MO_clear_30 rfl (lv_at hl 2 rfl) ?_
    refine lv_iconst (v := (4 : Int32)) hx hb d_MO_clear_31 (by decide) ?_
    refine lv_icmp_ge (tgt := 52) hx hb d_MO_clear_32 (by decide) (fun c_6 => ?_) (fun c_6 => ?_)
    · have h := xif_t c_6 h
      refine lv_iconst (v := (0 : Int32)) hx hb d_MO_clear_52 (by decide) ?_
      refine lv_istore_n (lv' := [(2, .int (0 : Int32)), (0, .ref (lay 0)), (1, .int a1)]) hx hb d_MO_clear_53 rfl hl (by decide) rfl (fun ls hl => ?_)
      exact k_MO_clear_54 l C E 4096 S a1 (0 : Int32) _ h H locs ls hP hS (lv_sub hl [1, 2, 0] rfl)
    · have h := xif_f c_6 h
      refine lv_aload_n hx hb d_MO_clear_35 rfl (lv_at hl 0 rfl) ?_
      refine va_get (v := .ref (lay 9)) (C := R_MO) (T := F_MO) (N := 41) hx hb hts i_MO hown hK hP 0 (mw_at (by decide) (mc_0 _ _ _ _)) rfl 20 (by decide) (hts _ wd_720) (fun _ h9 => h9) rfl d_MO_clear_36 ?_
      refine lv_iconst (v := (4 : Int32)) hx hb d_MO_clear_39 (by decide) ?_
      refine lv_iload_n hx hb d_MO_clear_40 rfl (lv_at hl 1 rfl) ?_
      refine lv_imul hx hb d_MO_clear_41 ?_
      refine lv_iload_n hx hb d_MO_clear_42 rfl (lv_at hl 2 rfl) ?_
      refine lv_iadd hx hb d_MO_clear_43 ?_
      refine lv_iconst (v := (0 : Int32)) hx hb d_MO_clear_44 (by decide) ?_
      obtain ⟨hg5, h⟩ := xg h
      refine mas_9 hx hb E hP hS hg5 d_MO_clear_45 (fun H locs hP hS => ?_)
      refine lv_iinc (v := a2 + (1 : Int32)) (lv' := [(2, .int (a2 + (1 : Int32))), (0, .ref (lay 0)), (1, .int a1)]) hx hb d_MO_clear_46 hl (k := 2) rfl (by rfl) (by decide) rfl (fun ls hl => ?_)
      refine lv_goto (tgt := 30) hx hb d_MO_clear_49 (by decide) ?_
      exact ih (xpi S 9 (((4 : Int32) * a1) + a2).toNatClampNeg (0 : Int32)) a1 (a2 + (1 : Int32)) _ h H locs ls hP hS (lv_sub hl [1, 2, 0] rfl)
def f_MO_clear (S : XS) (a1 : Int32) : Option (XS) :=
  if ¬ (a1 < 0 ∨ 8 ≤ a1.toNatClampNeg) then (if ¬ (a1 < 0 ∨ 8 ≤ a1.toNatClampNeg) then (if ¬ (a1 < 0 ∨ 8 ≤ a1.toNatClampNeg) then (if ¬ (a1 < 0 ∨ 8 ≤ a1.toNatClampNeg) then (f_MO_clear_30 4096 (xpi (xpi (xpi (xpi S 7 a1.toNatClampNeg (-1 : Int32)) 8 a1.toNatClampNeg (-1 : Int32)) 11 a1.toNatClampNeg (vp_nar .boolean (0 : Int32))) 13 a1.toNatClampNeg (0 : Int32)) a1 (0 : Int32)) else none) else none) else none) else none
set_option maxHeartbeats 4000000 in
set_option maxRecDepth 100000 in
theorem k_MO_clear (l : Launch) {p : Program} {e : Env} {s : State} {m : MethodId} {args : Array Value} {below : List Frame} {meth : Method} {c : Code} {D : va_G} {lay : Nat → Nat} {cA : Nat → ClassId} (C : xB p s m args meth c R_MO b_MO_clear ((Option.none : Option Jvm.ClassFile.FieldType)) 3) (E : mE D lay cA s s.heap) : ∀ (S : XS) (a1 : Int32) (r : XS) (_ : f_MO_clear S a1 = some r) (H : Heap) (locs : List Loc) (ls : Array Slot), va_P D xcl (mw lay cA S) H → va_S (mI lay) s.heap H locs → lv_has ls 3 [(0, .ref (lay 0)), (1, .int a1)] → W p l e rm_MO_clear s m args below meth c H locs 0 0 (MQ below (mqv D lay cA r) args s 0 0 (mI lay)) (F0 m 0 ls []) := by
  obtain ⟨hx, hb, hr, hml, hown, hts, hlk, hnh⟩ := id C
  have hK := E.K
  intro S a1 r h H locs ls hP hS hl
  unfold f_MO_clear at h
  refine lv_aload_n hx hb d_MO_clear_0 rfl (lv_at hl 0 rfl) ?_
  refine va_get (v := .ref (lay 7)) (C := R_MO) (T := F_MO) (N := 41) hx hb hts i_MO hown hK hP 0 (mw_at (by decide) (mc_0 _ _ _ _)) rfl 18 (by decide) (hts _ wd_718) (fun _ h9 => h9) rfl d_MO_clear_1 ?_
  refine lv_iload_n hx hb d_MO_clear_4 rfl (lv_at hl 1 rfl) ?_
  refine lv_iconst (v := (-1 : Int32)) hx hb d_MO_clear_5 (by decide) ?_
  obtain ⟨hg1, h⟩ := xg h
  refine mas_7 hx hb E hP hS hg1 d_MO_clear_6 (fun H locs hP hS => ?_)
  refine lv_aload_n hx hb d_MO_clear_7 rfl (lv_at hl 0 rfl) ?_
  refine va_get (v := .ref (lay 8)) (C := R_MO) (T := F_MO) (N := 41) hx hb hts i_MO hown hK hP 0 (mw_at (by decide) (mc_0 _ _ _ _)) rfl 19 (by decide) (hts _ wd_719) (fun _ h9 => h9) rfl d_MO_clear_8 ?_
  refine lv_iload_n hx hb d_MO_clear_11 rfl (lv_at hl 1 rfl) ?_
  refine lv_iconst (v := (-1 : Int32)) hx hb d_MO_clear_12 (by decide) ?_
  obtain ⟨hg2, h⟩ := xg h
  refine mas_8 hx hb E hP hS hg2 d_MO_clear_13 (fun H locs hP hS => ?_)
  refine lv_aload_n hx hb d_MO_clear_14 rfl (lv_at hl 0 rfl) ?_
  refine va_get (v := .ref (lay 11)) (C := R_MO) (T := F_MO) (N := 41) hx hb hts i_MO hown hK hP 0 (mw_at (by decide) (mc_0 _ _ _ _)) rfl 22 (by decide) (hts _ wd_722) (fun _ h9 => h9) rfl d_MO_clear_15 ?_
  refine lv_iload_n hx hb d_MO_clear_18 rfl (lv_at hl 1 rfl) ?_
  refine lv_iconst (v := (0 : Int32)) hx hb d_MO_clear_19 (by decide) ?_
  obtain ⟨hg3, h⟩ := xg h
  refine mas_11 hx hb E hP hS hg3 d_MO_clear_20 (fun H locs hP hS => ?_)
  refine lv_aload_n hx hb d_MO_clear_21 rfl (lv_at hl 0 rfl) ?_
  refine va_get (v := .ref (lay 13)) (C := R_MO) (T := F_MO) (N := 41) hx hb hts i_MO hown hK hP 0 (mw_at (by decide) (mc_0 _ _ _ _)) rfl 24 (by decide) (hts _ wd_724) (fun _ h9 => h9) rfl d_MO_clear_22 ?_
  refine lv_iload_n hx hb d_MO_clear_25 rfl (lv_at hl 1 rfl) ?_
  refine lv_iconst (v := (0 : Int32)) hx hb d_MO_clear_26 (by decide) ?_
  obtain ⟨hg4, h⟩ := xg h
  refine mas_13 hx hb E hP hS hg4 d_MO_clear_27 (fun H locs hP hS => ?_)
  refine lv_iconst (v := (0 : Int32)) hx hb d_MO_clear_28 (by decide) ?_
  refine lv_istore_n (lv' := [(2, .int (0 : Int32)), (0, .ref (lay 0)), (1, .int a1)]) hx hb d_MO_clear_29 rfl hl (by decide) rfl (fun ls hl => ?_)
  exact k_MO_clear_30 l C E 4096 (xpi (xpi (xpi (xpi S 7 a1.toNatClampNeg (-1 : Int32)) 8 a1.toNatClampNeg (-1 : Int32)) 11 a1.toNatClampNeg (vp_nar .boolean (0 : Int32))) 13 a1.toNatClampNeg (0 : Int32)) a1 (0 : Int32) _ h H locs ls hP hS (lv_sub hl [1, 2, 0] rfl)
theorem c_MO_clear (l : Launch) (D : va_G) (lay : Nat → Nat) (cA : Nat → ClassId) (S : XS) (a1 : Int32) (r : XS) (h : f_MO_clear S a1 = some r) : Met l y_MO_clear (.code y_MO_clear b_MO_clear 3 ((Option.none : Option Jvm.ClassFile.FieldType)) :: xT) rm_MO_clear (mPc D lay cA S [.ref (lay 0), .int a1]) (mqv D lay cA r) 0 0 (mI lay) := by
  refine Met.ofW (cc := b_MO_clear) (maxL := 3) (ret := (Option.none : Option Jvm.ClassFile.FieldType)) (by decide +kernel) rfl ?_
  intro p e s m args below meth c s₁ B hml hv
  obtain ⟨rfl, hP, E⟩ := hv
  have C := xB_of B hml
  have hl := lv_entry ([.ref (lay 0), .int a1]) (n := 3) (Nat.le_of_ble_eq_true rfl)
  rw [lg_entry_eq]
  generalize (lg_sl ([.ref (lay 0), .int a1]) ++ List.replicate (3 - (lg_sl ([.ref (lay 0), .int a1])).length) Slot.unset).toArray = ls at hl ⊢
  exact k_MO_clear l C E S a1 r h s.heap [] ls hP va_S.rf hl
/-! ConfigTextsModel.readPartition()V -/
def rm_MO_readPartition : Room := { frames := 7, cells := 0, slots := 0, locals := 157 }
theorem d_MO_readPartition_0 : decode b_MO_readPartition 0 = .ok (.aload_n 0, 1) := by decide +kernel
theorem d_MO_readPartition_1 : decode b_MO_readPartition 1 = .ok (.iconst 0, 1) := by decide +kernel
theorem d_MO_readPartition_2 : decode b_MO_readPartition 2 = .ok (.invokevirtual 231, 3) := by decide +kernel
theorem d_MO_readPartition_5 : decode b_MO_readPartition 5 = .ok (.aload_n 0, 1) := by decide +kernel
theorem d_MO_readPartition_6 : decode b_MO_readPartition 6 = .ok (.invokevirtual 214, 3) := by decide +kernel
theorem d_MO_readPartition_9 : decode b_MO_readPartition 9 = .ok (.ifCond .eq 17, 3) := by decide +kernel
theorem d_MO_readPartition_12 : decode b_MO_readPartition 12 = .ok (.aload_n 0, 1) := by decide +kernel
theorem d_MO_readPartition_13 : decode b_MO_readPartition 13 = .ok (.getfield 241, 3) := by decide +kernel
theorem d_MO_readPartition_16 : decode b_MO_readPartition 16 = .ok (.bipush 8, 2) := by decide +kernel
theorem d_MO_readPartition_18 : decode b_MO_readPartition 18 = .ok (.if_icmp .ne 8, 3) := by decide +kernel
theorem d_MO_readPartition_21 : decode b_MO_readPartition 21 = .ok (.aload_n 0, 1) := by decide +kernel
theorem d_MO_readPartition_22 : decode b_MO_readPartition 22 = .ok (.iconst 4, 1) := by decide +kernel
theorem d_MO_readPartition_23 : decode b_MO_readPartition 23 = .ok (.invokevirtual 221, 3) := by decide +kernel
theorem d_MO_readPartition_26 : decode b_MO_readPartition 26 = .ok (.aload_n 0, 1) := by decide +kernel
theorem d_MO_readPartition_27 : decode b_MO_readPartition 27 = .ok (.getfield 197, 3) := by decide +kernel
theorem d_MO_readPartition_30 : decode b_MO_readPartition 30 = .ok (.iconst 1, 1) := by decide +kernel
theorem d_MO_readPartition_31 : decode b_MO_readPartition 31 = .ok (.if_icmp .eq 8, 3) := by decide +kernel
theorem d_MO_readPartition_34 : decode b_MO_readPartition 34 = .ok (.aload_n 0, 1) := by decide +kernel
theorem d_MO_readPartition_35 : decode b_MO_readPartition 35 = .ok (.iconst 1, 1) := by decide +kernel
theorem d_MO_readPartition_36 : decode b_MO_readPartition 36 = .ok (.invokevirtual 221, 3) := by decide +kernel
theorem d_MO_readPartition_39 : decode b_MO_readPartition 39 = .ok (.aload_n 0, 1) := by decide +kernel
theorem d_MO_readPartition_40 : decode b_MO_readPartition 40 = .ok (.invokevirtual 214, 3) := by decide +kernel
theorem d_MO_readPartition_43 : decode b_MO_readPartition 43 = .ok (.ifCond .eq 24, 3) := by decide +kernel
theorem d_MO_readPartition_46 : decode b_MO_readPartition 46 = .ok (.aload_n 0, 1) := by decide +kernel
theorem d_MO_readPartition_47 : decode b_MO_readPartition 47 = .ok (.aload_n 0, 1) := by decide +kernel
theorem d_MO_readPartition_48 : decode b_MO_readPartition 48 = .ok (.getfield 167, 3) := by decide +kernel
theorem d_MO_readPartition_51 : decode b_MO_readPartition 51 = .ok (.invokevirtual 291, 3) := by decide +kernel
theorem d_MO_readPartition_54 : decode b_MO_readPartition 54 = .ok (.iconst (-1), 1) := by decide +kernel
theorem d_MO_readPartition_55 : decode b_MO_readPartition 55 = .ok (.if_icmp .eq 12, 3) := by decide +kernel
theorem d_MO_readPartition_58 : decode b_MO_readPartition 58 = .ok (.aload_n 0, 1) := by decide +kernel
theorem d_MO_readPartition_59 : decode b_MO_readPartition 59 = .ok (.iconst 3, 1) := by decide +kernel
theorem d_MO_readPartition_60 : decode b_MO_readPartition 60 = .ok (.aload_n 0, 1) := by decide +kernel
theorem d_MO_readPartition_61 : decode b_MO_readPartition 61 = .ok (.getfield 185, 3) := by decide +kernel
theorem d_MO_readPartition_64 : decode b_MO_readPartition 64 = .ok (.invokevirtual 210, 3) := by decide +kernel
theorem d_MO_readPartition_67 : decode b_MO_readPartition 67 = .ok (.aload_n 0, 1) := by decide +kernel
theorem d_MO_readPartition_68 : decode b_MO_readPartition 68 = .ok (.invokevirtual 214, 3) := by decide +kernel
theorem d_MO_readPartition_71 : decode b_MO_readPartition 71 = .ok (.ifCond .ne 4, 3) := by decide +kernel
theorem d_MO_readPartition_74 : decode b_MO_readPartition 74 = .ok (.return_, 1) := by decide +kernel
theorem d_MO_readPartition_75 : decode b_MO_readPartition 75 = .ok (.aload_n 0, 1) := by decide +kernel
theorem d_MO_readPartition_76 : decode b_MO_readPartition 76 = .ok (.getfield 241, 3) := by decide +kernel
theorem d_MO_readPartition_79 : decode b_MO_readPartition 79 = .ok (.istore_n 1, 1) := by decide +kernel
theorem d_MO_readPartition_80 : decode b_MO_readPartition 80 = .ok (.aload_n 0, 1) := by decide +kernel
theorem d_MO_readPartition_81 : decode b_MO_readPartition 81 = .ok (.getfield 96, 3) := by decide +kernel
theorem d_MO_readPartition_84 : decode b_MO_readPartition 84 = .ok (.iload_n 1, 1) := by decide +kernel
theorem d_MO_readPartition_85 : decode b_MO_readPartition 85 = .ok (.aload_n 0, 1) := by decide +kernel
theorem d_MO_readPartition_86 : decode b_MO_readPartition 86 = .ok (.getfield 167, 3) := by decide +kernel
theorem d_MO_readPartition_89 : decode b_MO_readPartition 89 = .ok (.lastore, 1) := by decide +kernel
theorem d_MO_readPartition_90 : decode b_MO_readPartition 90 = .ok (.aload_n 0, 1) := by decide +kernel
theorem d_MO_readPartition_91 : decode b_MO_readPartition 91 = .ok (.iload_n 1, 1) := by decide +kernel
theorem d_MO_readPartition_92 : decode b_MO_readPartition 92 = .ok (.invokevirtual 294, 3) := by decide +kernel
theorem d_MO_readPartition_95 : decode b_MO_readPartition 95 = .ok (.aload_n 0, 1) := by decide +kernel
theorem d_MO_readPartition_96 : decode b_MO_readPartition 96 = .ok (.dup, 1) := by decide +kernel
theorem d_MO_readPartition_97 : decode b_MO_readPartition 97 = .ok (.getfield 241, 3) := by decide +kernel
theorem d_MO_readPartition_100 : decode b_MO_readPartition 100 = .ok (.iconst 1, 1) := by decide +kernel
theorem d_MO_readPartition_101 : decode b_MO_readPartition 101 = .ok (.iadd, 1) := by decide +kernel
theorem d_MO_readPartition_102 : decode b_MO_readPartition 102 = .ok (.putfield 241, 3) := by decide +kernel
theorem d_MO_readPartition_105 : decode b_MO_readPartition 105 = .ok (.aload_n 0, 1) := by decide +kernel
theorem d_MO_readPartition_106 : decode b_MO_readPartition 106 = .ok (.invokevirtual 225, 3) := by decide +kernel
theorem d_MO_readPartition_109 : decode b_MO_readPartition 109 = .ok (.aload_n 0, 1) := by decide +kernel
theorem d_MO_readPartition_110 : decode b_MO_readPartition 110 = .ok (.bipush 123, 2) := by decide +kernel
theorem d_MO_readPartition_112 : decode b_MO_readPartition 112 = .ok (.invokevirtual 238, 3) := by decide +kernel
theorem d_MO_readPartition_115 : decode b_MO_readPartition 115 = .ok (.aload_n 0, 1) := by decide +kernel
theorem d_MO_readPartition_116 : decode b_MO_readPartition 116 = .ok (.getfield 99, 3) := by decide +kernel
theorem d_MO_readPartition_119 : decode b_MO_readPartition 119 = .ok (.iload_n 1, 1) := by decide +kernel
theorem d_MO_readPartition_120 : decode b_MO_readPartition 120 = .ok (.aload_n 0, 1) := by decide +kernel
theorem d_MO_readPartition_121 : decode b_MO_readPartition 121 = .ok (.iconst 1, 1) := by decide +kernel
theorem d_MO_readPartition_122 : decode b_MO_readPartition 122 = .ok (.sipush 256, 3) := by decide +kernel
theorem d_MO_readPartition_125 : decode b_MO_readPartition 125 = .ok (.sipush 4096, 3) := by decide +kernel
theorem d_MO_readPartition_128 : decode b_MO_readPartition 128 = .ok (.sipush 256, 3) := by decide +kernel
theorem d_MO_readPartition_131 : decode b_MO_readPartition 131 = .ok (.invokevirtual 255, 3) := by decide +kernel
theorem d_MO_readPartition_134 : decode b_MO_readPartition 134 = .ok (.iastore, 1) := by decide +kernel
theorem d_MO_readPartition_135 : decode b_MO_readPartition 135 = .ok (.aload_n 0, 1) := by decide +kernel
theorem d_MO_readPartition_136 : decode b_MO_readPartition 136 = .ok (.invokevirtual 214, 3) := by decide +kernel
theorem d_MO_readPartition_139 : decode b_MO_readPartition 139 = .ok (.ifCond .eq 20, 3) := by decide +kernel
theorem d_MO_readPartition_142 : decode b_MO_readPartition 142 = .ok (.aload_n 0, 1) := by decide +kernel
theorem d_MO_readPartition_143 : decode b_MO_readPartition 143 = .ok (.bipush 125, 2) := by decide +kernel
theorem d_MO_readPartition_145 : decode b_MO_readPartition 145 = .ok (.invokevirtual 218, 3) := by decide +kernel
theorem d_MO_readPartition_148 : decode b_MO_readPartition 148 = .ok (.ifCond .ne 11, 3) := by decide +kernel
theorem d_MO_readPartition_151 : decode b_MO_readPartition 151 = .ok (.aload_n 0, 1) := by decide +kernel
theorem d_MO_readPartition_152 : decode b_MO_readPartition 152 = .ok (.iload_n 1, 1) := by decide +kernel
theorem d_MO_readPartition_153 : decode b_MO_readPartition 153 = .ok (.invokevirtual 297, 3) := by decide +kernel
theorem d_MO_readPartition_156 : decode b_MO_readPartition 156 = .ok (.goto (-21), 3) := by decide +kernel
theorem d_MO_readPartition_159 : decode b_MO_readPartition 159 = .ok (.aload_n 0, 1) := by decide +kernel
theorem d_MO_readPartition_160 : decode b_MO_readPartition 160 = .ok (.invokevirtual 214, 3) := by decide +kernel
theorem d_MO_readPartition_163 : decode b_MO_readPartition 163 = .ok (.ifCond .eq 35, 3) := by decide +kernel
theorem d_MO_readPartition_166 : decode b_MO_readPartition 166 = .ok (.aload_n 0, 1) := by decide +kernel
theorem d_MO_readPartition_167 : decode b_MO_readPartition 167 = .ok (.getfield 106, 3) := by decide +kernel
theorem d_MO_readPartition_170 : decode b_MO_readPartition 170 = .ok (.iload_n 1, 1) := by decide +kernel
theorem d_MO_readPartition_171 : decode b_MO_readPartition 171 = .ok (.iaload, 1) := by decide +kernel
theorem d_MO_readPartition_172 : decode b_MO_readPartition 172 = .ok (.iconst (-1), 1) := by decide +kernel
theorem d_MO_readPartition_173 : decode b_MO_readPartition 173 = .ok (.if_icmp .eq 25, 3) := by decide +kernel
theorem d_MO_readPartition_176 : decode b_MO_readPartition 176 = .ok (.aload_n 0, 1) := by decide +kernel
theorem d_MO_readPartition_177 : decode b_MO_readPartition 177 = .ok (.getfield 103, 3) := by decide +kernel
theorem d_MO_readPartition_180 : decode b_MO_readPartition 180 = .ok (.iload_n 1, 1) := by decide +kernel
theorem d_MO_readPartition_181 : decode b_MO_readPartition 181 = .ok (.iaload, 1) := by decide +kernel
theorem d_MO_readPartition_182 : decode b_MO_readPartition 182 = .ok (.iconst (-1), 1) := by decide +kernel
theorem d_MO_readPartition_183 : decode b_MO_readPartition 183 = .ok (.if_icmp .ne 15, 3) := by decide +kernel
theorem d_MO_readPartition_186 : decode b_MO_readPartition 186 = .ok (.aload_n 0, 1) := by decide +kernel
theorem d_MO_readPartition_187 : decode b_MO_readPartition 187 = .ok (.bipush 7, 2) := by decide +kernel
theorem d_MO_readPartition_189 : decode b_MO_readPartition 189 = .ok (.aload_n 0, 1) := by decide +kernel
theorem d_MO_readPartition_190 : decode b_MO_readPartition 190 = .ok (.getfield 106, 3) := by decide +kernel
theorem d_MO_readPartition_193 : decode b_MO_readPartition 193 = .ok (.iload_n 1, 1) := by decide +kernel
theorem d_MO_readPartition_194 : decode b_MO_readPartition 194 = .ok (.iaload, 1) := by decide +kernel
theorem d_MO_readPartition_195 : decode b_MO_readPartition 195 = .ok (.invokevirtual 210, 3) := by decide +kernel
theorem d_MO_readPartition_198 : decode b_MO_readPartition 198 = .ok (.aload_n 0, 1) := by decide +kernel
theorem d_MO_readPartition_199 : decode b_MO_readPartition 199 = .ok (.bipush 125, 2) := by decide +kernel
theorem d_MO_readPartition_201 : decode b_MO_readPartition 201 = .ok (.invokevirtual 238, 3) := by decide +kernel
theorem d_MO_readPartition_204 : decode b_MO_readPartition 204 = .ok (.return_, 1) := by decide +kernel
def f_MO_readPartition_159 (S : XS) (a1 : Int32) : Option (XS) :=
  (f_MO_good S).bind fun q42 => if q42 = 0 then ((f_MO_sign S (125 : Int32)).bind fun q44 => some q44) else (if ¬ (a1 < 0 ∨ 8 ≤ a1.toNatClampNeg) then (if (xgi S 8 a1.toNatClampNeg) = (-1 : Int32) then ((f_MO_sign S (125 : Int32)).bind fun q47 => some q47) else (if ¬ (a1 < 0 ∨ 8 ≤ a1.toNatClampNeg) then (if (xgi S 7 a1.toNatClampNeg) = (-1 : Int32) then (if ¬ (a1 < 0 ∨ 8 ≤ a1.toNatClampNeg) then ((f_MO_fail S (7 : Int32) (xgi S 8 a1.toNatClampNeg)).bind fun q53 => (f_MO_sign q53 (125 : Int32)).bind fun q55 => some q55) else none) else ((f_MO_sign S (125 : Int32)).bind fun q50 => some q50)) else none)) else none)
set_option maxHeartbeats 4000000 in
set_option maxRecDepth 100000 in
theorem k_MO_readPartition_159 (l : Launch) {p : Program} {e : Env} {s : State} {m : MethodId} {args : Array Value} {below : List Frame} {meth : Method} {c : Code} {D : va_G} {lay : Nat → Nat} {cA : Nat → ClassId} (C : xB p s m args meth c R_MO b_MO_readPartition ((Option.none : Option Jvm.ClassFile.FieldType)) 2) (E : mE D lay cA s s.heap) : ∀ (S : XS) (a1 : Int32) (r : XS) (_ : f_MO_readPartition_159 S a1 = some r) (H : Heap) (locs : List Loc) (ls : Array Slot), va_P D xcl (mw lay cA S) H → va_S (mI lay) s.heap H locs → lv_has ls 2 [(0, .ref (lay 0)), (1, .int a1)] → W p l e rm_MO_readPartition s m args below meth c H locs 0 0 (MQ below (mqv D lay cA r) args s 0 0 (mI lay)) (F0 m 159 ls []) := by
  obtain ⟨hx, hb, hr, hml, hown, hts, hlk, hnh⟩ := id C
  have hK := E.K
  intro S a1 r h H locs ls hP hS hl
  unfold f_MO_readPartition_159 at h
  refine lv_aload_n hx hb d_MO_readPartition_159 rfl (lv_at hl 0 rfl) ?_
  obtain ⟨q42, e41, h⟩ := xb h
  refine mc_i (va_runV (As := []) (rest := []) ⟨hx, hb, hml, hown, hts⟩ (c_MO_good l D lay cA S q42 e41) (cwV 0 hts (xT_V wd_882 wd_884 wp_29 wd_7 wd_885) rfl rfl rfl (by decide +kernel) ⟨Nat.le_of_ble_eq_true rfl, Nat.le_of_ble_eq_true rfl⟩) (mpV E hP hS (by decide) (mc_0 _ _ _ _) rfl) rfl rfl hl.1 rfl (lv_room (Nat.le_of_ble_eq_true rfl)) d_MO_readPartition_160 ⟨Nat.le_of_ble_eq_true rfl, Nat.le_of_ble_eq_true rfl⟩) hS (fun H locs hP hS => ?_)
  refine lv_if_eq (tgt := 198) hx hb d_MO_readPartition_163 (by decide) (fun c_58 => ?_) (fun c_58 => ?_)
  · have h := xif_t c_58 h
    refine lv_aload_n hx hb d_MO_readPartition_198 rfl (lv_at hl 0 rfl) ?_
    refine lv_bipush (v := (125 : Int32)) hx hb d_MO_readPartition_199 (by decide) ?_
    obtain ⟨q44, e43, h⟩ := xb h
    refine mc_v (va_runV (As := [.int (125 : Int32)]) (rest := []) ⟨hx, hb, hml, hown, hts⟩ (c_MO_sign l D lay cA S (125 : Int32) q44 e43) (cwV 1 hts (xT_V wd_902 wd_904 wp_34 wd_7 wd_905) rfl rfl rfl (by decide +kernel) ⟨Nat.le_of_ble_eq_true rfl, Nat.le_of_ble_eq_true rfl⟩) (mpV E hP hS (by decide) (mc_0 _ _ _ _) rfl) rfl rfl hl.1 rfl (lv_room (Nat.le_of_ble_eq_true rfl)) d_MO_readPartition_201 ⟨Nat.le_of_ble_eq_true rfl, Nat.le_of_ble_eq_true rfl⟩) hS (fun H locs hP hS => ?_)
    have h9 := Option.some.inj h
    subst h9
    exact W.vret hx hb hr (fun t ht hW => ⟨⟨(), rfl, trivial, by show va_P D xcl _ t.heap; rw [ht]; exact hP⟩, hS.F ht⟩) hS.2.2 d_MO_readPartition_204
  · have h := xif_f c_58 h
    refine lv_aload_n hx hb d_MO_readPartition_166 rfl (lv_at hl 0 rfl) ?_
    refine va_get (v := .ref (lay 8)) (C := R_MO) (T := F_MO) (N := 41) hx hb hts i_MO hown hK hP 0 (mw_at (by decide) (mc_0 _ _ _ _)) rfl 19 (by decide) (hts _ wd_719) (fun _ h9 => h9) rfl d_MO_readPartition_167 ?_
    refine lv_iload_n hx hb d_MO_readPartition_170 rfl (lv_at hl 1 rfl) ?_
    obtain ⟨hg45, h⟩ := xg h
    refine mal_8 hx hb E hP hg45 d_MO_readPartition_171 ?_
    refine lv_iconst (v := (-1 : Int32)) hx hb d_MO_readPartition_172 (by decide) ?_
    refine lv_icmp_eq (tgt := 198) hx hb d_MO_readPartition_173 (by decide) (fun c_57 => ?_) (fun c_57 => ?_)
    · have h := xif_t c_57 h
      refine lv_aload_n hx hb d_MO_readPartition_198 rfl (lv_at hl 0 rfl) ?_
      refine lv_bipush (v := (125 : Int32)) hx hb d_MO_readPartition_199 (by decide) ?_
      obtain ⟨q47, e46, h⟩ := xb h
      refine mc_v (va_runV (As := [.int (125 : Int32)]) (rest := []) ⟨hx, hb, hml, hown, hts⟩ (c_MO_sign l D lay cA S (125 : Int32) q47 e46) (cwV 1 hts (xT_V wd_902 wd_904 wp_34 wd_7 wd_905) rfl rfl rfl (by decide +kernel) ⟨Nat.le_of_ble_eq_true rfl, Nat.le_of_ble_eq_true rfl⟩) (mpV E hP hS (by decide) (mc_0 _ _ _ _) rfl) rfl rfl hl.1 rfl (lv_room (Nat.le_of_ble_eq_true rfl)) d_MO_readPartition_201 ⟨Nat.le_of_ble_eq_true rfl, Nat.le_of_ble_eq_true rfl⟩) hS (fun H locs hP hS => ?_)
      have h9 := Option.some.inj h
      subst h9
      exact W.vret hx hb hr (fun t ht hW => ⟨⟨(), rfl, trivial, by show va_P D xcl _ t.heap; rw [ht]; exact hP⟩, hS.F ht⟩) hS.2.2 d_MO_readPartition_204
    · have h := xif_f c_57 h
      refine lv_aload_n hx hb d_MO_readPartition_176 rfl (lv_at hl 0 rfl) ?_
      refine va_get (v := .ref (lay 7)) (C := R_MO) (T := F_MO) (N := 41) hx hb hts i_MO hown hK hP 0 (mw_at (by decide) (mc_0 _ _ _ _)) rfl 18 (by decide) (hts _ wd_718) (fun _ h9 => h9) rfl d_MO_readPartition_177 ?_
      refine lv_iload_n hx hb d_MO_readPartition_180 rfl (lv_at hl 1 rfl) ?_
      obtain ⟨hg48, h⟩ := xg h
      refine mal_7 hx hb E hP hg48 d_MO_readPartition_181 ?_
      refine lv_iconst (v := (-1 : Int32)) hx hb d_MO_readPartition_182 (by decide) ?_
      refine lv_icmp_ne (tgt := 198) hx hb d_MO_readPartition_183 (by decide) (fun c_56 => ?_) (fun c_56 => ?_)
      · have h := xif_f c_56 h
        refine lv_aload_n hx hb d_MO_readPartition_198 rfl (lv_at hl 0 rfl) ?_
        refine lv_bipush (v := (125 : Int32)) hx hb d_MO_readPartition_199 (by decide) ?_
        obtain ⟨q50, e49, h⟩ := xb h
        refine mc_v (va_runV (As := [.int (125 : Int32)]) (rest := []) ⟨hx, hb, hml, hown, hts⟩ (c_MO_sign l D lay cA S (125 : Int32) q50 e49) (cwV 1 hts (xT_V wd_902 wd_904 wp_34 wd_7 wd_905) rfl rfl rfl (by decide +kernel) ⟨Nat.le_of_ble_eq_true rfl, Nat.le_of_ble_eq_true rfl⟩) (mpV E hP hS (by decide) (mc_0 _ _ _ _) rfl) rfl rfl hl.1 rfl (lv_room (Nat.le_of_ble_eq_true rfl)) d_MO_readPartition_201 ⟨Nat.le_of_ble_eq_true rfl, Nat.le_of_ble_eq_true rfl⟩) hS (fun H locs hP hS => ?_)
        have h9 := Option.some.inj h
        subst h9
        exact W.vret hx hb hr (fun t ht hW => ⟨⟨(), rfl, trivial, by show va_P D xcl _ t.heap; rw [ht]; exact hP⟩, hS.F ht⟩) hS.2.2 d_MO_readPartition_204
      · have h := xif_t c_56 h
        refine lv_aload_n hx hb d_MO_readPartition_186 rfl (lv_at hl 0 rfl) ?_
        refine lv_bipush (v := (7 : Int32)) hx hb d_MO_readPartition_187 (by decide) ?_
        refine lv_aload_n hx hb d_MO_readPartition_189 rfl (lv_at hl 0 rfl) ?_
        refine va_get (v := .ref (lay 8)) (C := R_MO) (T := F_MO) (N := 41) hx hb hts i_MO hown hK hP 0 (mw_at (by decide) (mc_0 _ _ _ _)) rfl 19 (by decide) (hts _ wd_719) (fun _ h9 => h9) rfl d_MO_readPartition_190 ?_
        refine lv_iload_n hx hb d_MO_readPartition_193 rfl (lv_at hl 1 rfl) ?_
        obtain ⟨hg51, h⟩ := xg h
        refine mal_8 hx hb E hP hg51 d_MO_readPartition_194 ?_
        obtain ⟨q53, e52, h⟩ := xb h
        refine mc_v (va_runV (As := [.int (7 : Int32), .int (xgi S 8 a1.toNatClampNeg)]) (rest := []) ⟨hx, hb, hml, hown, hts⟩ (c_MO_fail l D lay cA S (7 : Int32) (xgi S 8 a1.toNatClampNeg) q53 e52) (cwV 2 hts (xT_V wd_890 wd_892 wp_31 wd_7 wd_893) rfl rfl rfl (by decide +kernel) ⟨Nat.le_of_ble_eq_true rfl, Nat.le_of_ble_eq_true rfl⟩) (mpV E hP hS (by decide) (mc_0 _ _ _ _) rfl) rfl rfl hl.1 rfl (lv_room (Nat.le_of_ble_eq_true rfl)) d_MO_readPartition_195 ⟨Nat.le_of_ble_eq_true rfl, Nat.le_of_ble_eq_true rfl⟩) hS (fun H locs hP hS => ?_)
        refine lv_aload_n hx hb d_MO_readPartition_198 rfl (lv_at hl 0 rfl) ?_
        refine lv_bipush (v := (125 : Int32)) hx hb d_MO_readPartition_199 (by decide) ?_
        obtain ⟨q55, e54, h⟩ := xb h
        refine mc_v (va_runV (As := [.int (125 : Int32)]) (rest := []) ⟨hx, hb, hml, hown, hts⟩ (c_MO_sign l D lay cA q53 (125 : Int32) q55 e54) (cwV 1 hts (xT_V wd_902 wd_904 wp_34 wd_7 wd_905) rfl rfl rfl (by decide +kernel) ⟨Nat.le_of_ble_eq_true rfl, Nat.le_of_ble_eq_true rfl⟩) (mpV E hP hS (by decide) (mc_0 _ _ _ _) rfl) rfl rfl hl.1 rfl (lv_room (Nat.le_of_ble_eq_true rfl)) d_MO_readPartition_201 ⟨Nat.le_of_ble_eq_true rfl, Nat.le_of_ble_eq_true rfl⟩) hS (fun H locs hP hS => ?_)
        have h9 := Option.some.inj h
        subst h9
        exact W.vret hx hb hr (fun t ht hW => ⟨⟨(), rfl, trivial, by show va_P D xcl _ t.heap; rw [ht]; exact hP⟩, hS.F ht⟩) hS.2.2 d_MO_readPartition_204
def f_MO_readPartition_135 : Nat → XS → Int32 → Option (XS)
  | 0, _, _ => none
  | n + 1, S, a1 =>
    (f_MO_good S).bind fun q34 => if q34 = 0 then (f_MO_readPartition_159 S a1) else ((f_MO_isSign S (125 : Int32)).bind fun q36 => if q36 = 0 then ((f_MO_thingOf S a1).bind fun q38 => f_MO_readPartition_135 n q38 a1) else (f_MO_readPartition_159 S a1))
set_option maxHeartbeats 4000000 in
set_option maxRecDepth 100000 in
theorem k_MO_readPartition_135 (l : Launch) {p : Program} {e : Env} {s : State} {m : MethodId} {args : Array Value} {below : List Frame} {meth : Method} {c : Code} {D : va_G} {lay : Nat → Nat} {cA : Nat → ClassId} (C : xB p s m args meth c R_MO b_MO_readPartition ((Option.none : Option Jvm.ClassFile.FieldType)) 2) (E : mE D lay cA s s.heap) : ∀ (n : Nat) (S : XS) (a1 : Int32) (r : XS) (_ : f_MO_readPartition_135 n S a1 = some r) (H : Heap) (locs : List Loc) (ls : Array Slot), va_P D xcl (mw lay cA S) H → va_S (mI lay) s.heap H locs → lv_has ls 2 [(0, .ref (lay 0)), (1, .int a1)] → W p l e rm_MO_readPartition s m args below meth c H locs 0 0 (MQ below (mqv D lay cA r) args s 0 0 (mI lay)) (F0 m 135 ls []) := by
  obtain ⟨hx, hb, hr, hml, hown, hts, hlk, hnh⟩ := id C
  have hK := E.K
  intro n
  induction n with
  | zero => intro S a1 r h; rw [f_MO_readPartition_135] at h; cases h
  | succ n ih =>
    intro S a1 r h H locs ls hP hS hl
    rw [f_MO_readPartition_135] at h
    refine lv_aload_n hx hb d_MO_readPartition_135 rfl (lv_at hl 0 rfl) ?_
    obtain ⟨q34, e33, h⟩ := xb h
    refine mc_i (va_runV (As := []) (rest := []) ⟨hx, hb, hml, hown, hts⟩ (c_MO_good l D lay cA S q34 e33) (cwV 0 hts (xT_V wd_882 wd_884 wp_29 wd_7 wd_885) rfl rfl rfl (by decide +kernel) ⟨Nat.le_of_ble_eq_true rfl, Nat.le_of_ble_eq_true rfl⟩) (mpV E hP hS (by decide) (mc_0 _ _ _ _) rfl) rfl rfl hl.1 rfl (lv_room (Nat.le_of_ble_eq_true rfl)) d_MO_readPartition_136 ⟨Nat.le_of_ble_eq_true rfl, Nat.le_of_ble_eq_true rfl⟩) hS (fun H locs hP hS => ?_)
    refine lv_if_eq (tgt := 159) hx hb d_MO_readPartition_139 (by decide) (fun c_40 => ?_) (fun c_40 => ?_)
    · have h := xif_t c_40 h
      exact k_MO_readPartition_159 l C E S a1 _ h H locs ls hP hS hl
    · have h := xif_f c_40 h
      refine lv_aload_n hx hb d_MO_readPartition_142 rfl (lv_at hl 0 rfl) ?_
      refine lv_bipush (v := (125 : Int32)) hx hb d_MO_readPartition_143 (by decide) ?_
      obtain ⟨q36, e35, h⟩ := xb h
      refine mc_i (va_runV (As := [.int (125 : Int32)]) (rest := []) ⟨hx, hb, hml, hown, hts⟩ (c_MO_isSign l D lay cA S (125 : Int32) q36 e35) (cwV 1 hts (xT_V wd_906 wd_908 wp_35 wd_7 wd_909) rfl rfl rfl (by decide +kernel) ⟨Nat.le_of_ble_eq_true rfl, Nat.le_of_ble_eq_true rfl⟩) (mpV E hP hS (by decide) (mc_0 _ _ _ _) rfl) rfl rfl hl.1 rfl (lv_room (Nat.le_of_ble_eq_true rfl)) d_MO_readPartition_145 ⟨Nat.le_of_ble_eq_true rfl, Nat.le_of_ble_eq_true rfl⟩) hS (fun H locs hP hS => ?_)
      refine lv_if_ne (tgt := 159) hx hb d_MO_readPartition_148 (by decide) (fun c_39 => ?_) (fun c_39 => ?_)
      · have h := xif_f c_39 h
        exact k_MO_readPartition_159 l C E S a1 _ h H locs ls hP hS hl
      · have h := xif_t c_39 h
        refine lv_aload_n hx hb d_MO_readPartition_151 rfl (lv_at hl 0 rfl) ?_
        refine lv_iload_n hx hb d_MO_readPartition_152 rfl (lv_at hl 1 rfl) ?_
        obtain ⟨q38, e37, h⟩ := xb h
        refine mc_v (va_runV (As := [.int a1]) (rest := []) ⟨hx, hb, hml, hown, hts⟩ (c_MO_thingOf l D lay cA S a1 q38 e37) (cwV 1 hts (xT_V wd_918 wd_920 wp_38 wd_7 wd_921) rfl rfl rfl (by decide +kernel) ⟨Nat.le_of_ble_eq_true rfl, Nat.le_of_ble_eq_true rfl⟩) (mpV E hP hS (by decide) (mc_0 _ _ _ _) rfl) rfl rfl hl.1 rfl (lv_room (Nat.le_of_ble_eq_true rfl)) d_MO_readPartition_153 ⟨Nat.le_of_ble_eq_true rfl, Nat.le_of_ble_eq_true rfl⟩) hS (fun H locs hP hS => ?_)
        refine lv_goto (tgt := 135) hx hb d_MO_readPartition_156 (by decide) ?_
        exact ih q38 a1 _ h H locs ls hP hS hl
def f_MO_readPartition_67 (S : XS)  : Option (XS) :=
  (f_MO_good S).bind fun q21 => if q21 = 0 then (some S) else (if ¬ ((xgi S 0 15) < 0 ∨ 8 ≤ (xgi S 0 15).toNatClampNeg) then ((f_MO_clear (xpl S 5 (xgi S 0 15).toNatClampNeg (xgl S 0 10)) (xgi S 0 15)).bind fun q24 => (f_MO_next (xpi q24 0 15 ((xgi q24 0 15) + (1 : Int32)))).bind fun q26 => (f_MO_sign q26 (123 : Int32)).bind fun q28 => (f_MO_part q28 (1 : Int32) (256 : Int32) (4096 : Int32) (256 : Int32)).bind fun q30 => if ¬ ((xgi S 0 15) < 0 ∨ 8 ≤ (xgi S 0 15).toNatClampNeg) then (f_MO_readPartition_135 4096 (xpi q30.2 6 (xgi S 0 15).toNatClampNeg q30.1) (xgi S 0 15)) else none) else none)
set_option maxHeartbeats 4000000 in
set_option maxRecDepth 100000 in
theorem k_MO_readPartition_67 (l : Launch) {p : Program} {e : Env} {s : State} {m : MethodId} {args : Array Value} {below : List Frame} {meth : Method} {c : Code} {D : va_G} {lay : Nat → Nat} {cA : Nat → ClassId} (C : xB p s m args meth c R_MO b_MO_readPartition ((Option.none : Option Jvm.ClassFile.FieldType)) 2) (E : mE D lay cA s s.heap) : ∀ (S : XS)  (r : XS) (_ : f_MO_readPartition_67 S = some r) (H : Heap) (locs : List Loc) (ls : Array Slot), va_P D xcl (mw lay cA S) H → va_S (mI lay) s.heap H locs → lv_has ls 2 [(0, .ref (lay 0))] → W p l e rm_MO_readPartition s m args below meth c H locs 0 0 (MQ below (mqv D lay cA r) args s 0 0 (mI lay)) (F0 m 67 ls []) := by
  obtain ⟨hx, hb, hr, hml, hown, hts, hlk, hnh⟩ := id C
  have hK := E.K
  intro S r h H locs ls hP hS hl
  unfold f_MO_readPartition_67 at h
  refine lv_aload_n hx hb d_MO_readPartition_67 rfl (lv_at hl 0 rfl) ?_
  obtain ⟨q21, e20, h⟩ := xb h
  refine mc_i (va_runV (As := []) (rest := []) ⟨hx, hb, hml, hown, hts⟩ (c_MO_good l D lay cA S q21 e20) (cwV 0 hts (xT_V wd_882 wd_884 wp_29 wd_7 wd_885) rfl rfl rfl (by decide +kernel) ⟨Nat.le_of_ble_eq_true rfl, Nat.le_of_ble_eq_true rfl⟩) (mpV E hP hS (by decide) (mc_0 _ _ _ _) rfl) rfl rfl hl.1 rfl (lv_room (Nat.le_of_ble_eq_true rfl)) d_MO_readPartition_68 ⟨Nat.le_of_ble_eq_true rfl, Nat.le_of_ble_eq_true rfl⟩) hS (fun H locs hP hS => ?_)
  refine lv_if_ne (tgt := 75) hx hb d_MO_readPartition_71 (by decide) (fun c_32 => ?_) (fun c_32 => ?_)
  · have h := xif_f c_32 h
    refine lv_aload_n hx hb d_MO_readPartition_75 rfl (lv_at hl 0 rfl) ?_
    refine va_get (v := .int (xgi S 0 15)) (C := R_MO) (T := F_MO) (N := 41) hx hb hts i_MO hown hK hP 0 (mw_at (by decide) (mc_0 _ _ _ _)) rfl 15 (by decide) (hts _ wd_715) (fun _ h9 => h9) rfl d_MO_readPartition_76 ?_
    refine lv_istore_n (lv' := [(1, .int (xgi S 0 15)), (0, .ref (lay 0))]) hx hb d_MO_readPartition_79 rfl hl (by decide) rfl (fun ls hl => ?_)
    refine lv_aload_n hx hb d_MO_readPartition_80 rfl (lv_at hl 1 rfl) ?_
    refine va_get (v := .ref (lay 5)) (C := R_MO) (T := F_MO) (N := 41) hx hb hts i_MO hown hK hP 0 (mw_at (by decide) (mc_0 _ _ _ _)) rfl 16 (by decide) (hts _ wd_716) (fun _ h9 => h9) rfl d_MO_readPartition_81 ?_
    refine lv_iload_n hx hb d_MO_readPartition_84 rfl (lv_at hl 0 rfl) ?_
    refine lv_aload_n hx hb d_MO_readPartition_85 rfl (lv_at hl 1 rfl) ?_
    refine va_get (v := .long (xgl S 0 10)) (C := R_MO) (T := F_MO) (N := 41) hx hb hts i_MO hown hK hP 0 (mw_at (by decide) (mc_0 _ _ _ _)) rfl 10 (by decide) (hts _ wd_710) (fun _ h9 => h9) rfl d_MO_readPartition_86 ?_
    obtain ⟨hg22, h⟩ := xg h
    refine mas_5 hx hb E hP hS hg22 d_MO_readPartition_89 (fun H locs hP hS => ?_)
    refine lv_aload_n hx hb d_MO_readPartition_90 rfl (lv_at hl 1 rfl) ?_
    refine lv_iload_n hx hb d_MO_readPartition_91 rfl (lv_at hl 0 rfl) ?_
    obtain ⟨q24, e23, h⟩ := xb h
    refine mc_v (va_runV (As := [.int (xgi S 0 15)]) (rest := []) ⟨hx, hb, hml, hown, hts⟩ (c_MO_clear l D lay cA (xpl S 5 (xgi S 0 15).toNatClampNeg (xgl S 0 10)) (xgi S 0 15) q24 e23) (cwV 1 hts (xT_V wd_898 wd_900 wp_33 wd_7 wd_901) rfl rfl rfl (by decide +kernel) ⟨Nat.le_of_ble_eq_true rfl, Nat.le_of_ble_eq_true rfl⟩) (mpV E hP hS (by decide) (mc_0 _ _ _ _) rfl) rfl rfl hl.1 rfl (lv_room (Nat.le_of_ble_eq_true rfl)) d_MO_readPartition_92 ⟨Nat.le_of_ble_eq_true rfl, Nat.le_of_ble_eq_true rfl⟩) hS (fun H locs hP hS => ?_)
    refine lv_aload_n hx hb d_MO_readPartition_95 rfl (lv_at hl 1 rfl) ?_
    refine lv_dup hx hb d_MO_readPartition_96 rfl ?_
    refine va_get (v := .int (xgi q24 0 15)) (C := R_MO) (T := F_MO) (N := 41) hx hb hts i_MO hown hK hP 0 (mw_at (by decide) (mc_0 _ _ _ _)) rfl 15 (by decide) (hts _ wd_715) (fun _ h9 => h9) rfl d_MO_readPartition_97 ?_
    refine lv_iconst (v := (1 : Int32)) hx hb d_MO_readPartition_100 (by decide) ?_
    refine lv_iadd hx hb d_MO_readPartition_101 ?_
    refine mput_15 hx hb hts hown E hP hS (hts _ wd_715) d_MO_readPartition_102 (fun H locs hP hS => ?_)
    refine lv_aload_n hx hb d_MO_readPartition_105 rfl (lv_at hl 1 rfl) ?_
    obtain ⟨q26, e25, h⟩ := xb h
    refine mc_v (va_runV (As := []) (rest := []) ⟨hx, hb, hml, hown, hts⟩ (c_MO_next l D lay cA (xpi q24 0 15 ((xgi q24 0 15) + (1 : Int32))) q26 e25) (cwV 0 hts (xT_V wd_841 wd_843 wp_21 wd_7 wd_844) rfl rfl rfl (by decide +kernel) ⟨Nat.le_of_ble_eq_true rfl, Nat.le_of_ble_eq_true rfl⟩) (mpV E hP hS (by decide) (mc_0 _ _ _ _) rfl) rfl rfl hl.1 rfl (lv_room (Nat.le_of_ble_eq_true rfl)) d_MO_readPartition_106 ⟨Nat.le_of_ble_eq_true rfl, Nat.le_of_ble_eq_true rfl⟩) hS (fun H locs hP hS => ?_)
    refine lv_aload_n hx hb d_MO_readPartition_109 rfl (lv_at hl 1 rfl) ?_
    refine lv_bipush (v := (123 : Int32)) hx hb d_MO_readPartition_110 (by decide) ?_
    obtain ⟨q28, e27, h⟩ := xb h
    refine mc_v (va_runV (As := [.int (123 : Int32)]) (rest := []) ⟨hx, hb, hml, hown, hts⟩ (c_MO_sign l D lay cA q26 (123 : Int32) q28 e27) (cwV 1 hts (xT_V wd_902 wd_904 wp_34 wd_7 wd_905) rfl rfl rfl (by decide +kernel) ⟨Nat.le_of_ble_eq_true rfl, Nat.le_of_ble_eq_true rfl⟩) (mpV E hP hS (by decide) (mc_0 _ _ _ _) rfl) rfl rfl hl.1 rfl (lv_room (Nat.le_of_ble_eq_true rfl)) d_MO_readPartition_112 ⟨Nat.le_of_ble_eq_true rfl, Nat.le_of_ble_eq_true rfl⟩) hS (fun H locs hP hS => ?_)
    refine lv_aload_n hx hb d_MO_readPartition_115 rfl (lv_at hl 1 rfl) ?_
    refine va_get (v := .ref (lay 6)) (C := R_MO) (T := F_MO) (N := 41) hx hb hts i_MO hown hK hP 0 (mw_at (by decide) (mc_0 _ _ _ _)) rfl 17 (by decide) (hts _ wd_717) (fun _ h9 => h9) rfl d_MO_readPartition_116 ?_
    refine lv_iload_n hx hb d_MO_readPartition_119 rfl (lv_at hl 0 rfl) ?_
    refine lv_aload_n hx hb d_MO_readPartition_120 rfl (lv_at hl 1 rfl) ?_
    refine lv_iconst (v := (1 : Int32)) hx hb d_MO_readPartition_121 (by decide) ?_
    refine lv_sipush (v := (256 : Int32)) hx hb d_MO_readPartition_122 (by decide) ?_
    refine lv_sipush (v := (4096 : Int32)) hx hb d_MO_readPartition_125 (by decide) ?_
    refine lv_sipush (v := (256 : Int32)) hx hb d_MO_readPartition_128 (by decide) ?_
    obtain ⟨q30, e29, h⟩ := xb h
    refine mc_i (va_runV (As := [.int (1 : Int32), .int (256 : Int32), .int (4096 : Int32), .int (256 : Int32)]) (rest := [.int (xgi S 0 15), .ref (lay 6)]) ⟨hx, hb, hml, hown, hts⟩ (c_MO_part l D lay cA q28 (1 : Int32) (256 : Int32) (4096 : Int32) (256 : Int32) q30 e29) (cwV 4 hts (xT_V wd_910 wd_912 wp_36 wd_7 wd_913) rfl rfl rfl (by decide +kernel) ⟨Nat.le_of_ble_eq_true rfl, Nat.le_of_ble_eq_true rfl⟩) (mpV E hP hS (by decide) (mc_0 _ _ _ _) rfl) rfl rfl hl.1 rfl (lv_room (Nat.le_of_ble_eq_true rfl)) d_MO_readPartition_131 ⟨Nat.le_of_ble_eq_true rfl, Nat.le_of_ble_eq_true rfl⟩) hS (fun H locs hP hS => ?_)
    obtain ⟨hg31, h⟩ := xg h
    refine mas_6 hx hb E hP hS hg31 d_MO_readPartition_134 (fun H locs hP hS => ?_)
    exact k_MO_readPartition_135 l C E 4096 (xpi q30.2 6 (xgi S 0 15).toNatClampNeg q30.1) (xgi S 0 15) _ h H locs ls hP hS (lv_sub hl [1, 0] rfl)
  · have h := xif_t c_32 h
    have h9 := Option.some.inj h
    subst h9
    exact W.vret hx hb hr (fun t ht hW => ⟨⟨(), rfl, trivial, by show va_P D xcl _ t.heap; rw [ht]; exact hP⟩, hS.F ht⟩) hS.2.2 d_MO_readPartition_74
def f_MO_readPartition_39 (S : XS)  : Option (XS) :=
  (f_MO_good S).bind fun q13 => if q13 = 0 then (f_MO_readPartition_67 S) else ((f_MO_partitionOf S (xgl S 0 10)).bind fun q15 => if q15 = (-1 : Int32) then (f_MO_readPartition_67 S) else ((f_MO_fail S (3 : Int32) (xgi S 0 6)).bind fun q17 => f_MO_readPartition_67 q17))
set_option maxHeartbeats 4000000 in
set_option maxRecDepth 100000 in
theorem k_MO_readPartition_39 (l : Launch) {p : Program} {e : Env} {s : State} {m : MethodId} {args : Array Value} {below : List Frame} {meth : Method} {c : Code} {D : va_G} {lay : Nat → Nat} {cA : Nat → ClassId} (C : xB p s m args meth c R_MO b_MO_readPartition ((Option.none : Option Jvm.ClassFile.FieldType)) 2) (E : mE D lay cA s s.heap) : ∀ (S : XS)  (r : XS) (_ : f_MO_readPartition_39 S = some r) (H : Heap) (locs : List Loc) (ls : Array Slot), va_P D xcl (mw lay cA S) H → va_S (mI lay) s.heap H locs → lv_has ls 2 [(0, .ref (lay 0))] → W p l e rm_MO_readPartition s m args below meth c H locs 0 0 (MQ below (mqv D lay cA r) args s 0 0 (mI lay)) (F0 m 39 ls []) := by
  obtain ⟨hx, hb, hr, hml, hown, hts, hlk, hnh⟩ := id C
  have hK := E.K
  intro S r h H locs ls hP hS hl
  unfold f_MO_readPartition_39 at h
  refine lv_aload_n hx hb d_MO_readPartition_39 rfl (lv_at hl 0 rfl) ?_
  obtain ⟨q13, e12, h⟩ := xb h
  refine mc_i (va_runV (As := []) (rest := []) ⟨hx, hb, hml, hown, hts⟩ (c_MO_good l D lay cA S q13 e12) (cwV 0 hts (xT_V wd_882 wd_884 wp_29 wd_7 wd_885) rfl rfl rfl (by decide +kernel) ⟨Nat.le_of_ble_eq_true rfl, Nat.le_of_ble_eq_true rfl⟩) (mpV E hP hS (by decide) (mc_0 _ _ _ _) rfl) rfl rfl hl.1 rfl (lv_room (Nat.le_of_ble_eq_true rfl)) d_MO_readPartition_40 ⟨Nat.le_of_ble_eq_true rfl, Nat.le_of_ble_eq_true rfl⟩) hS (fun H locs hP hS => ?_)
  refine lv_if_eq (tgt := 67) hx hb d_MO_readPartition_43 (by decide) (fun c_19 => ?_) (fun c_19 => ?_)
  · have h := xif_t c_19 h
    exact k_MO_readPartition_67 l C E S  _ h H locs ls hP hS hl
  · have h := xif_f c_19 h
    refine lv_aload_n hx hb d_MO_readPartition_46 rfl (lv_at hl 0 rfl) ?_
    refine lv_aload_n hx hb d_MO_readPartition_47 rfl (lv_at hl 0 rfl) ?_
    refine va_get (v := .long (xgl S 0 10)) (C := R_MO) (T := F_MO) (N := 41) hx hb hts i_MO hown hK hP 0 (mw_at (by decide) (mc_0 _ _ _ _)) rfl 10 (by decide) (hts _ wd_710) (fun _ h9 => h9) rfl d_MO_readPartition_48 ?_
    obtain ⟨q15, e14, h⟩ := xb h
    refine mc_i (va_runV (As := [.long (xgl S 0 10)]) (rest := []) ⟨hx, hb, hml, hown, hts⟩ (c_MO_partitionOf l D lay cA S (xgl S 0 10) q15 e14) (cwV 1 hts (xT_V wd_894 wd_896 wp_32 wd_7 wd_897) rfl rfl rfl (by decide +kernel) ⟨Nat.le_of_ble_eq_true rfl, Nat.le_of_ble_eq_true rfl⟩) (mpV E hP hS (by decide) (mc_0 _ _ _ _) rfl) rfl rfl hl.1 rfl (lv_room (Nat.le_of_ble_eq_true rfl)) d_MO_readPartition_51 ⟨Nat.le_of_ble_eq_true rfl, Nat.le_of_ble_eq_true rfl⟩) hS (fun H locs hP hS => ?_)
    refine lv_iconst (v := (-1 : Int32)) hx hb d_MO_readPartition_54 (by decide) ?_
    refine lv_icmp_eq (tgt := 67) hx hb d_MO_readPartition_55 (by decide) (fun c_18 => ?_) (fun c_18 => ?_)
    · have h := xif_t c_18 h
      exact k_MO_readPartition_67 l C E S  _ h H locs ls hP hS hl
    · have h := xif_f c_18 h
      refine lv_aload_n hx hb d_MO_readPartition_58 rfl (lv_at hl 0 rfl) ?_
      refine lv_iconst (v := (3 : Int32)) hx hb d_MO_readPartition_59 (by decide) ?_
      refine lv_aload_n hx hb d_MO_readPartition_60 rfl (lv_at hl 0 rfl) ?_
      refine va_get (v := .int (xgi S 0 6)) (C := R_MO) (T := F_MO) (N := 41) hx hb hts i_MO hown hK hP 0 (mw_at (by decide) (mc_0 _ _ _ _)) rfl 6 (by decide) (hts _ wd_706) (fun _ h9 => h9) rfl d_MO_readPartition_61 ?_
      obtain ⟨q17, e16, h⟩ := xb h
      refine mc_v (va_runV (As := [.int (3 : Int32), .int (xgi S 0 6)]) (rest := []) ⟨hx, hb, hml, hown, hts⟩ (c_MO_fail l D lay cA S (3 : Int32) (xgi S 0 6) q17 e16) (cwV 2 hts (xT_V wd_890 wd_892 wp_31 wd_7 wd_893) rfl rfl rfl (by decide +kernel) ⟨Nat.le_of_ble_eq_true rfl, Nat.le_of_ble_eq_true rfl⟩) (mpV E hP hS (by decide) (mc_0 _ _ _ _) rfl) rfl rfl hl.1 rfl (lv_room (Nat.le_of_ble_eq_true rfl)) d_MO_readPartition_64 ⟨Nat.le_of_ble_eq_true rfl, Nat.le_of_ble_eq_true rfl⟩) hS (fun H locs hP hS => ?_)
      exact k_MO_readPartition_67 l C E q17  _ h H locs ls hP hS hl
def f_MO_readPartition_26 (S : XS)  : Option (XS) :=
  if (xgi S 0 8) = (1 : Int32) then (f_MO_readPartition_39 S) else ((f_MO_bad S (1 : Int32)).bind fun q10 => f_MO_readPartition_39 q10)
set_option maxHeartbeats 4000000 in
set_option maxRecDepth 100000 in
theorem k_MO_readPartition_26 (l : Launch) {p : Program} {e : Env} {s : State} {m : MethodId} {args : Array Value} {below : List Frame} {meth : Method} {c : Code} {D : va_G} {lay : Nat → Nat} {cA : Nat → ClassId} (C : xB p s m args meth c R_MO b_MO_readPartition ((Option.none : Option Jvm.ClassFile.FieldType)) 2) (E : mE D lay cA s s.heap) : ∀ (S : XS)  (r : XS) (_ : f_MO_readPartition_26 S = some r) (H : Heap) (locs : List Loc) (ls : Array Slot), va_P D xcl (mw lay cA S) H → va_S (mI lay) s.heap H locs → lv_has ls 2 [(0, .ref (lay 0))] → W p l e rm_MO_readPartition s m args below meth c H locs 0 0 (MQ below (mqv D lay cA r) args s 0 0 (mI lay)) (F0 m 26 ls []) := by
  obtain ⟨hx, hb, hr, hml, hown, hts, hlk, hnh⟩ := id C
  have hK := E.K
  intro S r h H locs ls hP hS hl
  unfold f_MO_readPartition_26 at h
  refine lv_aload_n hx hb d_MO_readPartition_26 rfl (lv_at hl 0 rfl) ?_
  refine va_get (v := .int (xgi S 0 8)) (C := R_MO) (T := F_MO) (N := 41) hx hb hts i_MO hown hK hP 0 (mw_at (by decide) (mc_0 _ _ _ _)) rfl 8 (by decide) (hts _ wd_708) (fun _ h9 => h9) rfl d_MO_readPartition_27 ?_
  refine lv_iconst (v := (1 : Int32)) hx hb d_MO_readPartition_30 (by decide) ?_
  refine lv_icmp_eq (tgt := 39) hx hb d_MO_readPartition_31 (by decide) (fun c_11 => ?_) (fun c_11 => ?_)
  · have h := xif_t c_11 h
    exact k_MO_readPartition_39 l C E S  _ h H locs ls hP hS hl
  · have h := xif_f c_11 h
    refine lv_aload_n hx hb d_MO_readPartition_34 rfl (lv_at hl 0 rfl) ?_
    refine lv_iconst (v := (1 : Int32)) hx hb d_MO_readPartition_35 (by decide) ?_
    obtain ⟨q10, e9, h⟩ := xb h
    refine mc_v (va_runV (As := [.int (1 : Int32)]) (rest := []) ⟨hx, hb, hml, hown, hts⟩ (c_MO_bad l D lay cA S (1 : Int32) q10 e9) (cwV 1 hts (xT_V wd_886 wd_888 wp_30 wd_7 wd_889) rfl rfl rfl (by decide +kernel) ⟨Nat.le_of_ble_eq_true rfl, Nat.le_of_ble_eq_true rfl⟩) (mpV E hP hS (by decide) (mc_0 _ _ _ _) rfl) rfl rfl hl.1 rfl (lv_room (Nat.le_of_ble_eq_true rfl)) d_MO_readPartition_36 ⟨Nat.le_of_ble_eq_true rfl, Nat.le_of_ble_eq_true rfl⟩) hS (fun H locs hP hS => ?_)
    exact k_MO_readPartition_39 l C E q10  _ h H locs ls hP hS hl
def f_MO_readPartition (S : XS)  : Option (XS) :=
  (f_MO_need S (0 : Int32)).bind fun q2 => (f_MO_good q2).bind fun q4 => if q4 = 0 then (f_MO_readPartition_26 q2) else (if (xgi q2 0 15) = (8 : Int32) then ((f_MO_bad q2 (4 : Int32)).bind fun q6 => f_MO_readPartition_26 q6) else (f_MO_readPartition_26 q2))
set_option maxHeartbeats 4000000 in
set_option maxRecDepth 100000 in
theorem k_MO_readPartition (l : Launch) {p : Program} {e : Env} {s : State} {m : MethodId} {args : Array Value} {below : List Frame} {meth : Method} {c : Code} {D : va_G} {lay : Nat → Nat} {cA : Nat → ClassId} (C : xB p s m args meth c R_MO b_MO_readPartition ((Option.none : Option Jvm.ClassFile.FieldType)) 2) (E : mE D lay cA s s.heap) : ∀ (S : XS)  (r : XS) (_ : f_MO_readPartition S = some r) (H : Heap) (locs : List Loc) (ls : Array Slot), va_P D xcl (mw lay cA S) H → va_S (mI lay) s.heap H locs → lv_has ls 2 [(0, .ref (lay 0))] → W p l e rm_MO_readPartition s m args below meth c H locs 0 0 (MQ below (mqv D lay cA r) args s 0 0 (mI lay)) (F0 m 0 ls []) := by
  obtain ⟨hx, hb, hr, hml, hown, hts, hlk, hnh⟩ := id C
  have hK := E.K
  intro S r h H locs ls hP hS hl
  unfold f_MO_readPartition at h
  refine lv_aload_n hx hb d_MO_readPartition_0 rfl (lv_at hl 0 rfl) ?_
  refine lv_iconst (v := (0 : Int32)) hx hb d_MO_readPartition_1 (by decide) ?_
  obtain ⟨q2, e1, h⟩ := xb h
  refine mc_v (va_runV (As := [.int (0 : Int32)]) (rest := []) ⟨hx, hb, hml, hown, hts⟩ (c_MO_need l D lay cA S (0 : Int32) q2 e1) (cwV 1 hts (xT_V wd_874 wd_876 wp_27 wd_7 wd_877) rfl rfl rfl (by decide +kernel) ⟨Nat.le_of_ble_eq_true rfl, Nat.le_of_ble_eq_true rfl⟩) (mpV E hP hS (by decide) (mc_0 _ _ _ _) rfl) rfl rfl hl.1 rfl (lv_room (Nat.le_of_ble_eq_true rfl)) d_MO_readPartition_2 ⟨Nat.le_of_ble_eq_true rfl, Nat.le_of_ble_eq_true rfl⟩) hS (fun H locs hP hS => ?_)
  refine lv_aload_n hx hb d_MO_readPartition_5 rfl (lv_at hl 0 rfl) ?_
  obtain ⟨q4, e3, h⟩ := xb h
  refine mc_i (va_runV (As := []) (rest := []) ⟨hx, hb, hml, hown, hts⟩ (c_MO_good l D lay cA q2 q4 e3) (cwV 0 hts (xT_V wd_882 wd_884 wp_29 wd_7 wd_885) rfl rfl rfl (by decide +kernel) ⟨Nat.le_of_ble_eq_true rfl, Nat.le_of_ble_eq_true rfl⟩) (mpV E hP hS (by decide) (mc_0 _ _ _ _) rfl) rfl rfl hl.1 rfl (lv_room (Nat.le_of_ble_eq_true rfl)) d_MO_readPartition_6 ⟨Nat.le_of_ble_eq_true rfl, Nat.le_of_ble_eq_true rfl⟩) hS (fun H locs hP hS => ?_)
  refine lv_if_eq (tgt := 26) hx hb d_MO_readPartition_9 (by decide) (fun c_8 => ?_) (fun c_8 => ?_)
  · have h := xif_t c_8 h
    exact k_MO_readPartition_26 l C E q2  _ h H locs ls hP hS hl
  · have h := xif_f c_8 h
    refine lv_aload_n hx hb d_MO_readPartition_12 rfl (lv_at hl 0 rfl) ?_
    refine va_get (v := .int (xgi q2 0 15)) (C := R_MO) (T := F_MO) (N := 41) hx hb hts i_MO hown hK hP 0 (mw_at (by decide) (mc_0 _ _ _ _)) rfl 15 (by decide) (hts _ wd_715) (fun _ h9 => h9) rfl d_MO_readPartition_13 ?_
    refine lv_bipush (v := (8 : Int32)) hx hb d_MO_readPartition_16 (by decide) ?_
    refine lv_icmp_ne (tgt := 26) hx hb d_MO_readPartition_18 (by decide) (fun c_7 => ?_) (fun c_7 => ?_)
    · have h := xif_f c_7 h
      exact k_MO_readPartition_26 l C E q2  _ h H locs ls hP hS hl
    · have h := xif_t c_7 h
      refine lv_aload_n hx hb d_MO_readPartition_21 rfl (lv_at hl 0 rfl) ?_
      refine lv_iconst (v := (4 : Int32)) hx hb d_MO_readPartition_22 (by decide) ?_
      obtain ⟨q6, e5, h⟩ := xb h
      refine mc_v (va_runV (As := [.int (4 : Int32)]) (rest := []) ⟨hx, hb, hml, hown, hts⟩ (c_MO_bad l D lay cA q2 (4 : Int32) q6 e5) (cwV 1 hts (xT_V wd_886 wd_888 wp_30 wd_7 wd_889) rfl rfl rfl (by decide +kernel) ⟨Nat.le_of_ble_eq_true rfl, Nat.le_of_ble_eq_true rfl⟩) (mpV E hP hS (by decide) (mc_0 _ _ _ _) rfl) rfl rfl hl.1 rfl (lv_room (Nat.le_of_ble_eq_true rfl)) d_MO_readPartition_23 ⟨Nat.le_of_ble_eq_true rfl, Nat.le_of_ble_eq_true rfl⟩) hS (fun H locs hP hS => ?_)
      exact k_MO_readPartition_26 l C E q6  _ h H locs ls hP hS hl
theorem c_MO_readPartition (l : Launch) (D : va_G) (lay : Nat → Nat) (cA : Nat → ClassId) (S : XS)  (r : XS) (h : f_MO_readPartition S  = some r) : Met l y_MO_readPartition (.code y_MO_readPartition b_MO_readPartition 2 ((Option.none : Option Jvm.ClassFile.FieldType)) :: xT) rm_MO_readPartition (mPc D lay cA S [.ref (lay 0)]) (mqv D lay cA r) 0 0 (mI lay) := by
  refine Met.ofW (cc := b_MO_readPartition) (maxL := 2) (ret := (Option.none : Option Jvm.ClassFile.FieldType)) (by decide +kernel) rfl ?_
  intro p e s m args below meth c s₁ B hml hv
  obtain ⟨rfl, hP, E⟩ := hv
  have C := xB_of B hml
  have hl := lv_entry ([.ref (lay 0)]) (n := 2) (Nat.le_of_ble_eq_true rfl)
  rw [lg_entry_eq]
  generalize (lg_sl ([.ref (lay 0)]) ++ List.replicate (2 - (lg_sl ([.ref (lay 0)])).length) Slot.unset).toArray = ls at hl ⊢
  exact k_MO_readPartition l C E S  r h s.heap [] ls hP va_S.rf hl
/-! ConfigTextsModel.readEnd(II)I -/
def rm_MO_readEnd : Room := { frames := 4, cells := 0, slots := 0, locals := 86 }
theorem d_MO_readEnd_0 : decode b_MO_readEnd 0 = .ok (.aload_n 0, 1) := by decide +kernel
theorem d_MO_readEnd_1 : decode b_MO_readEnd 1 = .ok (.invokevirtual 214, 3) := by decide +kernel
theorem d_MO_readEnd_4 : decode b_MO_readEnd 4 = .ok (.ifCond .ne 5, 3) := by decide +kernel
theorem d_MO_readEnd_7 : decode b_MO_readEnd 7 = .ok (.iconst (-1), 1) := by decide +kernel
theorem d_MO_readEnd_8 : decode b_MO_readEnd 8 = .ok (.ireturn, 1) := by decide +kernel
theorem d_MO_readEnd_9 : decode b_MO_readEnd 9 = .ok (.aload_n 0, 1) := by decide +kernel
theorem d_MO_readEnd_10 : decode b_MO_readEnd 10 = .ok (.getfield 197, 3) := by decide +kernel
theorem d_MO_readEnd_13 : decode b_MO_readEnd 13 = .ok (.iconst 1, 1) := by decide +kernel
theorem d_MO_readEnd_14 : decode b_MO_readEnd 14 = .ok (.if_icmp .eq 10, 3) := by decide +kernel
theorem d_MO_readEnd_17 : decode b_MO_readEnd 17 = .ok (.aload_n 0, 1) := by decide +kernel
theorem d_MO_readEnd_18 : decode b_MO_readEnd 18 = .ok (.iconst 1, 1) := by decide +kernel
theorem d_MO_readEnd_19 : decode b_MO_readEnd 19 = .ok (.invokevirtual 221, 3) := by decide +kernel
theorem d_MO_readEnd_22 : decode b_MO_readEnd 22 = .ok (.iconst (-1), 1) := by decide +kernel
theorem d_MO_readEnd_23 : decode b_MO_readEnd 23 = .ok (.ireturn, 1) := by decide +kernel
theorem d_MO_readEnd_24 : decode b_MO_readEnd 24 = .ok (.aload_n 0, 1) := by decide +kernel
theorem d_MO_readEnd_25 : decode b_MO_readEnd 25 = .ok (.aload_n 0, 1) := by decide +kernel
theorem d_MO_readEnd_26 : decode b_MO_readEnd 26 = .ok (.getfield 167, 3) := by decide +kernel
theorem d_MO_readEnd_29 : decode b_MO_readEnd 29 = .ok (.invokevirtual 291, 3) := by decide +kernel
theorem d_MO_readEnd_32 : decode b_MO_readEnd 32 = .ok (.istore_n 3, 1) := by decide +kernel
theorem d_MO_readEnd_33 : decode b_MO_readEnd 33 = .ok (.iload_n 3, 1) := by decide +kernel
theorem d_MO_readEnd_34 : decode b_MO_readEnd 34 = .ok (.iconst (-1), 1) := by decide +kernel
theorem d_MO_readEnd_35 : decode b_MO_readEnd 35 = .ok (.if_icmp .ne 15, 3) := by decide +kernel
theorem d_MO_readEnd_38 : decode b_MO_readEnd 38 = .ok (.aload_n 0, 1) := by decide +kernel
theorem d_MO_readEnd_39 : decode b_MO_readEnd 39 = .ok (.bipush 6, 2) := by decide +kernel
theorem d_MO_readEnd_41 : decode b_MO_readEnd 41 = .ok (.aload_n 0, 1) := by decide +kernel
theorem d_MO_readEnd_42 : decode b_MO_readEnd 42 = .ok (.getfield 185, 3) := by decide +kernel
theorem d_MO_readEnd_45 : decode b_MO_readEnd 45 = .ok (.invokevirtual 210, 3) := by decide +kernel
theorem d_MO_readEnd_48 : decode b_MO_readEnd 48 = .ok (.iconst (-1), 1) := by decide +kernel
theorem d_MO_readEnd_49 : decode b_MO_readEnd 49 = .ok (.ireturn, 1) := by decide +kernel
theorem d_MO_readEnd_50 : decode b_MO_readEnd 50 = .ok (.aload_n 0, 1) := by decide +kernel
theorem d_MO_readEnd_51 : decode b_MO_readEnd 51 = .ok (.invokevirtual 225, 3) := by decide +kernel
theorem d_MO_readEnd_54 : decode b_MO_readEnd 54 = .ok (.aload_n 0, 1) := by decide +kernel
theorem d_MO_readEnd_55 : decode b_MO_readEnd 55 = .ok (.bipush 46, 2) := by decide +kernel
theorem d_MO_readEnd_57 : decode b_MO_readEnd 57 = .ok (.invokevirtual 238, 3) := by decide +kernel
theorem d_MO_readEnd_60 : decode b_MO_readEnd 60 = .ok (.aload_n 0, 1) := by decide +kernel
theorem d_MO_readEnd_61 : decode b_MO_readEnd 61 = .ok (.invokevirtual 214, 3) := by decide +kernel
theorem d_MO_readEnd_64 : decode b_MO_readEnd 64 = .ok (.ifCond .eq 16, 3) := by decide +kernel
theorem d_MO_readEnd_67 : decode b_MO_readEnd 67 = .ok (.aload_n 0, 1) := by decide +kernel
theorem d_MO_readEnd_68 : decode b_MO_readEnd 68 = .ok (.getfield 197, 3) := by decide +kernel
theorem d_MO_readEnd_71 : decode b_MO_readEnd 71 = .ok (.iconst 1, 1) := by decide +kernel
theorem d_MO_readEnd_72 : decode b_MO_readEnd 72 = .ok (.if_icmp .eq 8, 3) := by decide +kernel
theorem d_MO_readEnd_75 : decode b_MO_readEnd 75 = .ok (.aload_n 0, 1) := by decide +kernel
theorem d_MO_readEnd_76 : decode b_MO_readEnd 76 = .ok (.iconst 1, 1) := by decide +kernel
theorem d_MO_readEnd_77 : decode b_MO_readEnd 77 = .ok (.invokevirtual 221, 3) := by decide +kernel
theorem d_MO_readEnd_80 : decode b_MO_readEnd 80 = .ok (.aload_n 0, 1) := by decide +kernel
theorem d_MO_readEnd_81 : decode b_MO_readEnd 81 = .ok (.invokevirtual 214, 3) := by decide +kernel
theorem d_MO_readEnd_84 : decode b_MO_readEnd 84 = .ok (.ifCond .ne 5, 3) := by decide +kernel
theorem d_MO_readEnd_87 : decode b_MO_readEnd 87 = .ok (.iconst (-1), 1) := by decide +kernel
theorem d_MO_readEnd_88 : decode b_MO_readEnd 88 = .ok (.ireturn, 1) := by decide +kernel
theorem d_MO_readEnd_89 : decode b_MO_readEnd 89 = .ok (.aload_n 0, 1) := by decide +kernel
theorem d_MO_readEnd_90 : decode b_MO_readEnd 90 = .ok (.iload_n 3, 1) := by decide +kernel
theorem d_MO_readEnd_91 : decode b_MO_readEnd 91 = .ok (.aload_n 0, 1) := by decide +kernel
theorem d_MO_readEnd_92 : decode b_MO_readEnd 92 = .ok (.getfield 167, 3) := by decide +kernel
theorem d_MO_readEnd_95 : decode b_MO_readEnd 95 = .ok (.invokevirtual 247, 3) := by decide +kernel
theorem d_MO_readEnd_98 : decode b_MO_readEnd 98 = .ok (.istore 4, 2) := by decide +kernel
theorem d_MO_readEnd_100 : decode b_MO_readEnd 100 = .ok (.iload 4, 2) := by decide +kernel
theorem d_MO_readEnd_102 : decode b_MO_readEnd 102 = .ok (.iconst (-1), 1) := by decide +kernel
theorem d_MO_readEnd_103 : decode b_MO_readEnd 103 = .ok (.if_icmp .eq 14, 3) := by decide +kernel
theorem d_MO_readEnd_106 : decode b_MO_readEnd 106 = .ok (.aload_n 0, 1) := by decide +kernel
theorem d_MO_readEnd_107 : decode b_MO_readEnd 107 = .ok (.getfield 125, 3) := by decide +kernel
theorem d_MO_readEnd_110 : decode b_MO_readEnd 110 = .ok (.iload 4, 2) := by decide +kernel
theorem d_MO_readEnd_112 : decode b_MO_readEnd 112 = .ok (.iaload, 1) := by decide +kernel
theorem d_MO_readEnd_113 : decode b_MO_readEnd 113 = .ok (.iconst 5, 1) := by decide +kernel
theorem d_MO_readEnd_114 : decode b_MO_readEnd 114 = .ok (.if_icmp .eq 16, 3) := by decide +kernel
theorem d_MO_readEnd_117 : decode b_MO_readEnd 117 = .ok (.aload_n 0, 1) := by decide +kernel
theorem d_MO_readEnd_118 : decode b_MO_readEnd 118 = .ok (.bipush 6, 2) := by decide +kernel
theorem d_MO_readEnd_120 : decode b_MO_readEnd 120 = .ok (.aload_n 0, 1) := by decide +kernel
theorem d_MO_readEnd_121 : decode b_MO_readEnd 121 = .ok (.getfield 185, 3) := by decide +kernel
theorem d_MO_readEnd_124 : decode b_MO_readEnd 124 = .ok (.invokevirtual 210, 3) := by decide +kernel
theorem d_MO_readEnd_127 : decode b_MO_readEnd 127 = .ok (.goto 78, 3) := by decide +kernel
theorem d_MO_readEnd_130 : decode b_MO_readEnd 130 = .ok (.aload_n 0, 1) := by decide +kernel
theorem d_MO_readEnd_131 : decode b_MO_readEnd 131 = .ok (.getfield 131, 3) := by decide +kernel
theorem d_MO_readEnd_134 : decode b_MO_readEnd 134 = .ok (.iconst 5, 1) := by decide +kernel
theorem d_MO_readEnd_135 : decode b_MO_readEnd 135 = .ok (.iload 4, 2) := by decide +kernel
theorem d_MO_readEnd_137 : decode b_MO_readEnd 137 = .ok (.imul, 1) := by decide +kernel
theorem d_MO_readEnd_138 : decode b_MO_readEnd 138 = .ok (.iaload, 1) := by decide +kernel
theorem d_MO_readEnd_139 : decode b_MO_readEnd 139 = .ok (.iload_n 1, 1) := by decide +kernel
theorem d_MO_readEnd_140 : decode b_MO_readEnd 140 = .ok (.if_icmp .ne 33, 3) := by decide +kernel
theorem d_MO_readEnd_143 : decode b_MO_readEnd 143 = .ok (.aload_n 0, 1) := by decide +kernel
theorem d_MO_readEnd_144 : decode b_MO_readEnd 144 = .ok (.getfield 131, 3) := by decide +kernel
theorem d_MO_readEnd_147 : decode b_MO_readEnd 147 = .ok (.iconst 5, 1) := by decide +kernel
theorem d_MO_readEnd_148 : decode b_MO_readEnd 148 = .ok (.iload 4, 2) := by decide +kernel
theorem d_MO_readEnd_150 : decode b_MO_readEnd 150 = .ok (.imul, 1) := by decide +kernel
theorem d_MO_readEnd_151 : decode b_MO_readEnd 151 = .ok (.iconst 1, 1) := by decide +kernel
theorem d_MO_readEnd_152 : decode b_MO_readEnd 152 = .ok (.iadd, 1) := by decide +kernel
theorem d_MO_readEnd_153 : decode b_MO_readEnd 153 = .ok (.iaload, 1) := by decide +kernel
theorem d_MO_readEnd_154 : decode b_MO_readEnd 154 = .ok (.iload_n 2, 1) := by decide +kernel
theorem d_MO_readEnd_155 : decode b_MO_readEnd 155 = .ok (.if_icmp .ne 18, 3) := by decide +kernel
theorem d_MO_readEnd_158 : decode b_MO_readEnd 158 = .ok (.aload_n 0, 1) := by decide +kernel
theorem d_MO_readEnd_159 : decode b_MO_readEnd 159 = .ok (.getfield 131, 3) := by decide +kernel
theorem d_MO_readEnd_162 : decode b_MO_readEnd 162 = .ok (.iconst 5, 1) := by decide +kernel
theorem d_MO_readEnd_163 : decode b_MO_readEnd 163 = .ok (.iload 4, 2) := by decide +kernel
theorem d_MO_readEnd_165 : decode b_MO_readEnd 165 = .ok (.imul, 1) := by decide +kernel
theorem d_MO_readEnd_166 : decode b_MO_readEnd 166 = .ok (.iconst 2, 1) := by decide +kernel
theorem d_MO_readEnd_167 : decode b_MO_readEnd 167 = .ok (.iadd, 1) := by decide +kernel
theorem d_MO_readEnd_168 : decode b_MO_readEnd 168 = .ok (.iaload, 1) := by decide +kernel
theorem d_MO_readEnd_169 : decode b_MO_readEnd 169 = .ok (.iconst (-1), 1) := by decide +kernel
theorem d_MO_readEnd_170 : decode b_MO_readEnd 170 = .ok (.if_icmp .eq 16, 3) := by decide +kernel
theorem d_MO_readEnd_173 : decode b_MO_readEnd 173 = .ok (.aload_n 0, 1) := by decide +kernel
theorem d_MO_readEnd_174 : decode b_MO_readEnd 174 = .ok (.bipush 7, 2) := by decide +kernel
theorem d_MO_readEnd_176 : decode b_MO_readEnd 176 = .ok (.aload_n 0, 1) := by decide +kernel
theorem d_MO_readEnd_177 : decode b_MO_readEnd 177 = .ok (.getfield 185, 3) := by decide +kernel
theorem d_MO_readEnd_180 : decode b_MO_readEnd 180 = .ok (.invokevirtual 210, 3) := by decide +kernel
theorem d_MO_readEnd_183 : decode b_MO_readEnd 183 = .ok (.goto 22, 3) := by decide +kernel
theorem d_MO_readEnd_186 : decode b_MO_readEnd 186 = .ok (.aload_n 0, 1) := by decide +kernel
theorem d_MO_readEnd_187 : decode b_MO_readEnd 187 = .ok (.getfield 131, 3) := by decide +kernel
theorem d_MO_readEnd_190 : decode b_MO_readEnd 190 = .ok (.iconst 5, 1) := by decide +kernel
theorem d_MO_readEnd_191 : decode b_MO_readEnd 191 = .ok (.iload 4, 2) := by decide +kernel
theorem d_MO_readEnd_193 : decode b_MO_readEnd 193 = .ok (.imul, 1) := by decide +kernel
theorem d_MO_readEnd_194 : decode b_MO_readEnd 194 = .ok (.iconst 2, 1) := by decide +kernel
theorem d_MO_readEnd_195 : decode b_MO_readEnd 195 = .ok (.iadd, 1) := by decide +kernel
theorem d_MO_readEnd_196 : decode b_MO_readEnd 196 = .ok (.aload_n 0, 1) := by decide +kernel
theorem d_MO_readEnd_197 : decode b_MO_readEnd 197 = .ok (.getfield 300, 3) := by decide +kernel
theorem d_MO_readEnd_200 : decode b_MO_readEnd 200 = .ok (.iastore, 1) := by decide +kernel
theorem d_MO_readEnd_201 : decode b_MO_readEnd 201 = .ok (.aload_n 0, 1) := by decide +kernel
theorem d_MO_readEnd_202 : decode b_MO_readEnd 202 = .ok (.invokevirtual 225, 3) := by decide +kernel
theorem d_MO_readEnd_205 : decode b_MO_readEnd 205 = .ok (.iload_n 3, 1) := by decide +kernel
theorem d_MO_readEnd_206 : decode b_MO_readEnd 206 = .ok (.ireturn, 1) := by decide +kernel
def f_MO_readEnd_117 (S : XS) (a3 : Int32) : Option (Int32 × XS) :=
  (f_MO_fail S (6 : Int32) (xgi S 0 6)).bind fun q40 => some (a3, q40)
set_option maxHeartbeats 4000000 in
set_option maxRecDepth 100000 in
theorem k_MO_readEnd_117 (l : Launch) {p : Program} {e : Env} {s : State} {m : MethodId} {args : Array Value} {below : List Frame} {meth : Method} {c : Code} {D : va_G} {lay : Nat → Nat} {cA : Nat → ClassId} (C : xB p s m args meth c R_MO b_MO_readEnd ((Option.some Jvm.ClassFile.FieldType.int)) 5) (E : mE D lay cA s s.heap) : ∀ (S : XS) (a3 : Int32) (r : Int32 × XS) (_ : f_MO_readEnd_117 S a3 = some r) (H : Heap) (locs : List Loc) (ls : Array Slot), va_P D xcl (mw lay cA S) H → va_S (mI lay) s.heap H locs → lv_has ls 5 [(0, .ref (lay 0)), (3, .int a3)] → W p l e rm_MO_readEnd s m args below meth c H locs 0 0 (MQ below (mqi D lay cA r.1 r.2) args s 0 0 (mI lay)) (F0 m 117 ls []) := by
  obtain ⟨hx, hb, hr, hml, hown, hts, hlk, hnh⟩ := id C
  have hK := E.K
  intro S a3 r h H locs ls hP hS hl
  unfold f_MO_readEnd_117 at h
  refine lv_aload_n hx hb d_MO_readEnd_117 rfl (lv_at hl 0 rfl) ?_
  refine lv_bipush (v := (6 : Int32)) hx hb d_MO_readEnd_118 (by decide) ?_
  refine lv_aload_n hx hb d_MO_readEnd_120 rfl (lv_at hl 0 rfl) ?_
  refine va_get (v := .int (xgi S 0 6)) (C := R_MO) (T := F_MO) (N := 41) hx hb hts i_MO hown hK hP 0 (mw_at (by decide) (mc_0 _ _ _ _)) rfl 6 (by decide) (hts _ wd_706) (fun _ h9 => h9) rfl d_MO_readEnd_121 ?_
  obtain ⟨q40, e39, h⟩ := xb h
  refine mc_v (va_runV (As := [.int (6 : Int32), .int (xgi S 0 6)]) (rest := []) ⟨hx, hb, hml, hown, hts⟩ (c_MO_fail l D lay cA S (6 : Int32) (xgi S 0 6) q40 e39) (cwV 2 hts (xT_V wd_890 wd_892 wp_31 wd_7 wd_893) rfl rfl rfl (by decide +kernel) ⟨Nat.le_of_ble_eq_true rfl, Nat.le_of_ble_eq_true rfl⟩) (mpV E hP hS (by decide) (mc_0 _ _ _ _) rfl) rfl rfl hl.1 rfl (lv_room (Nat.le_of_ble_eq_true rfl)) d_MO_readEnd_124 ⟨Nat.le_of_ble_eq_true rfl, Nat.le_of_ble_eq_true rfl⟩) hS (fun H locs hP hS => ?_)
  refine lv_goto (tgt := 205) hx hb d_MO_readEnd_127 (by decide) ?_
  refine lv_iload_n hx hb d_MO_readEnd_205 rfl (lv_at hl 1 rfl) ?_
  have h9 := Option.some.inj h
  subst h9
  exact W.iret (v := a3) hx hb hr (fun t ht hW => ⟨⟨a3, (), rfl, rfl, by show va_P D xcl _ t.heap; rw [ht]; exact hP⟩, hS.F ht⟩) hS.2.2 d_MO_readEnd_206
def f_MO_readEnd_173 (S : XS) (a3 : Int32) : Option (Int32 × XS) :=
  (f_MO_fail S (7 : Int32) (xgi S 0 6)).bind fun q42 => some (a3, q42)
set_option maxHeartbeats 4000000 in
set_option maxRecDepth 100000 in
theorem k_MO_readEnd_173 (l : Launch) {p : Program} {e : Env} {s : State} {m : MethodId} {args : Array Value} {below : List Frame} {meth : Method} {c : Code} {D : va_G} {lay : Nat → Nat} {cA : Nat → ClassId} (C : xB p s m args meth c R_MO b_MO_readEnd ((Option.some Jvm.ClassFile.FieldType.int)) 5) (E : mE D lay cA s s.heap) : ∀ (S : XS) (a3 : Int32) (r : Int32 × XS) (_ : f_MO_readEnd_173 S a3 = some r) (H : Heap) (locs : List Loc) (ls : Array Slot), va_P D xcl (mw lay cA S) H → va_S (mI lay) s.heap H locs → lv_has ls 5 [(0, .ref (lay 0)), (3, .int a3)] → W p l e rm_MO_readEnd s m args below meth c H locs 0 0 (MQ below (mqi D lay cA r.1 r.2) args s 0 0 (mI lay)) (F0 m 173 ls []) := by
  obtain ⟨hx, hb, hr, hml, hown, hts, hlk, hnh⟩ := id C
  have hK := E.K
  intro S a3 r h H locs ls hP hS hl
  unfold f_MO_readEnd_173 at h
  refine lv_aload_n hx hb d_MO_readEnd_173 rfl (lv_at hl 0 rfl) ?_
  refine lv_bipush (v := (7 : Int32)) hx hb d_MO_readEnd_174 (by decide) ?_
  refine lv_aload_n hx hb d_MO_readEnd_176 rfl (lv_at hl 0 rfl) ?_
  refine va_get (v := .int (xgi S 0 6)) (C := R_MO) (T := F_MO) (N := 41) hx hb hts i_MO hown hK hP 0 (mw_at (by decide) (mc_0 _ _ _ _)) rfl 6 (by decide) (hts _ wd_706) (fun _ h9 => h9) rfl d_MO_readEnd_177 ?_
  obtain ⟨q42, e41, h⟩ := xb h
  refine mc_v (va_runV (As := [.int (7 : Int32), .int (xgi S 0 6)]) (rest := []) ⟨hx, hb, hml, hown, hts⟩ (c_MO_fail l D lay cA S (7 : Int32) (xgi S 0 6) q42 e41) (cwV 2 hts (xT_V wd_890 wd_892 wp_31 wd_7 wd_893) rfl rfl rfl (by decide +kernel) ⟨Nat.le_of_ble_eq_true rfl, Nat.le_of_ble_eq_true rfl⟩) (mpV E hP hS (by decide) (mc_0 _ _ _ _) rfl) rfl rfl hl.1 rfl (lv_room (Nat.le_of_ble_eq_true rfl)) d_MO_readEnd_180 ⟨Nat.le_of_ble_eq_true rfl, Nat.le_of_ble_eq_true rfl⟩) hS (fun H locs hP hS => ?_)
  refine lv_goto (tgt := 205) hx hb d_MO_readEnd_183 (by decide) ?_
  refine lv_iload_n hx hb d_MO_readEnd_205 rfl (lv_at hl 1 rfl) ?_
  have h9 := Option.some.inj h
  subst h9
  exact W.iret (v := a3) hx hb hr (fun t ht hW => ⟨⟨a3, (), rfl, rfl, by show va_P D xcl _ t.heap; rw [ht]; exact hP⟩, hS.F ht⟩) hS.2.2 d_MO_readEnd_206
def f_MO_readEnd_80 (S : XS) (a1 : Int32) (a2 : Int32) (a3 : Int32) : Option (Int32 × XS) :=
  (f_MO_good S).bind fun q23 => if q23 = 0 then (some ((-1 : Int32), S)) else ((f_MO_find S a3 (xgl S 0 10)).bind fun q25 => if q25 = (-1 : Int32) then (f_MO_readEnd_117 S a3) else (if ¬ (q25 < 0 ∨ 320 ≤ q25.toNatClampNeg) then (if (xgi S 14 q25.toNatClampNeg) = (5 : Int32) then (if ¬ (((5 : Int32) * q25) < 0 ∨ 1600 ≤ ((5 : Int32) * q25).toNatClampNeg) then (if (xgi S 16 ((5 : Int32) * q25).toNatClampNeg) = a1 then (if ¬ ((((5 : Int32) * q25) + (1 : Int32)) < 0 ∨ 1600 ≤ (((5 : Int32) * q25) + (1 : Int32)).toNatClampNeg) then (if (xgi S 16 (((5 : Int32) * q25) + (1 : Int32)).toNatClampNeg) = a2 then (if ¬ ((((5 : Int32) * q25) + (2 : Int32)) < 0 ∨ 1600 ≤ (((5 : Int32) * q25) + (2 : Int32)).toNatClampNeg) then (if (xgi S 16 (((5 : Int32) * q25) + (2 : Int32)).toNatClampNeg) = (-1 : Int32) then (if ¬ ((((5 : Int32) * q25) + (2 : Int32)) < 0 ∨ 1600 ≤ (((5 : Int32) * q25) + (2 : Int32)).toNatClampNeg) then ((f_MO_next (xpi S 16 (((5 : Int32) * q25) + (2 : Int32)).toNatClampNeg (xgi S 0 29))).bind fun q32 => some (a3, q32)) else none) else (f_MO_readEnd_173 S a3)) else none) else (f_MO_readEnd_173 S a3)) else none) else (f_MO_readEnd_173 S a3)) else none) else (f_MO_readEnd_117 S a3)) else none))
set_option maxHeartbeats 4000000 in
set_option maxRecDepth 100000 in
theorem k_MO_readEnd_80 (l : Launch) {p : Program} {e : Env} {s : State} {m : MethodId} {args : Array Value} {below : List Frame} {meth : Method} {c : Code} {D : va_G} {lay : Nat → Nat} {cA : Nat → ClassId} (C : xB p s m args meth c R_MO b_MO_readEnd ((Option.some Jvm.ClassFile.FieldType.int)) 5) (E : mE D lay cA s s.heap) : ∀ (S : XS) (a1 : Int32) (a2 : Int32) (a3 : Int32) (r : Int32 × XS) (_ : f_MO_readEnd_80 S a1 a2 a3 = some r) (H : Heap) (locs : List Loc) (ls : Array Slot), va_P D xcl (mw lay cA S) H → va_S (mI lay) s.heap H locs → lv_has ls 5 [(0, .ref (lay 0)), (1, .int a1), (2, .int a2), (3, .int a3)] → W p l e rm_MO_readEnd s m args below meth c H locs 0 0 (MQ below (mqi D lay cA r.1 r.2) args s 0 0 (mI lay)) (F0 m 80 ls []) := by
  obtain ⟨hx, hb, hr, hml, hown, hts, hlk, hnh⟩ := id C
  have hK := E.K
  intro S a1 a2 a3 r h H locs ls hP hS hl
  unfold f_MO_readEnd_80 at h
  refine lv_aload_n hx hb d_MO_readEnd_80 rfl (lv_at hl 0 rfl) ?_
  obtain ⟨q23, e22, h⟩ := xb h
  refine mc_i (va_runV (As := []) (rest := []) ⟨hx, hb, hml, hown, hts⟩ (c_MO_good l D lay cA S q23 e22) (cwV 0 hts (xT_V wd_882 wd_884 wp_29 wd_7 wd_885) rfl rfl rfl (by decide +kernel) ⟨Nat.le_of_ble_eq_true rfl, Nat.le_of_ble_eq_true rfl⟩) (mpV E hP hS (by decide) (mc_0 _ _ _ _) rfl) rfl rfl hl.1 rfl (lv_room (Nat.le_of_ble_eq_true rfl)) d_MO_readEnd_81 ⟨Nat.le_of_ble_eq_true rfl, Nat.le_of_ble_eq_true rfl⟩) hS (fun H locs hP hS => ?_)
  refine lv_if_ne (tgt := 89) hx hb d_MO_readEnd_84 (by decide) (fun c_38 => ?_) (fun c_38 => ?_)
  · have h := xif_f c_38 h
    refine lv_aload_n hx hb d_MO_readEnd_89 rfl (lv_at hl 0 rfl) ?_
    refine lv_iload_n hx hb d_MO_readEnd_90 rfl (lv_at hl 3 rfl) ?_
    refine lv_aload_n hx hb d_MO_readEnd_91 rfl (lv_at hl 0 rfl) ?_
    refine va_get (v := .long (xgl S 0 10)) (C := R_MO) (T := F_MO) (N := 41) hx hb hts i_MO hown hK hP 0 (mw_at (by decide) (mc_0 _ _ _ _)) rfl 10 (by decide) (hts _ wd_710) (fun _ h9 => h9) rfl d_MO_readEnd_92 ?_
    obtain ⟨q25, e24, h⟩ := xb h
    refine mc_i (va_runV (As := [.int a3, .long (xgl S 0 10)]) (rest := []) ⟨hx, hb, hml, hown, hts⟩ (c_MO_find l D lay cA S a3 (xgl S 0 10) q25 e24) (cwV 2 hts (xT_V wd_933 wd_935 wp_41 wd_7 wd_936) rfl rfl rfl (by decide +kernel) ⟨Nat.le_of_ble_eq_true rfl, Nat.le_of_ble_eq_true rfl⟩) (mpV E hP hS (by decide) (mc_0 _ _ _ _) rfl) rfl rfl hl.1 rfl (lv_room (Nat.le_of_ble_eq_true rfl)) d_MO_readEnd_95 ⟨Nat.le_of_ble_eq_true rfl, Nat.le_of_ble_eq_true rfl⟩) hS (fun H locs hP hS => ?_)
    refine lv_istore (lv' := [(4, .int q25), (0, .ref (lay 0)), (1, .int a1), (2, .int a2), (3, .int a3)]) hx hb d_MO_readEnd_98 hl (by decide) rfl (fun ls hl => ?_)
    refine lv_iload hx hb d_MO_readEnd_100 (lv_at hl 0 rfl) ?_
    refine lv_iconst (v := (-1 : Int32)) hx hb d_MO_readEnd_102 (by decide) ?_
    refine lv_icmp_eq (tgt := 117) hx hb d_MO_readEnd_103 (by decide) (fun c_37 => ?_) (fun c_37 => ?_)
    · have h := xif_t c_37 h
      exact k_MO_readEnd_117 l C E S a3 _ h H locs ls hP hS (lv_sub hl [1, 4] rfl)
    · have h := xif_f c_37 h
      refine lv_aload_n hx hb d_MO_readEnd_106 rfl (lv_at hl 1 rfl) ?_
      refine va_get (v := .ref (lay 14)) (C := R_MO) (T := F_MO) (N := 41) hx hb hts i_MO hown hK hP 0 (mw_at (by decide) (mc_0 _ _ _ _)) rfl 25 (by decide) (hts _ wd_725) (fun _ h9 => h9) rfl d_MO_readEnd_107 ?_
      refine lv_iload hx hb d_MO_readEnd_110 (lv_at hl 0 rfl) ?_
      obtain ⟨hg26, h⟩ := xg h
      refine mal_14 hx hb E hP hg26 d_MO_readEnd_112 ?_
      refine lv_iconst (v := (5 : Int32)) hx hb d_MO_readEnd_113 (by decide) ?_
      refine lv_icmp_eq (tgt := 130) hx hb d_MO_readEnd_114 (by decide) (fun c_36 => ?_) (fun c_36 => ?_)
      · have h := xif_t c_36 h
        refine lv_aload_n hx hb d_MO_readEnd_130 rfl (lv_at hl 1 rfl) ?_
        refine va_get (v := .ref (lay 16)) (C := R_MO) (T := F_MO) (N := 41) hx hb hts i_MO hown hK hP 0 (mw_at (by decide) (mc_0 _ _ _ _)) rfl 27 (by decide) (hts _ wd_727) (fun _ h9 => h9) rfl d_MO_readEnd_131 ?_
        refine lv_iconst (v := (5 : Int32)) hx hb d_MO_readEnd_134 (by decide) ?_
        refine lv_iload hx hb d_MO_readEnd_135 (lv_at hl 0 rfl) ?_
        refine lv_imul hx hb d_MO_readEnd_137 ?_
        obtain ⟨hg27, h⟩ := xg h
        refine mal_16 hx hb E hP hg27 d_MO_readEnd_138 ?_
        refine lv_iload_n hx hb d_MO_readEnd_139 rfl (lv_at hl 2 rfl) ?_
        refine lv_icmp_ne (tgt := 173) hx hb d_MO_readEnd_140 (by decide) (fun c_35 => ?_) (fun c_35 => ?_)
        · have h := xif_f c_35 h
          exact k_MO_readEnd_173 l C E S a3 _ h H locs ls hP hS (lv_sub hl [1, 4] rfl)
        · have h := xif_t c_35 h
          refine lv_aload_n hx hb d_MO_readEnd_143 rfl (lv_at hl 1 rfl) ?_
          refine va_get (v := .ref (lay 16)) (C := R_MO) (T := F_MO) (N := 41) hx hb hts i_MO hown hK hP 0 (mw_at (by decide) (mc_0 _ _ _ _)) rfl 27 (by decide) (hts _ wd_727) (fun _ h9 => h9) rfl d_MO_readEnd_144 ?_
          refine lv_iconst (v := (5 : Int32)) hx hb d_MO_readEnd_147 (by decide) ?_
          refine lv_iload hx hb d_MO_readEnd_148 (lv_at hl 0 rfl) ?_
          refine lv_imul hx hb d_MO_readEnd_150 ?_
          refine lv_iconst (v := (1 : Int32)) hx hb d_MO_readEnd_151 (by decide) ?_
          refine lv_iadd hx hb d_MO_readEnd_152 ?_
          obtain ⟨hg28, h⟩ := xg h
          refine mal_16 hx hb E hP hg28 d_MO_readEnd_153 ?_
          refine lv_iload_n hx hb d_MO_readEnd_154 rfl (lv_at hl 3 rfl) ?_
          refine lv_icmp_ne (tgt := 173) hx hb d_MO_readEnd_155 (by decide) (fun c_34 => ?_) (fun c_34 => ?_)
          · have h := xif_f c_34 h
            exact k_MO_readEnd_173 l C E S a3 _ h H locs ls hP hS (lv_sub hl [1, 4] rfl)
          · have h := xif_t c_34 h
            refine lv_aload_n hx hb d_MO_readEnd_158 rfl (lv_at hl 1 rfl) ?_
            refine va_get (v := .ref (lay 16)) (C := R_MO) (T := F_MO) (N := 41) hx hb hts i_MO hown hK hP 0 (mw_at (by decide) (mc_0 _ _ _ _)) rfl 27 (by decide) (hts _ wd_727) (fun _ h9 => h9) rfl d_MO_readEnd_159 ?_
            refine lv_iconst (v := (5 : Int32)) hx hb d_MO_readEnd_162 (by decide) ?_
            refine lv_iload hx hb d_MO_readEnd_163 (lv_at hl 0 rfl) ?_
            refine lv_imul hx hb d_MO_readEnd_165 ?_
            refine lv_iconst (v := (2 : Int32)) hx hb d_MO_readEnd_166 (by decide) ?_
            refine lv_iadd hx hb d_MO_readEnd_167 ?_
            obtain ⟨hg29, h⟩ := xg h
            refine mal_16 hx hb E hP hg29 d_MO_readEnd_168 ?_
            refine lv_iconst (v := (-1 : Int32)) hx hb d_MO_readEnd_169 (by decide) ?_
            refine lv_icmp_eq (tgt := 186) hx hb d_MO_readEnd_170 (by decide) (fun c_33 => ?_) (fun c_33 => ?_)
            · have h := xif_t c_33 h
              refine lv_aload_n hx hb d_MO_readEnd_186 rfl (lv_at hl 1 rfl) ?_
              refine va_get (v := .ref (lay 16)) (C := R_MO) (T := F_MO) (N := 41) hx hb hts i_MO hown hK hP 0 (mw_at (by decide) (mc_0 _ _ _ _)) rfl 27 (by decide) (hts _ wd_727) (fun _ h9 => h9) rfl d_MO_readEnd_187 ?_
              refine lv_iconst (v := (5 : Int32)) hx hb d_MO_readEnd_190 (by decide) ?_
              refine lv_iload hx hb d_MO_readEnd_191 (lv_at hl 0 rfl) ?_
              refine lv_imul hx hb d_MO_readEnd_193 ?_
              refine lv_iconst (v := (2 : Int32)) hx hb d_MO_readEnd_194 (by decide) ?_
              refine lv_iadd hx hb d_MO_readEnd_195 ?_
              refine lv_aload_n hx hb d_MO_readEnd_196 rfl (lv_at hl 1 rfl) ?_
              refine va_get (v := .int (xgi S 0 29)) (C := R_MO) (T := F_MO) (N := 41) hx hb hts i_MO hown hK hP 0 (mw_at (by decide) (mc_0 _ _ _ _)) rfl 29 (by decide) (hts _ wd_729) (fun _ h9 => h9) rfl d_MO_readEnd_197 ?_
              obtain ⟨hg30, h⟩ := xg h
              refine mas_16 hx hb E hP hS hg30 d_MO_readEnd_200 (fun H locs hP hS => ?_)
              refine lv_aload_n hx hb d_MO_readEnd_201 rfl (lv_at hl 1 rfl) ?_
              obtain ⟨q32, e31, h⟩ := xb h
              refine mc_v (va_runV (As := []) (rest := []) ⟨hx, hb, hml, hown, hts⟩ (c_MO_next l D lay cA (xpi S 16 (((5 : Int32) * q25) + (2 : Int32)).toNatClampNeg (xgi S 0 29)) q32 e31) (cwV 0 hts (xT_V wd_841 wd_843 wp_21 wd_7 wd_844) rfl rfl rfl (by decide +kernel) ⟨Nat.le_of_ble_eq_true rfl, Nat.le_of_ble_eq_true rfl⟩) (mpV E hP hS (by decide) (mc_0 _ _ _ _) rfl) rfl rfl hl.1 rfl (lv_room (Nat.le_of_ble_eq_true rfl)) d_MO_readEnd_202 ⟨Nat.le_of_ble_eq_true rfl, Nat.le_of_ble_eq_true rfl⟩) hS (fun H locs hP hS => ?_)
              refine lv_iload_n hx hb d_MO_readEnd_205 rfl (lv_at hl 4 rfl) ?_
              have h9 := Option.some.inj h
              subst h9
              exact W.iret (v := a3) hx hb hr (fun t ht hW => ⟨⟨a3, (), rfl, rfl, by show va_P D xcl _ t.heap; rw [ht]; exact hP⟩, hS.F ht⟩) hS.2.2 d_MO_readEnd_206
            · have h := xif_f c_33 h
              exact k_MO_readEnd_173 l C E S a3 _ h H locs ls hP hS (lv_sub hl [1, 4] rfl)
      · have h := xif_f c_36 h
        exact k_MO_readEnd_117 l C E S a3 _ h H locs ls hP hS (lv_sub hl [1, 4] rfl)
  · have h := xif_t c_38 h
    refine lv_iconst (v := (-1 : Int32)) hx hb d_MO_readEnd_87 (by decide) ?_
    have h9 := Option.some.inj h
    subst h9
    exact W.iret (v := (-1 : Int32)) hx hb hr (fun t ht hW => ⟨⟨(-1 : Int32), (), rfl, rfl, by show va_P D xcl _ t.heap; rw [ht]; exact hP⟩, hS.F ht⟩) hS.2.2 d_MO_readEnd_88
def f_MO_readEnd (S : XS) (a1 : Int32) (a2 : Int32) : Option (Int32 × XS) :=
  (f_MO_good S).bind fun q2 => if q2 = 0 then (some ((-1 : Int32), S)) else (if (xgi S 0 8) = (1 : Int32) then ((f_MO_partitionOf S (xgl S 0 10)).bind fun q4 => if q4 = (-1 : Int32) then ((f_MO_fail S (6 : Int32) (xgi S 0 6)).bind fun q16 => some ((-1 : Int32), q16)) else ((f_MO_next S).bind fun q6 => (f_MO_sign q6 (46 : Int32)).bind fun q8 => (f_MO_good q8).bind fun q10 => if q10 = 0 then (f_MO_readEnd_80 q8 a1 a2 q4) else (if (xgi q8 0 8) = (1 : Int32) then (f_MO_readEnd_80 q8 a1 a2 q4) else ((f_MO_bad q8 (1 : Int32)).bind fun q12 => f_MO_readEnd_80 q12 a1 a2 q4)))) else ((f_MO_bad S (1 : Int32)).bind fun q19 => some ((-1 : Int32), q19)))
set_option maxHeartbeats 4000000 in
set_option maxRecDepth 100000 in
theorem k_MO_readEnd (l : Launch) {p : Program} {e : Env} {s : State} {m : MethodId} {args : Array Value} {below : List Frame} {meth : Method} {c : Code} {D : va_G} {lay : Nat → Nat} {cA : Nat → ClassId} (C : xB p s m args meth c R_MO b_MO_readEnd ((Option.some Jvm.ClassFile.FieldType.int)) 5) (E : mE D lay cA s s.heap) : ∀ (S : XS) (a1 : Int32) (a2 : Int32) (r : Int32 × XS) (_ : f_MO_readEnd S a1 a2 = some r) (H : Heap) (locs : List Loc) (ls : Array Slot), va_P D xcl (mw lay cA S) H → va_S (mI lay) s.heap H locs → lv_has ls 5 [(0, .ref (lay 0)), (1, .int a1), (2, .int a2)] → W p l e rm_MO_readEnd s m args below meth c H locs 0 0 (MQ below (mqi D lay cA r.1 r.2) args s 0 0 (mI lay)) (F0 m 0 ls []) := by
  obtain ⟨hx, hb, hr, hml, hown, hts, hlk, hnh⟩ := id C
  have hK := E.K
  intro S a1 a2 r h H locs ls hP hS hl
  unfold f_MO_readEnd at h
  refine lv_aload_n hx hb d_MO_readEnd_0 rfl (lv_at hl 0 rfl) ?_
  obtain ⟨q2, e1, h⟩ := xb h
  refine mc_i (va_runV (As := []) (rest := []) ⟨hx, hb, hml, hown, hts⟩ (c_MO_good l D lay cA S q2 e1) (cwV 0 hts (xT_V wd_882 wd_884 wp_29 wd_7 wd_885) rfl rfl rfl (by decide +kernel) ⟨Nat.le_of_ble_eq_true rfl, Nat.le_of_ble_eq_true rfl⟩) (mpV E hP hS (by decide) (mc_0 _ _ _ _) rfl) rfl rfl hl.1 rfl (lv_room (Nat.le_of_ble_eq_true rfl)) d_MO_readEnd_1 ⟨Nat.le_of_ble_eq_true rfl, Nat.le_of_ble_eq_true rfl⟩) hS (fun H locs hP hS => ?_)
  refine lv_if_ne (tgt := 9) hx hb d_MO_readEnd_4 (by decide) (fun c_21 => ?_) (fun c_21 => ?_)
  · have h := xif_f c_21 h
    refine lv_aload_n hx hb d_MO_readEnd_9 rfl (lv_at hl 0 rfl) ?_
    refine va_get (v := .int (xgi S 0 8)) (C := R_MO) (T := F_MO) (N := 41) hx hb hts i_MO hown hK hP 0 (mw_at (by decide) (mc_0 _ _ _ _)) rfl 8 (by decide) (hts _ wd_708) (fun _ h9 => h9) rfl d_MO_readEnd_10 ?_
    refine lv_iconst (v := (1 : Int32)) hx hb d_MO_readEnd_13 (by decide) ?_
    refine lv_icmp_eq (tgt := 24) hx hb d_MO_readEnd_14 (by decide) (fun c_20 => ?_) (fun c_20 => ?_)
    · have h := xif_t c_20 h
      refine lv_aload_n hx hb d_MO_readEnd_24 rfl (lv_at hl 0 rfl) ?_
      refine lv_aload_n hx hb d_MO_readEnd_25 rfl (lv_at hl 0 rfl) ?_
      refine va_get (v := .long (xgl S 0 10)) (C := R_MO) (T := F_MO) (N := 41) hx hb hts i_MO hown hK hP 0 (mw_at (by decide) (mc_0 _ _ _ _)) rfl 10 (by decide) (hts _ wd_710) (fun _ h9 => h9) rfl d_MO_readEnd_26 ?_
      obtain ⟨q4, e3, h⟩ := xb h
      refine mc_i (va_runV (As := [.long (xgl S 0 10)]) (rest := []) ⟨hx, hb, hml, hown, hts⟩ (c_MO_partitionOf l D lay cA S (xgl S 0 10) q4 e3) (cwV 1 hts (xT_V wd_894 wd_896 wp_32 wd_7 wd_897) rfl rfl rfl (by decide +kernel) ⟨Nat.le_of_ble_eq_true rfl, Nat.le_of_ble_eq_true rfl⟩) (mpV E hP hS (by decide) (mc_0 _ _ _ _) rfl) rfl rfl hl.1 rfl (lv_room (Nat.le_of_ble_eq_true rfl)) d_MO_readEnd_29 ⟨Nat.le_of_ble_eq_true rfl, Nat.le_of_ble_eq_true rfl⟩) hS (fun H locs hP hS => ?_)
      refine lv_istore_n (lv' := [(3, .int q4), (0, .ref (lay 0)), (1, .int a1), (2, .int a2)]) hx hb d_MO_readEnd_32 rfl hl (by decide) rfl (fun ls hl => ?_)
      refine lv_iload_n hx hb d_MO_readEnd_33 rfl (lv_at hl 0 rfl) ?_
      refine lv_iconst (v := (-1 : Int32)) hx hb d_MO_readEnd_34 (by decide) ?_
      refine lv_icmp_ne (tgt := 50) hx hb d_MO_readEnd_35 (by decide) (fun c_17 => ?_) (fun c_17 => ?_)
      · have h := xif_f c_17 h
        refine lv_aload_n hx hb d_MO_readEnd_50 rfl (lv_at hl 1 rfl) ?_
        obtain ⟨q6, e5, h⟩ := xb h
        refine mc_v (va_runV (As := []) (rest := []) ⟨hx, hb, hml, hown, hts⟩ (c_MO_next l D lay cA S q6 e5) (cwV 0 hts (xT_V wd_841 wd_843 wp_21 wd_7 wd_844) rfl rfl rfl (by decide +kernel) ⟨Nat.le_of_ble_eq_true rfl, Nat.le_of_ble_eq_true rfl⟩) (mpV E hP hS (by decide) (mc_0 _ _ _ _) rfl) rfl rfl hl.1 rfl (lv_room (Nat.le_of_ble_eq_true rfl)) d_MO_readEnd_51 ⟨Nat.le_of_ble_eq_true rfl, Nat.le_of_ble_eq_true rfl⟩) hS (fun H locs hP hS => ?_)
        refine lv_aload_n hx hb d_MO_readEnd_54 rfl (lv_at hl 1 rfl) ?_
        refine lv_bipush (v := (46 : Int32)) hx hb d_MO_readEnd_55 (by decide) ?_
        obtain ⟨q8, e7, h⟩ := xb h
        refine mc_v (va_runV (As := [.int (46 : Int32)]) (rest := []) ⟨hx, hb, hml, hown, hts⟩ (c_MO_sign l D lay cA q6 (46 : Int32) q8 e7) (cwV 1 hts (xT_V wd_902 wd_904 wp_34 wd_7 wd_905) rfl rfl rfl (by decide +kernel) ⟨Nat.le_of_ble_eq_true rfl, Nat.le_of_ble_eq_true rfl⟩) (mpV E hP hS (by decide) (mc_0 _ _ _ _) rfl) rfl rfl hl.1 rfl (lv_room (Nat.le_of_ble_eq_true rfl)) d_MO_readEnd_57 ⟨Nat.le_of_ble_eq_true rfl, Nat.le_of_ble_eq_true rfl⟩) hS (fun H locs hP hS => ?_)
        refine lv_aload_n hx hb d_MO_readEnd_60 rfl (lv_at hl 1 rfl) ?_
        obtain ⟨q10, e9, h⟩ := xb h
        refine mc_i (va_runV (As := []) (rest := []) ⟨hx, hb, hml, hown, hts⟩ (c_MO_good l D lay cA q8 q10 e9) (cwV 0 hts (xT_V wd_882 wd_884 wp_29 wd_7 wd_885) rfl rfl rfl (by decide +kernel) ⟨Nat.le_of_ble_eq_true rfl, Nat.le_of_ble_eq_true rfl⟩) (mpV E hP hS (by decide) (mc_0 _ _ _ _) rfl) rfl rfl hl.1 rfl (lv_room (Nat.le_of_ble_eq_true rfl)) d_MO_readEnd_61 ⟨Nat.le_of_ble_eq_true rfl, Nat.le_of_ble_eq_true rfl⟩) hS (fun H locs hP hS => ?_)
        refine lv_if_eq (tgt := 80) hx hb d_MO_readEnd_64 (by decide) (fun c_14 => ?_) (fun c_14 => ?_)
        · have h := xif_t c_14 h
          exact k_MO_readEnd_80 l C E q8 a1 a2 q4 _ h H locs ls hP hS (lv_sub hl [1, 2, 3, 0] rfl)
        · have h := xif_f c_14 h
          refine lv_aload_n hx hb d_MO_readEnd_67 rfl (lv_at hl 1 rfl) ?_
          refine va_get (v := .int (xgi q8 0 8)) (C := R_MO) (T := F_MO) (N := 41) hx hb hts i_MO hown hK hP 0 (mw_at (by decide) (mc_0 _ _ _ _)) rfl 8 (by decide) (hts _ wd_708) (fun _ h9 => h9) rfl d_MO_readEnd_68 ?_
          refine lv_iconst (v := (1 : Int32)) hx hb d_MO_readEnd_71 (by decide) ?_
          refine lv_icmp_eq (tgt := 80) hx hb d_MO_readEnd_72 (by decide) (fun c_13 => ?_) (fun c_13 => ?_)
          · have h := xif_t c_13 h
            exact k_MO_readEnd_80 l C E q8 a1 a2 q4 _ h H locs ls hP hS (lv_sub hl [1, 2, 3, 0] rfl)
          · have h := xif_f c_13 h
            refine lv_aload_n hx hb d_MO_readEnd_75 rfl (lv_at hl 1 rfl) ?_
            refine lv_iconst (v := (1 : Int32)) hx hb d_MO_readEnd_76 (by decide) ?_
            obtain ⟨q12, e11, h⟩ := xb h
            refine mc_v (va_runV (As := [.int (1 : Int32)]) (rest := []) ⟨hx, hb, hml, hown, hts⟩ (c_MO_bad l D lay cA q8 (1 : Int32) q12 e11) (cwV 1 hts (xT_V wd_886 wd_888 wp_30 wd_7 wd_889) rfl rfl rfl (by decide +kernel) ⟨Nat.le_of_ble_eq_true rfl, Nat.le_of_ble_eq_true rfl⟩) (mpV E hP hS (by decide) (mc_0 _ _ _ _) rfl) rfl rfl hl.1 rfl (lv_room (Nat.le_of_ble_eq_true rfl)) d_MO_readEnd_77 ⟨Nat.le_of_ble_eq_true rfl, Nat.le_of_ble_eq_true rfl⟩) hS (fun H locs hP hS => ?_)
            exact k_MO_readEnd_80 l C E q12 a1 a2 q4 _ h H locs ls hP hS (lv_sub hl [1, 2, 3, 0] rfl)
      · have h := xif_t c_17 h
        refine lv_aload_n hx hb d_MO_readEnd_38 rfl (lv_at hl 1 rfl) ?_
        refine lv_bipush (v := (6 : Int32)) hx hb d_MO_readEnd_39 (by decide) ?_
        refine lv_aload_n hx hb d_MO_readEnd_41 rfl (lv_at hl 1 rfl) ?_
        refine va_get (v := .int (xgi S 0 6)) (C := R_MO) (T := F_MO) (N := 41) hx hb hts i_MO hown hK hP 0 (mw_at (by decide) (mc_0 _ _ _ _)) rfl 6 (by decide) (hts _ wd_706) (fun _ h9 => h9) rfl d_MO_readEnd_42 ?_
        obtain ⟨q16, e15, h⟩ := xb h
        refine mc_v (va_runV (As := [.int (6 : Int32), .int (xgi S 0 6)]) (rest := []) ⟨hx, hb, hml, hown, hts⟩ (c_MO_fail l D lay cA S (6 : Int32) (xgi S 0 6) q16 e15) (cwV 2 hts (xT_V wd_890 wd_892 wp_31 wd_7 wd_893) rfl rfl rfl (by decide +kernel) ⟨Nat.le_of_ble_eq_true rfl, Nat.le_of_ble_eq_true rfl⟩) (mpV E hP hS (by decide) (mc_0 _ _ _ _) rfl) rfl rfl hl.1 rfl (lv_room (Nat.le_of_ble_eq_true rfl)) d_MO_readEnd_45 ⟨Nat.le_of_ble_eq_true rfl, Nat.le_of_ble_eq_true rfl⟩) hS (fun H locs hP hS => ?_)
        refine lv_iconst (v := (-1 : Int32)) hx hb d_MO_readEnd_48 (by decide) ?_
        have h9 := Option.some.inj h
        subst h9
        exact W.iret (v := (-1 : Int32)) hx hb hr (fun t ht hW => ⟨⟨(-1 : Int32), (), rfl, rfl, by show va_P D xcl _ t.heap; rw [ht]; exact hP⟩, hS.F ht⟩) hS.2.2 d_MO_readEnd_49
    · have h := xif_f c_20 h
      refine lv_aload_n hx hb d_MO_readEnd_17 rfl (lv_at hl 0 rfl) ?_
      refine lv_iconst (v := (1 : Int32)) hx hb d_MO_readEnd_18 (by decide) ?_
      obtain ⟨q19, e18, h⟩ := xb h
      refine mc_v (va_runV (As := [.int (1 : Int32)]) (rest := []) ⟨hx, hb, hml, hown, hts⟩ (c_MO_bad l D lay cA S (1 : Int32) q19 e18) (cwV 1 hts (xT_V wd_886 wd_888 wp_30 wd_7 wd_889) rfl rfl rfl (by decide +kernel) ⟨Nat.le_of_ble_eq_true rfl, Nat.le_of_ble_eq_true rfl⟩) (mpV E hP hS (by decide) (mc_0 _ _ _ _) rfl) rfl rfl hl.1 rfl (lv_room (Nat.le_of_ble_eq_true rfl)) d_MO_readEnd_19 ⟨Nat.le_of_ble_eq_true rfl, Nat.le_of_ble_eq_true rfl⟩) hS (fun H locs hP hS => ?_)
      refine lv_iconst (v := (-1 : Int32)) hx hb d_MO_readEnd_22 (by decide) ?_
      have h9 := Option.some.inj h
      subst h9
      exact W.iret (v := (-1 : Int32)) hx hb hr (fun t ht hW => ⟨⟨(-1 : Int32), (), rfl, rfl, by show va_P D xcl _ t.heap; rw [ht]; exact hP⟩, hS.F ht⟩) hS.2.2 d_MO_readEnd_23
  · have h := xif_t c_21 h
    refine lv_iconst (v := (-1 : Int32)) hx hb d_MO_readEnd_7 (by decide) ?_
    have h9 := Option.some.inj h
    subst h9
    exact W.iret (v := (-1 : Int32)) hx hb hr (fun t ht hW => ⟨⟨(-1 : Int32), (), rfl, rfl, by show va_P D xcl _ t.heap; rw [ht]; exact hP⟩, hS.F ht⟩) hS.2.2 d_MO_readEnd_8
theorem c_MO_readEnd (l : Launch) (D : va_G) (lay : Nat → Nat) (cA : Nat → ClassId) (S : XS) (a1 : Int32) (a2 : Int32) (r : Int32 × XS) (h : f_MO_readEnd S a1 a2 = some r) : Met l y_MO_readEnd (.code y_MO_readEnd b_MO_readEnd 5 ((Option.some Jvm.ClassFile.FieldType.int)) :: xT) rm_MO_readEnd (mPc D lay cA S [.ref (lay 0), .int a1, .int a2]) (mqi D lay cA r.1 r.2) 0 0 (mI lay) := by
  refine Met.ofW (cc := b_MO_readEnd) (maxL := 5) (ret := (Option.some Jvm.ClassFile.FieldType.int)) (by decide +kernel) rfl ?_
  intro p e s m args below meth c s₁ B hml hv
  obtain ⟨rfl, hP, E⟩ := hv
  have C := xB_of B hml
  have hl := lv_entry ([.ref (lay 0), .int a1, .int a2]) (n := 5) (Nat.le_of_ble_eq_true rfl)
  rw [lg_entry_eq]
  generalize (lg_sl ([.ref (lay 0), .int a1, .int a2]) ++ List.replicate (5 - (lg_sl ([.ref (lay 0), .int a1, .int a2])).length) Slot.unset).toArray = ls at hl ⊢
  exact k_MO_readEnd l C E S a1 a2 r h s.heap [] ls hP va_S.rf hl
/-! ConfigTextsModel.readChannel()V -/
def rm_MO_readChannel : Room := { frames := 5, cells := 0, slots := 0, locals := 110 }
theorem d_MO_readChannel_0 : decode b_MO_readChannel 0 = .ok (.aload_n 0, 1) := by decide +kernel
theorem d_MO_readChannel_1 : decode b_MO_readChannel 1 = .ok (.getfield 300, 3) := by decide +kernel
theorem d_MO_readChannel_4 : decode b_MO_readChannel 4 = .ok (.bipush 16, 2) := by decide +kernel
theorem d_MO_readChannel_6 : decode b_MO_readChannel 6 = .ok (.if_icmp .ne 13, 3) := by decide +kernel
theorem d_MO_readChannel_9 : decode b_MO_readChannel 9 = .ok (.aload_n 0, 1) := by decide +kernel
theorem d_MO_readChannel_10 : decode b_MO_readChannel 10 = .ok (.iconst 4, 1) := by decide +kernel
theorem d_MO_readChannel_11 : decode b_MO_readChannel 11 = .ok (.aload_n 0, 1) := by decide +kernel
theorem d_MO_readChannel_12 : decode b_MO_readChannel 12 = .ok (.getfield 185, 3) := by decide +kernel
theorem d_MO_readChannel_15 : decode b_MO_readChannel 15 = .ok (.invokevirtual 210, 3) := by decide +kernel
theorem d_MO_readChannel_18 : decode b_MO_readChannel 18 = .ok (.return_, 1) := by decide +kernel
theorem d_MO_readChannel_19 : decode b_MO_readChannel 19 = .ok (.aload_n 0, 1) := by decide +kernel
theorem d_MO_readChannel_20 : decode b_MO_readChannel 20 = .ok (.invokevirtual 225, 3) := by decide +kernel
theorem d_MO_readChannel_23 : decode b_MO_readChannel 23 = .ok (.aload_n 0, 1) := by decide +kernel
theorem d_MO_readChannel_24 : decode b_MO_readChannel 24 = .ok (.getfield 300, 3) := by decide +kernel
theorem d_MO_readChannel_27 : decode b_MO_readChannel 27 = .ok (.istore_n 1, 1) := by decide +kernel
theorem d_MO_readChannel_28 : decode b_MO_readChannel 28 = .ok (.aload_n 0, 1) := by decide +kernel
theorem d_MO_readChannel_29 : decode b_MO_readChannel 29 = .ok (.getfield 137, 3) := by decide +kernel
theorem d_MO_readChannel_32 : decode b_MO_readChannel 32 = .ok (.iload_n 1, 1) := by decide +kernel
theorem d_MO_readChannel_33 : decode b_MO_readChannel 33 = .ok (.aload_n 0, 1) := by decide +kernel
theorem d_MO_readChannel_34 : decode b_MO_readChannel 34 = .ok (.bipush 19, 2) := by decide +kernel
theorem d_MO_readChannel_36 : decode b_MO_readChannel 36 = .ok (.invokevirtual 260, 3) := by decide +kernel
theorem d_MO_readChannel_39 : decode b_MO_readChannel 39 = .ok (.ifCond .eq 7, 3) := by decide +kernel
theorem d_MO_readChannel_42 : decode b_MO_readChannel 42 = .ok (.iconst 1, 1) := by decide +kernel
theorem d_MO_readChannel_43 : decode b_MO_readChannel 43 = .ok (.goto 4, 3) := by decide +kernel
theorem d_MO_readChannel_46 : decode b_MO_readChannel 46 = .ok (.iconst 0, 1) := by decide +kernel
theorem d_MO_readChannel_47 : decode b_MO_readChannel 47 = .ok (.iastore, 1) := by decide +kernel
theorem d_MO_readChannel_48 : decode b_MO_readChannel 48 = .ok (.aload_n 0, 1) := by decide +kernel
theorem d_MO_readChannel_49 : decode b_MO_readChannel 49 = .ok (.getfield 137, 3) := by decide +kernel
theorem d_MO_readChannel_52 : decode b_MO_readChannel 52 = .ok (.iload_n 1, 1) := by decide +kernel
theorem d_MO_readChannel_53 : decode b_MO_readChannel 53 = .ok (.iaload, 1) := by decide +kernel
theorem d_MO_readChannel_54 : decode b_MO_readChannel 54 = .ok (.ifCond .ne 9, 3) := by decide +kernel
theorem d_MO_readChannel_57 : decode b_MO_readChannel 57 = .ok (.aload_n 0, 1) := by decide +kernel
theorem d_MO_readChannel_58 : decode b_MO_readChannel 58 = .ok (.bipush 18, 2) := by decide +kernel
theorem d_MO_readChannel_60 : decode b_MO_readChannel 60 = .ok (.invokevirtual 231, 3) := by decide +kernel
theorem d_MO_readChannel_63 : decode b_MO_readChannel 63 = .ok (.aload_n 0, 1) := by decide +kernel
theorem d_MO_readChannel_64 : decode b_MO_readChannel 64 = .ok (.getfield 140, 3) := by decide +kernel
theorem d_MO_readChannel_67 : decode b_MO_readChannel 67 = .ok (.iload_n 1, 1) := by decide +kernel
theorem d_MO_readChannel_68 : decode b_MO_readChannel 68 = .ok (.aload_n 0, 1) := by decide +kernel
theorem d_MO_readChannel_69 : decode b_MO_readChannel 69 = .ok (.getfield 137, 3) := by decide +kernel
theorem d_MO_readChannel_72 : decode b_MO_readChannel 72 = .ok (.iload_n 1, 1) := by decide +kernel
theorem d_MO_readChannel_73 : decode b_MO_readChannel 73 = .ok (.iaload, 1) := by decide +kernel
theorem d_MO_readChannel_74 : decode b_MO_readChannel 74 = .ok (.iconst 1, 1) := by decide +kernel
theorem d_MO_readChannel_75 : decode b_MO_readChannel 75 = .ok (.if_icmp .ne 14, 3) := by decide +kernel
theorem d_MO_readChannel_78 : decode b_MO_readChannel 78 = .ok (.aload_n 0, 1) := by decide +kernel
theorem d_MO_readChannel_79 : decode b_MO_readChannel 79 = .ok (.iconst 1, 1) := by decide +kernel
theorem d_MO_readChannel_80 : decode b_MO_readChannel 80 = .ok (.bipush 8, 2) := by decide +kernel
theorem d_MO_readChannel_82 : decode b_MO_readChannel 82 = .ok (.iconst 1, 1) := by decide +kernel
theorem d_MO_readChannel_83 : decode b_MO_readChannel 83 = .ok (.invokevirtual 234, 3) := by decide +kernel
theorem d_MO_readChannel_86 : decode b_MO_readChannel 86 = .ok (.goto 12, 3) := by decide +kernel
theorem d_MO_readChannel_89 : decode b_MO_readChannel 89 = .ok (.aload_n 0, 1) := by decide +kernel
theorem d_MO_readChannel_90 : decode b_MO_readChannel 90 = .ok (.iconst 0, 1) := by decide +kernel
theorem d_MO_readChannel_91 : decode b_MO_readChannel 91 = .ok (.ldc_w 259, 3) := by decide +kernel
theorem d_MO_readChannel_94 : decode b_MO_readChannel 94 = .ok (.iconst 1, 1) := by decide +kernel
theorem d_MO_readChannel_95 : decode b_MO_readChannel 95 = .ok (.invokevirtual 234, 3) := by decide +kernel
theorem d_MO_readChannel_98 : decode b_MO_readChannel 98 = .ok (.iastore, 1) := by decide +kernel
theorem d_MO_readChannel_99 : decode b_MO_readChannel 99 = .ok (.aload_n 0, 1) := by decide +kernel
theorem d_MO_readChannel_100 : decode b_MO_readChannel 100 = .ok (.bipush 123, 2) := by decide +kernel
theorem d_MO_readChannel_102 : decode b_MO_readChannel 102 = .ok (.invokevirtual 238, 3) := by decide +kernel
theorem d_MO_readChannel_105 : decode b_MO_readChannel 105 = .ok (.aload_n 0, 1) := by decide +kernel
theorem d_MO_readChannel_106 : decode b_MO_readChannel 106 = .ok (.bipush 20, 2) := by decide +kernel
theorem d_MO_readChannel_108 : decode b_MO_readChannel 108 = .ok (.invokevirtual 260, 3) := by decide +kernel
theorem d_MO_readChannel_111 : decode b_MO_readChannel 111 = .ok (.istore_n 2, 1) := by decide +kernel
theorem d_MO_readChannel_112 : decode b_MO_readChannel 112 = .ok (.aload_n 0, 1) := by decide +kernel
theorem d_MO_readChannel_113 : decode b_MO_readChannel 113 = .ok (.getfield 143, 3) := by decide +kernel
theorem d_MO_readChannel_116 : decode b_MO_readChannel 116 = .ok (.iload_n 1, 1) := by decide +kernel
theorem d_MO_readChannel_117 : decode b_MO_readChannel 117 = .ok (.iload_n 2, 1) := by decide +kernel
theorem d_MO_readChannel_118 : decode b_MO_readChannel 118 = .ok (.ifCond .eq 7, 3) := by decide +kernel
theorem d_MO_readChannel_121 : decode b_MO_readChannel 121 = .ok (.iconst (-1), 1) := by decide +kernel
theorem d_MO_readChannel_122 : decode b_MO_readChannel 122 = .ok (.goto 14, 3) := by decide +kernel
theorem d_MO_readChannel_125 : decode b_MO_readChannel 125 = .ok (.aload_n 0, 1) := by decide +kernel
theorem d_MO_readChannel_126 : decode b_MO_readChannel 126 = .ok (.iconst 1, 1) := by decide +kernel
theorem d_MO_readChannel_127 : decode b_MO_readChannel 127 = .ok (.aload_n 0, 1) := by decide +kernel
theorem d_MO_readChannel_128 : decode b_MO_readChannel 128 = .ok (.getfield 137, 3) := by decide +kernel
theorem d_MO_readChannel_131 : decode b_MO_readChannel 131 = .ok (.iload_n 1, 1) := by decide +kernel
theorem d_MO_readChannel_132 : decode b_MO_readChannel 132 = .ok (.iaload, 1) := by decide +kernel
theorem d_MO_readChannel_133 : decode b_MO_readChannel 133 = .ok (.invokevirtual 303, 3) := by decide +kernel
theorem d_MO_readChannel_136 : decode b_MO_readChannel 136 = .ok (.iastore, 1) := by decide +kernel
theorem d_MO_readChannel_137 : decode b_MO_readChannel 137 = .ok (.aload_n 0, 1) := by decide +kernel
theorem d_MO_readChannel_138 : decode b_MO_readChannel 138 = .ok (.bipush 62, 2) := by decide +kernel
theorem d_MO_readChannel_140 : decode b_MO_readChannel 140 = .ok (.invokevirtual 238, 3) := by decide +kernel
theorem d_MO_readChannel_143 : decode b_MO_readChannel 143 = .ok (.aload_n 0, 1) := by decide +kernel
theorem d_MO_readChannel_144 : decode b_MO_readChannel 144 = .ok (.getfield 146, 3) := by decide +kernel
theorem d_MO_readChannel_147 : decode b_MO_readChannel 147 = .ok (.iload_n 1, 1) := by decide +kernel
theorem d_MO_readChannel_148 : decode b_MO_readChannel 148 = .ok (.iconst 0, 1) := by decide +kernel
theorem d_MO_readChannel_149 : decode b_MO_readChannel 149 = .ok (.iastore, 1) := by decide +kernel
theorem d_MO_readChannel_150 : decode b_MO_readChannel 150 = .ok (.iconst 0, 1) := by decide +kernel
theorem d_MO_readChannel_151 : decode b_MO_readChannel 151 = .ok (.istore_n 3, 1) := by decide +kernel
theorem d_MO_readChannel_152 : decode b_MO_readChannel 152 = .ok (.aload_n 0, 1) := by decide +kernel
theorem d_MO_readChannel_153 : decode b_MO_readChannel 153 = .ok (.invokevirtual 214, 3) := by decide +kernel
theorem d_MO_readChannel_156 : decode b_MO_readChannel 156 = .ok (.istore 4, 2) := by decide +kernel
theorem d_MO_readChannel_158 : decode b_MO_readChannel 158 = .ok (.iload 4, 2) := by decide +kernel
theorem d_MO_readChannel_160 : decode b_MO_readChannel 160 = .ok (.ifCond .eq 126, 3) := by decide +kernel
theorem d_MO_readChannel_163 : decode b_MO_readChannel 163 = .ok (.aload_n 0, 1) := by decide +kernel
theorem d_MO_readChannel_164 : decode b_MO_readChannel 164 = .ok (.bipush 21, 2) := by decide +kernel
theorem d_MO_readChannel_166 : decode b_MO_readChannel 166 = .ok (.invokevirtual 260, 3) := by decide +kernel
theorem d_MO_readChannel_169 : decode b_MO_readChannel 169 = .ok (.istore 5, 2) := by decide +kernel
theorem d_MO_readChannel_171 : decode b_MO_readChannel 171 = .ok (.iload_n 3, 1) := by decide +kernel
theorem d_MO_readChannel_172 : decode b_MO_readChannel 172 = .ok (.ifCond .ne 8, 3) := by decide +kernel
theorem d_MO_readChannel_175 : decode b_MO_readChannel 175 = .ok (.iload 5, 2) := by decide +kernel
theorem d_MO_readChannel_177 : decode b_MO_readChannel 177 = .ok (.ifCond .eq 7, 3) := by decide +kernel
theorem d_MO_readChannel_180 : decode b_MO_readChannel 180 = .ok (.iconst 1, 1) := by decide +kernel
theorem d_MO_readChannel_181 : decode b_MO_readChannel 181 = .ok (.goto 4, 3) := by decide +kernel
theorem d_MO_readChannel_184 : decode b_MO_readChannel 184 = .ok (.iconst 0, 1) := by decide +kernel
theorem d_MO_readChannel_185 : decode b_MO_readChannel 185 = .ok (.istore_n 3, 1) := by decide +kernel
theorem d_MO_readChannel_186 : decode b_MO_readChannel 186 = .ok (.aload_n 0, 1) := by decide +kernel
theorem d_MO_readChannel_187 : decode b_MO_readChannel 187 = .ok (.getfield 149, 3) := by decide +kernel
theorem d_MO_readChannel_190 : decode b_MO_readChannel 190 = .ok (.iconst 4, 1) := by decide +kernel
theorem d_MO_readChannel_191 : decode b_MO_readChannel 191 = .ok (.iload_n 1, 1) := by decide +kernel
theorem d_MO_readChannel_192 : decode b_MO_readChannel 192 = .ok (.imul, 1) := by decide +kernel
theorem d_MO_readChannel_193 : decode b_MO_readChannel 193 = .ok (.aload_n 0, 1) := by decide +kernel
theorem d_MO_readChannel_194 : decode b_MO_readChannel 194 = .ok (.getfield 146, 3) := by decide +kernel
theorem d_MO_readChannel_197 : decode b_MO_readChannel 197 = .ok (.iload_n 1, 1) := by decide +kernel
theorem d_MO_readChannel_198 : decode b_MO_readChannel 198 = .ok (.iaload, 1) := by decide +kernel
theorem d_MO_readChannel_199 : decode b_MO_readChannel 199 = .ok (.iadd, 1) := by decide +kernel
theorem d_MO_readChannel_200 : decode b_MO_readChannel 200 = .ok (.iload 5, 2) := by decide +kernel
theorem d_MO_readChannel_202 : decode b_MO_readChannel 202 = .ok (.ifCond .eq 7, 3) := by decide +kernel
theorem d_MO_readChannel_205 : decode b_MO_readChannel 205 = .ok (.iconst (-1), 1) := by decide +kernel
theorem d_MO_readChannel_206 : decode b_MO_readChannel 206 = .ok (.goto 14, 3) := by decide +kernel
theorem d_MO_readChannel_209 : decode b_MO_readChannel 209 = .ok (.aload_n 0, 1) := by decide +kernel
theorem d_MO_readChannel_210 : decode b_MO_readChannel 210 = .ok (.iconst 0, 1) := by decide +kernel
theorem d_MO_readChannel_211 : decode b_MO_readChannel 211 = .ok (.aload_n 0, 1) := by decide +kernel
theorem d_MO_readChannel_212 : decode b_MO_readChannel 212 = .ok (.getfield 137, 3) := by decide +kernel
theorem d_MO_readChannel_215 : decode b_MO_readChannel 215 = .ok (.iload_n 1, 1) := by decide +kernel
theorem d_MO_readChannel_216 : decode b_MO_readChannel 216 = .ok (.iaload, 1) := by decide +kernel
theorem d_MO_readChannel_217 : decode b_MO_readChannel 217 = .ok (.invokevirtual 303, 3) := by decide +kernel
theorem d_MO_readChannel_220 : decode b_MO_readChannel 220 = .ok (.iastore, 1) := by decide +kernel
theorem d_MO_readChannel_221 : decode b_MO_readChannel 221 = .ok (.aload_n 0, 1) := by decide +kernel
theorem d_MO_readChannel_222 : decode b_MO_readChannel 222 = .ok (.getfield 146, 3) := by decide +kernel
theorem d_MO_readChannel_225 : decode b_MO_readChannel 225 = .ok (.iload_n 1, 1) := by decide +kernel
theorem d_MO_readChannel_226 : decode b_MO_readChannel 226 = .ok (.dup2, 1) := by decide +kernel
theorem d_MO_readChannel_227 : decode b_MO_readChannel 227 = .ok (.iaload, 1) := by decide +kernel
theorem d_MO_readChannel_228 : decode b_MO_readChannel 228 = .ok (.iconst 1, 1) := by decide +kernel
theorem d_MO_readChannel_229 : decode b_MO_readChannel 229 = .ok (.iadd, 1) := by decide +kernel
theorem d_MO_readChannel_230 : decode b_MO_readChannel 230 = .ok (.iastore, 1) := by decide +kernel
theorem d_MO_readChannel_231 : decode b_MO_readChannel 231 = .ok (.aload_n 0, 1) := by decide +kernel
theorem d_MO_readChannel_232 : decode b_MO_readChannel 232 = .ok (.getfield 137, 3) := by decide +kernel
theorem d_MO_readChannel_235 : decode b_MO_readChannel 235 = .ok (.iload_n 1, 1) := by decide +kernel
theorem d_MO_readChannel_236 : decode b_MO_readChannel 236 = .ok (.iaload, 1) := by decide +kernel
theorem d_MO_readChannel_237 : decode b_MO_readChannel 237 = .ok (.ifCond .ne 16, 3) := by decide +kernel
theorem d_MO_readChannel_240 : decode b_MO_readChannel 240 = .ok (.aload_n 0, 1) := by decide +kernel
theorem d_MO_readChannel_241 : decode b_MO_readChannel 241 = .ok (.bipush 44, 2) := by decide +kernel
theorem d_MO_readChannel_243 : decode b_MO_readChannel 243 = .ok (.invokevirtual 218, 3) := by decide +kernel
theorem d_MO_readChannel_246 : decode b_MO_readChannel 246 = .ok (.ifCond .eq 7, 3) := by decide +kernel
theorem d_MO_readChannel_249 : decode b_MO_readChannel 249 = .ok (.iconst 1, 1) := by decide +kernel
theorem d_MO_readChannel_250 : decode b_MO_readChannel 250 = .ok (.goto 4, 3) := by decide +kernel
theorem d_MO_readChannel_253 : decode b_MO_readChannel 253 = .ok (.iconst 0, 1) := by decide +kernel
theorem d_MO_readChannel_254 : decode b_MO_readChannel 254 = .ok (.istore 4, 2) := by decide +kernel
theorem d_MO_readChannel_256 : decode b_MO_readChannel 256 = .ok (.iload 4, 2) := by decide +kernel
theorem d_MO_readChannel_258 : decode b_MO_readChannel 258 = .ok (.ifCond .eq 25, 3) := by decide +kernel
theorem d_MO_readChannel_261 : decode b_MO_readChannel 261 = .ok (.aload_n 0, 1) := by decide +kernel
theorem d_MO_readChannel_262 : decode b_MO_readChannel 262 = .ok (.invokevirtual 225, 3) := by decide +kernel
theorem d_MO_readChannel_265 : decode b_MO_readChannel 265 = .ok (.aload_n 0, 1) := by decide +kernel
theorem d_MO_readChannel_266 : decode b_MO_readChannel 266 = .ok (.getfield 146, 3) := by decide +kernel
theorem d_MO_readChannel_269 : decode b_MO_readChannel 269 = .ok (.iload_n 1, 1) := by decide +kernel
theorem d_MO_readChannel_270 : decode b_MO_readChannel 270 = .ok (.iaload, 1) := by decide +kernel
theorem d_MO_readChannel_271 : decode b_MO_readChannel 271 = .ok (.iconst 4, 1) := by decide +kernel
theorem d_MO_readChannel_272 : decode b_MO_readChannel 272 = .ok (.if_icmp .ne 11, 3) := by decide +kernel
theorem d_MO_readChannel_275 : decode b_MO_readChannel 275 = .ok (.aload_n 0, 1) := by decide +kernel
theorem d_MO_readChannel_276 : decode b_MO_readChannel 276 = .ok (.iconst 4, 1) := by decide +kernel
theorem d_MO_readChannel_277 : decode b_MO_readChannel 277 = .ok (.invokevirtual 221, 3) := by decide +kernel
theorem d_MO_readChannel_280 : decode b_MO_readChannel 280 = .ok (.iconst 0, 1) := by decide +kernel
theorem d_MO_readChannel_281 : decode b_MO_readChannel 281 = .ok (.istore 4, 2) := by decide +kernel
theorem d_MO_readChannel_283 : decode b_MO_readChannel 283 = .ok (.goto (-125), 3) := by decide +kernel
theorem d_MO_readChannel_286 : decode b_MO_readChannel 286 = .ok (.aload_n 0, 1) := by decide +kernel
theorem d_MO_readChannel_287 : decode b_MO_readChannel 287 = .ok (.bipush 125, 2) := by decide +kernel
theorem d_MO_readChannel_289 : decode b_MO_readChannel 289 = .ok (.invokevirtual 238, 3) := by decide +kernel
theorem d_MO_readChannel_292 : decode b_MO_readChannel 292 = .ok (.aload_n 0, 1) := by decide +kernel
theorem d_MO_readChannel_293 : decode b_MO_readChannel 293 = .ok (.dup, 1) := by decide +kernel
theorem d_MO_readChannel_294 : decode b_MO_readChannel 294 = .ok (.getfield 306, 3) := by decide +kernel
theorem d_MO_readChannel_297 : decode b_MO_readChannel 297 = .ok (.iload_n 2, 1) := by decide +kernel
theorem d_MO_readChannel_298 : decode b_MO_readChannel 298 = .ok (.ifCond .eq 7, 3) := by decide +kernel
theorem d_MO_readChannel_301 : decode b_MO_readChannel 301 = .ok (.iconst 1, 1) := by decide +kernel
theorem d_MO_readChannel_302 : decode b_MO_readChannel 302 = .ok (.goto 4, 3) := by decide +kernel
theorem d_MO_readChannel_305 : decode b_MO_readChannel 305 = .ok (.iconst 0, 1) := by decide +kernel
theorem d_MO_readChannel_306 : decode b_MO_readChannel 306 = .ok (.iadd, 1) := by decide +kernel
theorem d_MO_readChannel_307 : decode b_MO_readChannel 307 = .ok (.putfield 306, 3) := by decide +kernel
theorem d_MO_readChannel_310 : decode b_MO_readChannel 310 = .ok (.aload_n 0, 1) := by decide +kernel
theorem d_MO_readChannel_311 : decode b_MO_readChannel 311 = .ok (.dup, 1) := by decide +kernel
theorem d_MO_readChannel_312 : decode b_MO_readChannel 312 = .ok (.getfield 309, 3) := by decide +kernel
theorem d_MO_readChannel_315 : decode b_MO_readChannel 315 = .ok (.iload_n 3, 1) := by decide +kernel
theorem d_MO_readChannel_316 : decode b_MO_readChannel 316 = .ok (.ifCond .eq 7, 3) := by decide +kernel
theorem d_MO_readChannel_319 : decode b_MO_readChannel 319 = .ok (.iconst 1, 1) := by decide +kernel
theorem d_MO_readChannel_320 : decode b_MO_readChannel 320 = .ok (.goto 4, 3) := by decide +kernel
theorem d_MO_readChannel_323 : decode b_MO_readChannel 323 = .ok (.iconst 0, 1) := by decide +kernel
theorem d_MO_readChannel_324 : decode b_MO_readChannel 324 = .ok (.iadd, 1) := by decide +kernel
theorem d_MO_readChannel_325 : decode b_MO_readChannel 325 = .ok (.putfield 309, 3) := by decide +kernel
theorem d_MO_readChannel_328 : decode b_MO_readChannel 328 = .ok (.aload_n 0, 1) := by decide +kernel
theorem d_MO_readChannel_329 : decode b_MO_readChannel 329 = .ok (.dup, 1) := by decide +kernel
theorem d_MO_readChannel_330 : decode b_MO_readChannel 330 = .ok (.getfield 300, 3) := by decide +kernel
theorem d_MO_readChannel_333 : decode b_MO_readChannel 333 = .ok (.iconst 1, 1) := by decide +kernel
theorem d_MO_readChannel_334 : decode b_MO_readChannel 334 = .ok (.iadd, 1) := by decide +kernel
theorem d_MO_readChannel_335 : decode b_MO_readChannel 335 = .ok (.putfield 300, 3) := by decide +kernel
theorem d_MO_readChannel_338 : decode b_MO_readChannel 338 = .ok (.return_, 1) := by decide +kernel
def f_MO_readChannel_324 (S : XS) (t0 : Int32) (t1 : Int32) : Option (XS) :=
  some (xpi (xpi S 0 33 (t1 + t0)) 0 29 ((xgi (xpi S 0 33 (t1 + t0)) 0 29) + (1 : Int32)))
set_option maxHeartbeats 4000000 in
set_option maxRecDepth 100000 in
theorem k_MO_readChannel_324 (l : Launch) {p : Program} {e : Env} {s : State} {m : MethodId} {args : Array Value} {below : List Frame} {meth : Method} {c : Code} {D : va_G} {lay : Nat → Nat} {cA : Nat → ClassId} (C : xB p s m args meth c R_MO b_MO_readChannel ((Option.none : Option Jvm.ClassFile.FieldType)) 6) (E : mE D lay cA s s.heap) : ∀ (S : XS) (t0 : Int32) (t1 : Int32) (r : XS) (_ : f_MO_readChannel_324 S t0 t1 = some r) (H : Heap) (locs : List Loc) (ls : Array Slot), va_P D xcl (mw lay cA S) H → va_S (mI lay) s.heap H locs → lv_has ls 6 [(0, .ref (lay 0))] → W p l e rm_MO_readChannel s m args below meth c H locs 0 0 (MQ below (mqv D lay cA r) args s 0 0 (mI lay)) (F0 m 324 ls [.int t0, .int t1, .ref (lay 0)]) := by
  obtain ⟨hx, hb, hr, hml, hown, hts, hlk, hnh⟩ := id C
  have hK := E.K
  intro S t0 t1 r h H locs ls hP hS hl
  unfold f_MO_readChannel_324 at h
  refine lv_iadd hx hb d_MO_readChannel_324 ?_
  refine mput_33 hx hb hts hown E hP hS (hts _ wd_733) d_MO_readChannel_325 (fun H locs hP hS => ?_)
  refine lv_aload_n hx hb d_MO_readChannel_328 rfl (lv_at hl 0 rfl) ?_
  refine lv_dup hx hb d_MO_readChannel_329 rfl ?_
  refine va_get (v := .int (xgi (xpi S 0 33 (t1 + t0)) 0 29)) (C := R_MO) (T := F_MO) (N := 41) hx hb hts i_MO hown hK hP 0 (mw_at (by decide) (mc_0 _ _ _ _)) rfl 29 (by decide) (hts _ wd_729) (fun _ h9 => h9) rfl d_MO_readChannel_330 ?_
  refine lv_iconst (v := (1 : Int32)) hx hb d_MO_readChannel_333 (by decide) ?_
  refine lv_iadd hx hb d_MO_readChannel_334 ?_
  refine mput_29 hx hb hts hown E hP hS (hts _ wd_729) d_MO_readChannel_335 (fun H locs hP hS => ?_)
  have h9 := Option.some.inj h
  subst h9
  exact W.vret hx hb hr (fun t ht hW => ⟨⟨(), rfl, trivial, by show va_P D xcl _ t.heap; rw [ht]; exact hP⟩, hS.F ht⟩) hS.2.2 d_MO_readChannel_338
def f_MO_readChannel_306 (S : XS) (a3 : Int32) (t0 : Int32) (t1 : Int32) : Option (XS) :=
  if a3 = 0 then (f_MO_readChannel_324 (xpi S 0 32 (t1 + t0)) (0 : Int32) (xgi (xpi S 0 32 (t1 + t0)) 0 33)) else (f_MO_readChannel_324 (xpi S 0 32 (t1 + t0)) (1 : Int32) (xgi (xpi S 0 32 (t1 + t0)) 0 33))
set_option maxHeartbeats 4000000 in
set_option maxRecDepth 100000 in
theorem k_MO_readChannel_306 (l : Launch) {p : Program} {e : Env} {s : State} {m : MethodId} {args : Array Value} {below : List Frame} {meth : Method} {c : Code} {D : va_G} {lay : Nat → Nat} {cA : Nat → ClassId} (C : xB p s m args meth c R_MO b_MO_readChannel ((Option.none : Option Jvm.ClassFile.FieldType)) 6) (E : mE D lay cA s s.heap) : ∀ (S : XS) (a3 : Int32) (t0 : Int32) (t1 : Int32) (r : XS) (_ : f_MO_readChannel_306 S a3 t0 t1 = some r) (H : Heap) (locs : List Loc) (ls : Array Slot), va_P D xcl (mw lay cA S) H → va_S (mI lay) s.heap H locs → lv_has ls 6 [(0, .ref (lay 0)), (3, .int a3)] → W p l e rm_MO_readChannel s m args below meth c H locs 0 0 (MQ below (mqv D lay cA r) args s 0 0 (mI lay)) (F0 m 306 ls [.int t0, .int t1, .ref (lay 0)]) := by
  obtain ⟨hx, hb, hr, hml, hown, hts, hlk, hnh⟩ := id C
  have hK := E.K
  intro S a3 t0 t1 r h H locs ls hP hS hl
  unfold f_MO_readChannel_306 at h
  refine lv_iadd hx hb d_MO_readChannel_306 ?_
  refine mput_32 hx hb hts hown E hP hS (hts _ wd_732) d_MO_readChannel_307 (fun H locs hP hS => ?_)
  refine lv_aload_n hx hb d_MO_readChannel_310 rfl (lv_at hl 0 rfl) ?_
  refine lv_dup hx hb d_MO_readChannel_311 rfl ?_
  refine va_get (v := .int (xgi (xpi S 0 32 (t1 + t0)) 0 33)) (C := R_MO) (T := F_MO) (N := 41) hx hb hts i_MO hown hK hP 0 (mw_at (by decide) (mc_0 _ _ _ _)) rfl 33 (by decide) (hts _ wd_733) (fun _ h9 => h9) rfl d_MO_readChannel_312 ?_
  refine lv_iload_n hx hb d_MO_readChannel_315 rfl (lv_at hl 1 rfl) ?_
  refine lv_if_eq (tgt := 323) hx hb d_MO_readChannel_316 (by decide) (fun c_232 => ?_) (fun c_232 => ?_)
  · have h := xif_t c_232 h
    refine lv_iconst (v := (0 : Int32)) hx hb d_MO_readChannel_323 (by decide) ?_
    exact k_MO_readChannel_324 l C E (xpi S 0 32 (t1 + t0)) (0 : Int32) (xgi (xpi S 0 32 (t1 + t0)) 0 33) _ h H locs ls hP hS (lv_sub hl [0] rfl)
  · have h := xif_f c_232 h
    refine lv_iconst (v := (1 : Int32)) hx hb d_MO_readChannel_319 (by decide) ?_
    refine lv_goto (tgt := 324) hx hb d_MO_readChannel_320 (by decide) ?_
    exact k_MO_readChannel_324 l C E (xpi S 0 32 (t1 + t0)) (1 : Int32) (xgi (xpi S 0 32 (t1 + t0)) 0 33) _ h H locs ls hP hS (lv_sub hl [0] rfl)
def f_MO_readChannel_158 : Nat → XS → Int32 → Int32 → Int32 → Int32 → Option (XS)
  | 0, _, _, _, _, _ => none
  | n + 1, S, a1, a2, a3, a4 =>
    if a4 = 0 then ((f_MO_sign S (125 : Int32)).bind fun q36 => if a2 = 0 then (f_MO_readChannel_306 q36 a3 (0 : Int32) (xgi q36 0 32)) else (f_MO_readChannel_306 q36 a3 (1 : Int32) (xgi q36 0 32))) else ((f_MO_accept S (21 : Int32)).bind fun q39 => if a3 = 0 then (if q39.1 = 0 then (if ¬ (a1 < 0 ∨ 16 ≤ a1.toNatClampNeg) then (if q39.1 = 0 then (if ¬ (a1 < 0 ∨ 16 ≤ a1.toNatClampNeg) then ((f_MO_readEnd q39.2 (0 : Int32) (xgi q39.2 18 a1.toNatClampNeg)).bind fun q106 => if ¬ ((((4 : Int32) * a1) + (xgi q39.2 21 a1.toNatClampNeg)) < 0 ∨ 64 ≤ (((4 : Int32) * a1) + (xgi q39.2 21 a1.toNatClampNeg)).toNatClampNeg) then (if ¬ (a1 < 0 ∨ 16 ≤ a1.toNatClampNeg) then (if ¬ (a1 < 0 ∨ 16 ≤ a1.toNatClampNeg) then (if ¬ (a1 < 0 ∨ 16 ≤ a1.toNatClampNeg) then (if (xgi (xpi (xpi q106.2 22 (((4 : Int32) * a1) + (xgi q39.2 21 a1.toNatClampNeg)).toNatClampNeg q106.1) 21 a1.toNatClampNeg ((xgi (xpi q106.2 22 (((4 : Int32) * a1) + (xgi q39.2 21 a1.toNatClampNeg)).toNatClampNeg q106.1) 21 a1.toNatClampNeg) + (1 : Int32))) 18 a1.toNatClampNeg) = 0 then ((f_MO_isSign (xpi (xpi q106.2 22 (((4 : Int32) * a1) + (xgi q39.2 21 a1.toNatClampNeg)).toNatClampNeg q106.1) 21 a1.toNatClampNeg ((xgi (xpi q106.2 22 (((4 : Int32) * a1) + (xgi q39.2 21 a1.toNatClampNeg)).toNatClampNeg q106.1) 21 a1.toNatClampNeg) + (1 : Int32))) (44 : Int32)).bind fun q119 => if q119 = 0 then (if (0 : Int32) = 0 then (f_MO_readChannel_158 n (xpi (xpi q106.2 22 (((4 : Int32) * a1) + (xgi q39.2 21 a1.toNatClampNeg)).toNatClampNeg q106.1) 21 a1.toNatClampNeg ((xgi (xpi q106.2 22 (((4 : Int32) * a1) + (xgi q39.2 21 a1.toNatClampNeg)).toNatClampNeg q106.1) 21 a1.toNatClampNeg) + (1 : Int32))) a1 a2 (0 : Int32) (0 : Int32)) else ((f_MO_next (xpi (xpi q106.2 22 (((4 : Int32) * a1) + (xgi q39.2 21 a1.toNatClampNeg)).toNatClampNeg q106.1) 21 a1.toNatClampNeg ((xgi (xpi q106.2 22 (((4 : Int32) * a1) + (xgi q39.2 21 a1.toNatClampNeg)).toNatClampNeg q106.1) 21 a1.toNatClampNeg) + (1 : Int32)))).bind fun q121 => if ¬ (a1 < 0 ∨ 16 ≤ a1.toNatClampNeg) then (if (xgi q121 21 a1.toNatClampNeg) = (4 : Int32) then ((f_MO_bad q121 (4 : Int32)).bind fun q124 => f_MO_readChannel_158 n q124 a1 a2 (0 : Int32) (0 : Int32)) else (f_MO_readChannel_158 n q121 a1 a2 (0 : Int32) (0 : Int32))) else none)) else (if (1 : Int32) = 0 then (f_MO_readChannel_158 n (xpi (xpi q106.2 22 (((4 : Int32) * a1) + (xgi q39.2 21 a1.toNatClampNeg)).toNatClampNeg q106.1) 21 a1.toNatClampNeg ((xgi (xpi q106.2 22 (((4 : Int32) * a1) + (xgi q39.2 21 a1.toNatClampNeg)).toNatClampNeg q106.1) 21 a1.toNatClampNeg) + (1 : Int32))) a1 a2 (0 : Int32) (1 : Int32)) else ((f_MO_next (xpi (xpi q106.2 22 (((4 : Int32) * a1) + (xgi q39.2 21 a1.toNatClampNeg)).toNatClampNeg q106.1) 21 a1.toNatClampNeg ((xgi (xpi q106.2 22 (((4 : Int32) * a1) + (xgi q39.2 21 a1.toNatClampNeg)).toNatClampNeg q106.1) 21 a1.toNatClampNeg) + (1 : Int32)))).bind fun q128 => if ¬ (a1 < 0 ∨ 16 ≤ a1.toNatClampNeg) then (if (xgi q128 21 a1.toNatClampNeg) = (4 : Int32) then ((f_MO_bad q128 (4 : Int32)).bind fun q131 => f_MO_readChannel_158 n q131 a1 a2 (0 : Int32) (0 : Int32)) else (f_MO_readChannel_158 n q128 a1 a2 (0 : Int32) (1 : Int32))) else none))) else (if (0 : Int32) = 0 then (f_MO_readChannel_158 n (xpi (xpi q106.2 22 (((4 : Int32) * a1) + (xgi q39.2 21 a1.toNatClampNeg)).toNatClampNeg q106.1) 21 a1.toNatClampNeg ((xgi (xpi q106.2 22 (((4 : Int32) * a1) + (xgi q39.2 21 a1.toNatClampNeg)).toNatClampNeg q106.1) 21 a1.toNatClampNeg) + (1 : Int32))) a1 a2 (0 : Int32) (0 : Int32)) else ((f_MO_next (xpi (xpi q106.2 22 (((4 : Int32) * a1) + (xgi q39.2 21 a1.toNatClampNeg)).toNatClampNeg q106.1) 21 a1.toNatClampNeg ((xgi (xpi q106.2 22 (((4 : Int32) * a1) + (xgi q39.2 21 a1.toNatClampNeg)).toNatClampNeg q106.1) 21 a1.toNatClampNeg) + (1 : Int32)))).bind fun q112 => if ¬ (a1 < 0 ∨ 16 ≤ a1.toNatClampNeg) then (if (xgi q112 21 a1.toNatClampNeg) = (4 : Int32) then ((f_MO_bad q112 (4 : Int32)).bind fun q115 => f_MO_readChannel_158 n q115 a1 a2 (0 : Int32) (0 : Int32)) else (f_MO_readChannel_158 n q112 a1 a2 (0 : Int32) (0 : Int32))) else none))) else none) else none) else none) else none) else none) else (if ¬ ((((4 : Int32) * a1) + (xgi q39.2 21 a1.toNatClampNeg)) < 0 ∨ 64 ≤ (((4 : Int32) * a1) + (xgi q39.2 21 a1.toNatClampNeg)).toNatClampNeg) then (if ¬ (a1 < 0 ∨ 16 ≤ a1.toNatClampNeg) then (if ¬ (a1 < 0 ∨ 16 ≤ a1.toNatClampNeg) then (if ¬ (a1 < 0 ∨ 16 ≤ a1.toNatClampNeg) then (if (xgi (xpi (xpi q39.2 22 (((4 : Int32) * a1) + (xgi q39.2 21 a1.toNatClampNeg)).toNatClampNeg (-1 : Int32)) 21 a1.toNatClampNeg ((xgi (xpi q39.2 22 (((4 : Int32) * a1) + (xgi q39.2 21 a1.toNatClampNeg)).toNatClampNeg (-1 : Int32)) 21 a1.toNatClampNeg) + (1 : Int32))) 18 a1.toNatClampNeg) = 0 then ((f_MO_isSign (xpi (xpi q39.2 22 (((4 : Int32) * a1) + (xgi q39.2 21 a1.toNatClampNeg)).toNatClampNeg (-1 : Int32)) 21 a1.toNatClampNeg ((xgi (xpi q39.2 22 (((4 : Int32) * a1) + (xgi q39.2 21 a1.toNatClampNeg)).toNatClampNeg (-1 : Int32)) 21 a1.toNatClampNeg) + (1 : Int32))) (44 : Int32)).bind fun q148 => if q148 = 0 then (if (0 : Int32) = 0 then (f_MO_readChannel_158 n (xpi (xpi q39.2 22 (((4 : Int32) * a1) + (xgi q39.2 21 a1.toNatClampNeg)).toNatClampNeg (-1 : Int32)) 21 a1.toNatClampNeg ((xgi (xpi q39.2 22 (((4 : Int32) * a1) + (xgi q39.2 21 a1.toNatClampNeg)).toNatClampNeg (-1 : Int32)) 21 a1.toNatClampNeg) + (1 : Int32))) a1 a2 (0 : Int32) (0 : Int32)) else ((f_MO_next (xpi (xpi q39.2 22 (((4 : Int32) * a1) + (xgi q39.2 21 a1.toNatClampNeg)).toNatClampNeg (-1 : Int32)) 21 a1.toNatClampNeg ((xgi (xpi q39.2 22 (((4 : Int32) * a1) + (xgi q39.2 21 a1.toNatClampNeg)).toNatClampNeg (-1 : Int32)) 21 a1.toNatClampNeg) + (1 : Int32)))).bind fun q150 => if ¬ (a1 < 0 ∨ 16 ≤ a1.toNatClampNeg) then (if (xgi q150 21 a1.toNatClampNeg) = (4 : Int32) then ((f_MO_bad q150 (4 : Int32)).bind fun q153 => f_MO_readChannel_158 n q153 a1 a2 (0 : Int32) (0 : Int32)) else (f_MO_readChannel_158 n q150 a1 a2 (0 : Int32) (0 : Int32))) else none)) else (if (1 : Int32) = 0 then (f_MO_readChannel_158 n (xpi (xpi q39.2 22 (((4 : Int32) * a1) + (xgi q39.2 21 a1.toNatClampNeg)).toNatClampNeg (-1 : Int32)) 21 a1.toNatClampNeg ((xgi (xpi q39.2 22 (((4 : Int32) * a1) + (xgi q39.2 21 a1.toNatClampNeg)).toNatClampNeg (-1 : Int32)) 21 a1.toNatClampNeg) + (1 : Int32))) a1 a2 (0 : Int32) (1 : Int32)) else ((f_MO_next (xpi (xpi q39.2 22 (((4 : Int32) * a1) + (xgi q39.2 21 a1.toNatClampNeg)).toNatClampNeg (-1 : Int32)) 21 a1.toNatClampNeg ((xgi (xpi q39.2 22 (((4 : Int32) * a1) + (xgi q39.2 21 a1.toNatClampNeg)).toNatClampNeg (-1 : Int32)) 21 a1.toNatClampNeg) + (1 : Int32)))).bind fun q157 => if ¬ (a1 < 0 ∨ 16 ≤ a1.toNatClampNeg) then (if (xgi q157 21 a1.toNatClampNeg) = (4 : Int32) then ((f_MO_bad q157 (4 : Int32)).bind fun q160 => f_MO_readChannel_158 n q160 a1 a2 (0 : Int32) (0 : Int32)) else (f_MO_readChannel_158 n q157 a1 a2 (0 : Int32) (1 : Int32))) else none))) else (if (0 : Int32) = 0 then (f_MO_readChannel_158 n (xpi (xpi q39.2 22 (((4 : Int32) * a1) + (xgi q39.2 21 a1.toNatClampNeg)).toNatClampNeg (-1 : Int32)) 21 a1.toNatClampNeg ((xgi (xpi q39.2 22 (((4 : Int32) * a1) + (xgi q39.2 21 a1.toNatClampNeg)).toNatClampNeg (-1 : Int32)) 21 a1.toNatClampNeg) + (1 : Int32))) a1 a2 (0 : Int32) (0 : Int32)) else ((f_MO_next (xpi (xpi q39.2 22 (((4 : Int32) * a1) + (xgi q39.2 21 a1.toNatClampNeg)).toNatClampNeg (-1 : Int32)) 21 a1.toNatClampNeg ((xgi (xpi q39.2 22 (((4 : Int32) * a1) + (xgi q39.2 21 a1.toNatClampNeg)).toNatClampNeg (-1 : Int32)) 21 a1.toNatClampNeg) + (1 : Int32)))).bind fun q141 => if ¬ (a1 < 0 ∨ 16 ≤ a1.toNatClampNeg) then (if (xgi q141 21 a1.toNatClampNeg) = (4 : Int32) then ((f_MO_bad q141 (4 : Int32)).bind fun q144 => f_MO_readChannel_158 n q144 a1 a2 (0 : Int32) (0 : Int32)) else (f_MO_readChannel_158 n q141 a1 a2 (0 : Int32) (0 : Int32))) else none))) else none) else none) else none) else none)) else none) else (if ¬ (a1 < 0 ∨ 16 ≤ a1.toNatClampNeg) then (if q39.1 = 0 then (if ¬ (a1 < 0 ∨ 16 ≤ a1.toNatClampNeg) then ((f_MO_readEnd q39.2 (0 : Int32) (xgi q39.2 18 a1.toNatClampNeg)).bind fun q169 => if ¬ ((((4 : Int32) * a1) + (xgi q39.2 21 a1.toNatClampNeg)) < 0 ∨ 64 ≤ (((4 : Int32) * a1) + (xgi q39.2 21 a1.toNatClampNeg)).toNatClampNeg) then (if ¬ (a1 < 0 ∨ 16 ≤ a1.toNatClampNeg) then (if ¬ (a1 < 0 ∨ 16 ≤ a1.toNatClampNeg) then (if ¬ (a1 < 0 ∨ 16 ≤ a1.toNatClampNeg) then (if (xgi (xpi (xpi q169.2 22 (((4 : Int32) * a1) + (xgi q39.2 21 a1.toNatClampNeg)).toNatClampNeg q169.1) 21 a1.toNatClampNeg ((xgi (xpi q169.2 22 (((4 : Int32) * a1) + (xgi q39.2 21 a1.toNatClampNeg)).toNatClampNeg q169.1) 21 a1.toNatClampNeg) + (1 : Int32))) 18 a1.toNatClampNeg) = 0 then ((f_MO_isSign (xpi (xpi q169.2 22 (((4 : Int32) * a1) + (xgi q39.2 21 a1.toNatClampNeg)).toNatClampNeg q169.1) 21 a1.toNatClampNeg ((xgi (xpi q169.2 22 (((4 : Int32) * a1) + (xgi q39.2 21 a1.toNatClampNeg)).toNatClampNeg q169.1) 21 a1.toNatClampNeg) + (1 : Int32))) (44 : Int32)).bind fun q182 => if q182 = 0 then (if (0 : Int32) = 0 then (f_MO_readChannel_158 n (xpi (xpi q169.2 22 (((4 : Int32) * a1) + (xgi q39.2 21 a1.toNatClampNeg)).toNatClampNeg q169.1) 21 a1.toNatClampNeg ((xgi (xpi q169.2 22 (((4 : Int32) * a1) + (xgi q39.2 21 a1.toNatClampNeg)).toNatClampNeg q169.1) 21 a1.toNatClampNeg) + (1 : Int32))) a1 a2 (1 : Int32) (0 : Int32)) else ((f_MO_next (xpi (xpi q169.2 22 (((4 : Int32) * a1) + (xgi q39.2 21 a1.toNatClampNeg)).toNatClampNeg q169.1) 21 a1.toNatClampNeg ((xgi (xpi q169.2 22 (((4 : Int32) * a1) + (xgi q39.2 21 a1.toNatClampNeg)).toNatClampNeg q169.1) 21 a1.toNatClampNeg) + (1 : Int32)))).bind fun q184 => if ¬ (a1 < 0 ∨ 16 ≤ a1.toNatClampNeg) then (if (xgi q184 21 a1.toNatClampNeg) = (4 : Int32) then ((f_MO_bad q184 (4 : Int32)).bind fun q187 => f_MO_readChannel_158 n q187 a1 a2 (1 : Int32) (0 : Int32)) else (f_MO_readChannel_158 n q184 a1 a2 (1 : Int32) (0 : Int32))) else none)) else (if (1 : Int32) = 0 then (f_MO_readChannel_158 n (xpi (xpi q169.2 22 (((4 : Int32) * a1) + (xgi q39.2 21 a1.toNatClampNeg)).toNatClampNeg q169.1) 21 a1.toNatClampNeg ((xgi (xpi q169.2 22 (((4 : Int32) * a1) + (xgi q39.2 21 a1.toNatClampNeg)).toNatClampNeg q169.1) 21 a1.toNatClampNeg) + (1 : Int32))) a1 a2 (1 : Int32) (1 : Int32)) else ((f_MO_next (xpi (xpi q169.2 22 (((4 : Int32) * a1) + (xgi q39.2 21 a1.toNatClampNeg)).toNatClampNeg q169.1) 21 a1.toNatClampNeg ((xgi (xpi q169.2 22 (((4 : Int32) * a1) + (xgi q39.2 21 a1.toNatClampNeg)).toNatClampNeg q169.1) 21 a1.toNatClampNeg) + (1 : Int32)))).bind fun q191 => if ¬ (a1 < 0 ∨ 16 ≤ a1.toNatClampNeg) then (if (xgi q191 21 a1.toNatClampNeg) = (4 : Int32) then ((f_MO_bad q191 (4 : Int32)).bind fun q194 => f_MO_readChannel_158 n q194 a1 a2 (1 : Int32) (0 : Int32)) else (f_MO_readChannel_158 n q191 a1 a2 (1 : Int32) (1 : Int32))) else none))) else (if (0 : Int32) = 0 then (f_MO_readChannel_158 n (xpi (xpi q169.2 22 (((4 : Int32) * a1) + (xgi q39.2 21 a1.toNatClampNeg)).toNatClampNeg q169.1) 21 a1.toNatClampNeg ((xgi (xpi q169.2 22 (((4 : Int32) * a1) + (xgi q39.2 21 a1.toNatClampNeg)).toNatClampNeg q169.1) 21 a1.toNatClampNeg) + (1 : Int32))) a1 a2 (1 : Int32) (0 : Int32)) else ((f_MO_next (xpi (xpi q169.2 22 (((4 : Int32) * a1) + (xgi q39.2 21 a1.toNatClampNeg)).toNatClampNeg q169.1) 21 a1.toNatClampNeg ((xgi (xpi q169.2 22 (((4 : Int32) * a1) + (xgi q39.2 21 a1.toNatClampNeg)).toNatClampNeg q169.1) 21 a1.toNatClampNeg) + (1 : Int32)))).bind fun q175 => if ¬ (a1 < 0 ∨ 16 ≤ a1.toNatClampNeg) then (if (xgi q175 21 a1.toNatClampNeg) = (4 : Int32) then ((f_MO_bad q175 (4 : Int32)).bind fun q178 => f_MO_readChannel_158 n q178 a1 a2 (1 : Int32) (0 : Int32)) else (f_MO_readChannel_158 n q175 a1 a2 (1 : Int32) (0 : Int32))) else none))) else none) else none) else none) else none) else none) else (if ¬ ((((4 : Int32) * a1) + (xgi q39.2 21 a1.toNatClampNeg)) < 0 ∨ 64 ≤ (((4 : Int32) * a1) + (xgi q39.2 21 a1.toNatClampNeg)).toNatClampNeg) then (if ¬ (a1 < 0 ∨ 16 ≤ a1.toNatClampNeg) then (if ¬ (a1 < 0 ∨ 16 ≤ a1.toNatClampNeg) then (if ¬ (a1 < 0 ∨ 16 ≤ a1.toNatClampNeg) then (if (xgi (xpi (xpi q39.2 22 (((4 : Int32) * a1) + (xgi q39.2 21 a1.toNatClampNeg)).toNatClampNeg (-1 : Int32)) 21 a1.toNatClampNeg ((xgi (xpi q39.2 22 (((4 : Int32) * a1) + (xgi q39.2 21 a1.toNatClampNeg)).toNatClampNeg (-1 : Int32)) 21 a1.toNatClampNeg) + (1 : Int32))) 18 a1.toNatClampNeg) = 0 then ((f_MO_isSign (xpi (xpi q39.2 22 (((4 : Int32) * a1) + (xgi q39.2 21 a1.toNatClampNeg)).toNatClampNeg (-1 : Int32)) 21 a1.toNatClampNeg ((xgi (xpi q39.2 22 (((4 : Int32) * a1) + (xgi q39.2 21 a1.toNatClampNeg)).toNatClampNeg (-1 : Int32)) 21 a1.toNatClampNeg) + (1 : Int32))) (44 : Int32)).bind fun q211 => if q211 = 0 then (if (0 : Int32) = 0 then (f_MO_readChannel_158 n (xpi (xpi q39.2 22 (((4 : Int32) * a1) + (xgi q39.2 21 a1.toNatClampNeg)).toNatClampNeg (-1 : Int32)) 21 a1.toNatClampNeg ((xgi (xpi q39.2 22 (((4 : Int32) * a1) + (xgi q39.2 21 a1.toNatClampNeg)).toNatClampNeg (-1 : Int32)) 21 a1.toNatClampNeg) + (1 : Int32))) a1 a2 (1 : Int32) (0 : Int32)) else ((f_MO_next (xpi (xpi q39.2 22 (((4 : Int32) * a1) + (xgi q39.2 21 a1.toNatClampNeg)).toNatClampNeg (-1 : Int32)) 21 a1.toNatClampNeg ((xgi (xpi q39.2 22 (((4 : Int32) * a1) + (xgi q39.2 21 a1.toNatClampNeg)).toNatClampNeg (-1 : Int32)) 21 a1.toNatClampNeg) + (1 : Int32)))).bind fun q213 => if ¬ (a1 < 0 ∨ 16 ≤ a1.toNatClampNeg) then (if (xgi q213 21 a1.toNatClampNeg) = (4 : Int32) then ((f_MO_bad q213 (4 : Int32)).bind fun q216 => f_MO_readChannel_158 n q216 a1 a2 (1 : Int32) (0 : Int32)) else (f_MO_readChannel_158 n q213 a1 a2 (1 : Int32) (0 : Int32))) else none)) else (if (1 : Int32) = 0 then (f_MO_readChannel_158 n (xpi (xpi q39.2 22 (((4 : Int32) * a1) + (xgi q39.2 21 a1.toNatClampNeg)).toNatClampNeg (-1 : Int32)) 21 a1.toNatClampNeg ((xgi (xpi q39.2 22 (((4 : Int32) * a1) + (xgi q39.2 21 a1.toNatClampNeg)).toNatClampNeg (-1 : Int32)) 21 a1.toNatClampNeg) + (1 : Int32))) a1 a2 (1 : Int32) (1 : Int32)) else ((f_MO_next (xpi (xpi q39.2 22 (((4 : Int32) * a1) + (xgi q39.2 21 a1.toNatClampNeg)).toNatClampNeg (-1 : Int32)) 21 a1.toNatClampNeg ((xgi (xpi q39.2 22 (((4 : Int32) * a1) + (xgi q39.2 21 a1.toNatClampNeg)).toNatClampNeg (-1 : Int32)) 21 a1.toNatClampNeg) + (1 : Int32)))).bind fun q220 => if ¬ (a1 < 0 ∨ 16 ≤ a1.toNatClampNeg) then (if (xgi q220 21 a1.toNatClampNeg) = (4 : Int32) then ((f_MO_bad q220 (4 : Int32)).bind fun q223 => f_MO_readChannel_158 n q223 a1 a2 (1 : Int32) (0 : Int32)) else (f_MO_readChannel_158 n q220 a1 a2 (1 : Int32) (1 : Int32))) else none))) else (if (0 : Int32) = 0 then (f_MO_readChannel_158 n (xpi (xpi q39.2 22 (((4 : Int32) * a1) + (xgi q39.2 21 a1.toNatClampNeg)).toNatClampNeg (-1 : Int32)) 21 a1.toNatClampNeg ((xgi (xpi q39.2 22 (((4 : Int32) * a1) + (xgi q39.2 21 a1.toNatClampNeg)).toNatClampNeg (-1 : Int32)) 21 a1.toNatClampNeg) + (1 : Int32))) a1 a2 (1 : Int32) (0 : Int32)) else ((f_MO_next (xpi (xpi q39.2 22 (((4 : Int32) * a1) + (xgi q39.2 21 a1.toNatClampNeg)).toNatClampNeg (-1 : Int32)) 21 a1.toNatClampNeg ((xgi (xpi q39.2 22 (((4 : Int32) * a1) + (xgi q39.2 21 a1.toNatClampNeg)).toNatClampNeg (-1 : Int32)) 21 a1.toNatClampNeg) + (1 : Int32)))).bind fun q204 => if ¬ (a1 < 0 ∨ 16 ≤ a1.toNatClampNeg) then (if (xgi q204 21 a1.toNatClampNeg) = (4 : Int32) then ((f_MO_bad q204 (4 : Int32)).bind fun q207 => f_MO_readChannel_158 n q207 a1 a2 (1 : Int32) (0 : Int32)) else (f_MO_readChannel_158 n q204 a1 a2 (1 : Int32) (0 : Int32))) else none))) else none) else none) else none) else none)) else none)) else (if ¬ (a1 < 0 ∨ 16 ≤ a1.toNatClampNeg) then (if q39.1 = 0 then (if ¬ (a1 < 0 ∨ 16 ≤ a1.toNatClampNeg) then ((f_MO_readEnd q39.2 (0 : Int32) (xgi q39.2 18 a1.toNatClampNeg)).bind fun q43 => if ¬ ((((4 : Int32) * a1) + (xgi q39.2 21 a1.toNatClampNeg)) < 0 ∨ 64 ≤ (((4 : Int32) * a1) + (xgi q39.2 21 a1.toNatClampNeg)).toNatClampNeg) then (if ¬ (a1 < 0 ∨ 16 ≤ a1.toNatClampNeg) then (if ¬ (a1 < 0 ∨ 16 ≤ a1.toNatClampNeg) then (if ¬ (a1 < 0 ∨ 16 ≤ a1.toNatClampNeg) then (if (xgi (xpi (xpi q43.2 22 (((4 : Int32) * a1) + (xgi q39.2 21 a1.toNatClampNeg)).toNatClampNeg q43.1) 21 a1.toNatClampNeg ((xgi (xpi q43.2 22 (((4 : Int32) * a1) + (xgi q39.2 21 a1.toNatClampNeg)).toNatClampNeg q43.1) 21 a1.toNatClampNeg) + (1 : Int32))) 18 a1.toNatClampNeg) = 0 then ((f_MO_isSign (xpi (xpi q43.2 22 (((4 : Int32) * a1) + (xgi q39.2 21 a1.toNatClampNeg)).toNatClampNeg q43.1) 21 a1.toNatClampNeg ((xgi (xpi q43.2 22 (((4 : Int32) * a1) + (xgi q39.2 21 a1.toNatClampNeg)).toNatClampNeg q43.1) 21 a1.toNatClampNeg) + (1 : Int32))) (44 : Int32)).bind fun q56 => if q56 = 0 then (if (0 : Int32) = 0 then (f_MO_readChannel_158 n (xpi (xpi q43.2 22 (((4 : Int32) * a1) + (xgi q39.2 21 a1.toNatClampNeg)).toNatClampNeg q43.1) 21 a1.toNatClampNeg ((xgi (xpi q43.2 22 (((4 : Int32) * a1) + (xgi q39.2 21 a1.toNatClampNeg)).toNatClampNeg q43.1) 21 a1.toNatClampNeg) + (1 : Int32))) a1 a2 (1 : Int32) (0 : Int32)) else ((f_MO_next (xpi (xpi q43.2 22 (((4 : Int32) * a1) + (xgi q39.2 21 a1.toNatClampNeg)).toNatClampNeg q43.1) 21 a1.toNatClampNeg ((xgi (xpi q43.2 22 (((4 : Int32) * a1) + (xgi q39.2 21 a1.toNatClampNeg)).toNatClampNeg q43.1) 21 a1.toNatClampNeg) + (1 : Int32)))).bind fun q58 => if ¬ (a1 < 0 ∨ 16 ≤ a1.toNatClampNeg) then (if (xgi q58 21 a1.toNatClampNeg) = (4 : Int32) then ((f_MO_bad q58 (4 : Int32)).bind fun q61 => f_MO_readChannel_158 n q61 a1 a2 (1 : Int32) (0 : Int32)) else (f_MO_readChannel_158 n q58 a1 a2 (1 : Int32) (0 : Int32))) else none)) else (if (1 : Int32) = 0 then (f_MO_readChannel_158 n (xpi (xpi q43.2 22 (((4 : Int32) * a1) + (xgi q39.2 21 a1.toNatClampNeg)).toNatClampNeg q43.1) 21 a1.toNatClampNeg ((xgi (xpi q43.2 22 (((4 : Int32) * a1) + (xgi q39.2 21 a1.toNatClampNeg)).toNatClampNeg q43.1) 21 a1.toNatClampNeg) + (1 : Int32))) a1 a2 (1 : Int32) (1 : Int32)) else ((f_MO_next (xpi (xpi q43.2 22 (((4 : Int32) * a1) + (xgi q39.2 21 a1.toNatClampNeg)).toNatClampNeg q43.1) 21 a1.toNatClampNeg ((xgi (xpi q43.2 22 (((4 : Int32) * a1) + (xgi q39.2 21 a1.toNatClampNeg)).toNatClampNeg q43.1) 21 a1.toNatClampNeg) + (1 : Int32)))).bind fun q65 => if ¬ (a1 < 0 ∨ 16 ≤ a1.toNatClampNeg) then (if (xgi q65 21 a1.toNatClampNeg) = (4 : Int32) then ((f_MO_bad q65 (4 : Int32)).bind fun q68 => f_MO_readChannel_158 n q68 a1 a2 (1 : Int32) (0 : Int32)) else (f_MO_readChannel_158 n q65 a1 a2 (1 : Int32) (1 : Int32))) else none))) else (if (0 : Int32) = 0 then (f_MO_readChannel_158 n (xpi (xpi q43.2 22 (((4 : Int32) * a1) + (xgi q39.2 21 a1.toNatClampNeg)).toNatClampNeg q43.1) 21 a1.toNatClampNeg ((xgi (xpi q43.2 22 (((4 : Int32) * a1) + (xgi q39.2 21 a1.toNatClampNeg)).toNatClampNeg q43.1) 21 a1.toNatClampNeg) + (1 : Int32))) a1 a2 (1 : Int32) (0 : Int32)) else ((f_MO_next (xpi (xpi q43.2 22 (((4 : Int32) * a1) + (xgi q39.2 21 a1.toNatClampNeg)).toNatClampNeg q43.1) 21 a1.toNatClampNeg ((xgi (xpi q43.2 22 (((4 : Int32) * a1) + (xgi q39.2 21 a1.toNatClampNeg)).toNatClampNeg q43.1) 21 a1.toNatClampNeg) + (1 : Int32)))).bind fun q49 => if ¬ (a1 < 0 ∨ 16 ≤ a1.toNatClampNeg) then (if (xgi q49 21 a1.toNatClampNeg) = (4 : Int32) then ((f_MO_bad q49 (4 : Int32)).bind fun q52 => f_MO_readChannel_158 n q52 a1 a2 (1 : Int32) (0 : Int32)) else (f_MO_readChannel_158 n q49 a1 a2 (1 : Int32) (0 : Int32))) else none))) else none) else none) else none) else none) else none) else (if ¬ ((((4 : Int32) * a1) + (xgi q39.2 21 a1.toNatClampNeg)) < 0 ∨ 64 ≤ (((4 : Int32) * a1) + (xgi q39.2 21 a1.toNatClampNeg)).toNatClampNeg) then (if ¬ (a1 < 0 ∨ 16 ≤ a1.toNatClampNeg) then (if ¬ (a1 < 0 ∨ 16 ≤ a1.toNatClampNeg) then (if ¬ (a1 < 0 ∨ 16 ≤ a1.toNatClampNeg) then (if (xgi (xpi (xpi q39.2 22 (((4 : Int32) * a1) + (xgi q39.2 21 a1.toNatClampNeg)).toNatClampNeg (-1 : Int32)) 21 a1.toNatClampNeg ((xgi (xpi q39.2 22 (((4 : Int32) * a1) + (xgi q39.2 21 a1.toNatClampNeg)).toNatClampNeg (-1 : Int32)) 21 a1.toNatClampNeg) + (1 : Int32))) 18 a1.toNatClampNeg) = 0 then ((f_MO_isSign (xpi (xpi q39.2 22 (((4 : Int32) * a1) + (xgi q39.2 21 a1.toNatClampNeg)).toNatClampNeg (-1 : Int32)) 21 a1.toNatClampNeg ((xgi (xpi q39.2 22 (((4 : Int32) * a1) + (xgi q39.2 21 a1.toNatClampNeg)).toNatClampNeg (-1 : Int32)) 21 a1.toNatClampNeg) + (1 : Int32))) (44 : Int32)).bind fun q85 => if q85 = 0 then (if (0 : Int32) = 0 then (f_MO_readChannel_158 n (xpi (xpi q39.2 22 (((4 : Int32) * a1) + (xgi q39.2 21 a1.toNatClampNeg)).toNatClampNeg (-1 : Int32)) 21 a1.toNatClampNeg ((xgi (xpi q39.2 22 (((4 : Int32) * a1) + (xgi q39.2 21 a1.toNatClampNeg)).toNatClampNeg (-1 : Int32)) 21 a1.toNatClampNeg) + (1 : Int32))) a1 a2 (1 : Int32) (0 : Int32)) else ((f_MO_next (xpi (xpi q39.2 22 (((4 : Int32) * a1) + (xgi q39.2 21 a1.toNatClampNeg)).toNatClampNeg (-1 : Int32)) 21 a1.toNatClampNeg ((xgi (xpi q39.2 22 (((4 : Int32) * a1) + (xgi q39.2 21 a1.toNatClampNeg)).toNatClampNeg (-1 : Int32)) 21 a1.toNatClampNeg) + (1 : Int32)))).bind fun q87 => if ¬ (a1 < 0 ∨ 16 ≤ a1.toNatClampNeg) then (if (xgi q87 21 a1.toNatClampNeg) = (4 : Int32) then ((f_MO_bad q87 (4 : Int32)).bind fun q90 => f_MO_readChannel_158 n q90 a1 a2 (1 : Int32) (0 : Int32)) else (f_MO_readChannel_158 n q87 a1 a2 (1 : Int32) (0 : Int32))) else none)) else (if (1 : Int32) = 0 then (f_MO_readChannel_158 n (xpi (xpi q39.2 22 (((4 : Int32) * a1) + (xgi q39.2 21 a1.toNatClampNeg)).toNatClampNeg (-1 : Int32)) 21 a1.toNatClampNeg ((xgi (xpi q39.2 22 (((4 : Int32) * a1) + (xgi q39.2 21 a1.toNatClampNeg)).toNatClampNeg (-1 : Int32)) 21 a1.toNatClampNeg) + (1 : Int32))) a1 a2 (1 : Int32) (1 : Int32)) else ((f_MO_next (xpi (xpi q39.2 22 (((4 : Int32) * a1) + (xgi q39.2 21 a1.toNatClampNeg)).toNatClampNeg (-1 : Int32)) 21 a1.toNatClampNeg ((xgi (xpi q39.2 22 (((4 : Int32) * a1) + (xgi q39.2 21 a1.toNatClampNeg)).toNatClampNeg (-1 : Int32)) 21 a1.toNatClampNeg) + (1 : Int32)))).bind fun q94 => if ¬ (a1 < 0 ∨ 16 ≤ a1.toNatClampNeg) then (if (xgi q94 21 a1.toNatClampNeg) = (4 : Int32) then ((f_MO_bad q94 (4 : Int32)).bind fun q97 => f_MO_readChannel_158 n q97 a1 a2 (1 : Int32) (0 : Int32)) else (f_MO_readChannel_158 n q94 a1 a2 (1 : Int32) (1 : Int32))) else none))) else (if (0 : Int32) = 0 then (f_MO_readChannel_158 n (xpi (xpi q39.2 22 (((4 : Int32) * a1) + (xgi q39.2 21 a1.toNatClampNeg)).toNatClampNeg (-1 : Int32)) 21 a1.toNatClampNeg ((xgi (xpi q39.2 22 (((4 : Int32) * a1) + (xgi q39.2 21 a1.toNatClampNeg)).toNatClampNeg (-1 : Int32)) 21 a1.toNatClampNeg) + (1 : Int32))) a1 a2 (1 : Int32) (0 : Int32)) else ((f_MO_next (xpi (xpi q39.2 22 (((4 : Int32) * a1) + (xgi q39.2 21 a1.toNatClampNeg)).toNatClampNeg (-1 : Int32)) 21 a1.toNatClampNeg ((xgi (xpi q39.2 22 (((4 : Int32) * a1) + (xgi q39.2 21 a1.toNatClampNeg)).toNatClampNeg (-1 : Int32)) 21 a1.toNatClampNeg) + (1 : Int32)))).bind fun q78 => if ¬ (a1 < 0 ∨ 16 ≤ a1.toNatClampNeg) then (if (xgi q78 21 a1.toNatClampNeg) = (4 : Int32) then ((f_MO_bad q78 (4 : Int32)).bind fun q81 => f_MO_readChannel_158 n q81 a1 a2 (1 : Int32) (0 : Int32)) else (f_MO_readChannel_158 n q78 a1 a2 (1 : Int32) (0 : Int32))) else none))) else none) else none) else none) else none)) else none))
set_option maxHeartbeats 4000000 in
set_option maxRecDepth 100000 in
theorem k_MO_readChannel_158 (l : Launch) {p : Program} {e : Env} {s : State} {m : MethodId} {args : Array Value} {below : List Frame} {meth : Method} {c : Code} {D : va_G} {lay : Nat → Nat} {cA : Nat → ClassId} (C : xB p s m args meth c R_MO b_MO_readChannel ((Option.none : Option Jvm.ClassFile.FieldType)) 6) (E : mE D lay cA s s.heap) : ∀ (n : Nat) (S : XS) (a1 : Int32) (a2 : Int32) (a3 : Int32) (a4 : Int32) (r : XS) (_ : f_MO_readChannel_158 n S a1 a2 a3 a4 = some r) (H : Heap) (locs : List Loc) (ls : Array Slot), va_P D xcl (mw lay cA S) H → va_S (mI lay) s.heap H locs → lv_has ls 6 [(0, .ref (lay 0)), (1, .int a1), (2, .int a2), (3, .int a3), (4, .int a4)] → W p l e rm_MO_readChannel s m args below meth c H locs 0 0 (MQ below (mqv D lay cA r) args s 0 0 (mI lay)) (F0 m 158 ls []) := by
  obtain ⟨hx, hb, hr, hml, hown, hts, hlk, hnh⟩ := id C
  have hK := E.K
  intro n
  induction n with
  | zero => intro S a1 a2 a3 a4 r h; rw [f_MO_readChannel_158] at h; cases h
  | succ n ih =>
    intro S a1 a2 a3 a4 r h H locs ls hP hS hl
    rw [f_MO_readChannel_158] at h
    refine lv_iload hx hb d_MO_readChannel_158 (lv_at hl 4 rfl) ?_
    refine lv_if_eq (tgt := 286) hx hb d_MO_readChannel_160 (by decide) (fun c_231 => ?_) (fun c_231 => ?_)
    · have h := xif_t c_231 h
      refine lv_aload_n hx hb d_MO_readChannel_286 rfl (lv_at hl 0 rfl) ?_
      refine lv_bipush (v := (125 : Int32)) hx hb d_MO_readChannel_287 (by decide) ?_
      obtain ⟨q36, e35, h⟩ := xb h
      refine mc_v (va_runV (As := [.int (125 : Int32)]) (rest := []) ⟨hx, hb, hml, hown, hts⟩ (c_MO_sign l D lay cA S (125 : Int32) q36 e35) (cwV 1 hts (xT_V wd_902 wd_904 wp_34 wd_7 wd_905) rfl rfl rfl (by decide +kernel) ⟨Nat.le_of_ble_eq_true rfl, Nat.le_of_ble_eq_true rfl⟩) (mpV E hP hS (by decide) (mc_0 _ _ _ _) rfl) rfl rfl hl.1 rfl (lv_room (Nat.le_of_ble_eq_true rfl)) d_MO_readChannel_289 ⟨Nat.le_of_ble_eq_true rfl, Nat.le_of_ble_eq_true rfl⟩) hS (fun H locs hP hS => ?_)
      refine lv_aload_n hx hb d_MO_readChannel_292 rfl (lv_at hl 0 rfl) ?_
      refine lv_dup hx hb d_MO_readChannel_293 rfl ?_
      refine va_get (v := .int (xgi q36 0 32)) (C := R_MO) (T := F_MO) (N := 41) hx hb hts i_MO hown hK hP 0 (mw_at (by decide) (mc_0 _ _ _ _)) rfl 32 (by decide) (hts _ wd_732) (fun _ h9 => h9) rfl d_MO_readChannel_294 ?_
      refine lv_iload_n hx hb d_MO_readChannel_297 rfl (lv_at hl 2 rfl) ?_
      refine lv_if_eq (tgt := 305) hx hb d_MO_readChannel_298 (by decide) (fun c_37 => ?_) (fun c_37 => ?_)
      · have h := xif_t c_37 h
        refine lv_iconst (v := (0 : Int32)) hx hb d_MO_readChannel_305 (by decide) ?_
        exact k_MO_readChannel_306 l C E q36 a3 (0 : Int32) (xgi q36 0 32) _ h H locs ls hP hS (lv_sub hl [0, 3] rfl)
      · have h := xif_f c_37 h
        refine lv_iconst (v := (1 : Int32)) hx hb d_MO_readChannel_301 (by decide) ?_
        refine lv_goto (tgt := 306) hx hb d_MO_readChannel_302 (by decide) ?_
        exact k_MO_readChannel_306 l C E q36 a3 (1 : Int32) (xgi q36 0 32) _ h H locs ls hP hS (lv_sub hl [0, 3] rfl)
    · have h := xif_f c_231 h
      refine lv_aload_n hx hb d_MO_readChannel_163 rfl (lv_at hl 0 rfl) ?_
      refine lv_bipush (v := (21 : Int32)) hx hb d_MO_readChannel_164 (by decide) ?_
      obtain ⟨q39, e38, h⟩ := xb h
      refine mc_i (va_runV (As := [.int (21 : Int32)]) (rest := []) ⟨hx, hb, hml, hown, hts⟩ (c_MO_accept l D lay cA S (21 : Int32) q39 e38) (cwV 1 hts (xT_V wd_938 wd_940 wp_42 wd_7 wd_941) rfl rfl rfl (by decide +kernel) ⟨Nat.le_of_ble_eq_true rfl, Nat.le_of_ble_eq_true rfl⟩) (mpV E hP hS (by decide) (mc_0 _ _ _ _) rfl) rfl rfl hl.1 rfl (lv_room (Nat.le_of_ble_eq_true rfl)) d_MO_readChannel_166 ⟨Nat.le_of_ble_eq_true rfl, Nat.le_of_ble_eq_true rfl⟩) hS (fun H locs hP hS => ?_)
      refine lv_istore (lv' := [(5, .int q39.1), (0, .ref (lay 0)), (1, .int a1), (2, .int a2), (3, .int a3), (4, .int a4)]) hx hb d_MO_readChannel_169 hl (by decide) rfl (fun ls hl => ?_)
      refine lv_iload_n hx hb d_MO_readChannel_171 rfl (lv_at hl 4 rfl) ?_
      refine lv_if_ne (tgt := 180) hx hb d_MO_readChannel_172 (by decide) (fun c_230 => ?_) (fun c_230 => ?_)
      · have h := xif_f c_230 h
        refine lv_iconst (v := (1 : Int32)) hx hb d_MO_readChannel_180 (by decide) ?_
        refine lv_goto (tgt := 185) hx hb d_MO_readChannel_181 (by decide) ?_
        refine lv_istore_n (lv' := [(3, .int (1 : Int32)), (5, .int q39.1), (0, .ref (lay 0)), (1, .int a1), (2, .int a2), (4, .int a4)]) hx hb d_MO_readChannel_185 rfl hl (by decide) rfl (fun ls hl => ?_)
        refine lv_aload_n hx hb d_MO_readChannel_186 rfl (lv_at hl 2 rfl) ?_
        refine va_get (v := .ref (lay 22)) (C := R_MO) (T := F_MO) (N := 41) hx hb hts i_MO hown hK hP 0 (mw_at (by decide) (mc_0 _ _ _ _)) rfl 38 (by decide) (hts _ wd_738) (fun _ h9 => h9) rfl d_MO_readChannel_187 ?_
        refine lv_iconst (v := (4 : Int32)) hx hb d_MO_readChannel_190 (by decide) ?_
        refine lv_iload_n hx hb d_MO_readChannel_191 rfl (lv_at hl 3 rfl) ?_
        refine lv_imul hx hb d_MO_readChannel_192 ?_
        refine lv_aload_n hx hb d_MO_readChannel_193 rfl (lv_at hl 2 rfl) ?_
        refine va_get (v := .ref (lay 21)) (C := R_MO) (T := F_MO) (N := 41) hx hb hts i_MO hown hK hP 0 (mw_at (by decide) (mc_0 _ _ _ _)) rfl 37 (by decide) (hts _ wd_737) (fun _ h9 => h9) rfl d_MO_readChannel_194 ?_
        refine lv_iload_n hx hb d_MO_readChannel_197 rfl (lv_at hl 3 rfl) ?_
        obtain ⟨hg40, h⟩ := xg h
        refine mal_21 hx hb E hP hg40 d_MO_readChannel_198 ?_
        refine lv_iadd hx hb d_MO_readChannel_199 ?_
        refine lv_iload hx hb d_MO_readChannel_200 (lv_at hl 1 rfl) ?_
        refine lv_if_eq (tgt := 209) hx hb d_MO_readChannel_202 (by decide) (fun c_102 => ?_) (fun c_102 => ?_)
        · have h := xif_t c_102 h
          refine lv_aload_n hx hb d_MO_readChannel_209 rfl (lv_at hl 2 rfl) ?_
          refine lv_iconst (v := (0 : Int32)) hx hb d_MO_readChannel_210 (by decide) ?_
          refine lv_aload_n hx hb d_MO_readChannel_211 rfl (lv_at hl 2 rfl) ?_
          refine va_get (v := .ref (lay 18)) (C := R_MO) (T := F_MO) (N := 41) hx hb hts i_MO hown hK hP 0 (mw_at (by decide) (mc_0 _ _ _ _)) rfl 34 (by decide) (hts _ wd_734) (fun _ h9 => h9) rfl d_MO_readChannel_212 ?_
          refine lv_iload_n hx hb d_MO_readChannel_215 rfl (lv_at hl 3 rfl) ?_
          obtain ⟨hg41, h⟩ := xg h
          refine mal_18 hx hb E hP hg41 d_MO_readChannel_216 ?_
          obtain ⟨q43, e42, h⟩ := xb h
          refine mc_i (va_runV (As := [.int (0 : Int32), .int (xgi q39.2 18 a1.toNatClampNeg)]) (rest := [.int (((4 : Int32) * a1) + (xgi q39.2 21 a1.toNatClampNeg)), .ref (lay 22)]) ⟨hx, hb, hml, hown, hts⟩ (c_MO_readEnd l D lay cA q39.2 (0 : Int32) (xgi q39.2 18 a1.toNatClampNeg) q43 e42) (cwV 2 hts (xT_V wd_978 wd_980 wp_52 wd_7 wd_981) rfl rfl rfl (by decide +kernel) ⟨Nat.le_of_ble_eq_true rfl, Nat.le_of_ble_eq_true rfl⟩) (mpV E hP hS (by decide) (mc_0 _ _ _ _) rfl) rfl rfl hl.1 rfl (lv_room (Nat.le_of_ble_eq_true rfl)) d_MO_readChannel_217 ⟨Nat.le_of_ble_eq_true rfl, Nat.le_of_ble_eq_true rfl⟩) hS (fun H locs hP hS => ?_)
          obtain ⟨hg44, h⟩ := xg h
          refine mas_22 hx hb E hP hS hg44 d_MO_readChannel_220 (fun H locs hP hS => ?_)
          refine lv_aload_n hx hb d_MO_readChannel_221 rfl (lv_at hl 2 rfl) ?_
          refine va_get (v := .ref (lay 21)) (C := R_MO) (T := F_MO) (N := 41) hx hb hts i_MO hown hK hP 0 (mw_at (by decide) (mc_0 _ _ _ _)) rfl 37 (by decide) (hts _ wd_737) (fun _ h9 => h9) rfl d_MO_readChannel_222 ?_
          refine lv_iload_n hx hb d_MO_readChannel_225 rfl (lv_at hl 3 rfl) ?_
          refine lv_dup2_11 hx hb d_MO_readChannel_226 rfl rfl ?_
          obtain ⟨hg45, h⟩ := xg h
          refine mal_21 hx hb E hP hg45 d_MO_readChannel_227 ?_
          refine lv_iconst (v := (1 : Int32)) hx hb d_MO_readChannel_228 (by decide) ?_
          refine lv_iadd hx hb d_MO_readChannel_229 ?_
          obtain ⟨hg46, h⟩ := xg h
          refine mas_21 hx hb E hP hS hg46 d_MO_readChannel_230 (fun H locs hP hS => ?_)
          refine lv_aload_n hx hb d_MO_readChannel_231 rfl (lv_at hl 2 rfl) ?_
          refine va_get (v := .ref (lay 18)) (C := R_MO) (T := F_MO) (N := 41) hx hb hts i_MO hown hK hP 0 (mw_at (by decide) (mc_0 _ _ _ _)) rfl 34 (by decide) (hts _ wd_734) (fun _ h9 => h9) rfl d_MO_readChannel_232 ?_
          refine lv_iload_n hx hb d_MO_readChannel_235 rfl (lv_at hl 3 rfl) ?_
          obtain ⟨hg47, h⟩ := xg h
          refine mal_18 hx hb E hP hg47 d_MO_readChannel_236 ?_
          refine lv_if_ne (tgt := 253) hx hb d_MO_readChannel_237 (by decide) (fun c_72 => ?_) (fun c_72 => ?_)
          · have h := xif_f c_72 h
            refine lv_iconst (v := (0 : Int32)) hx hb d_MO_readChannel_253 (by decide) ?_
            refine lv_istore (lv' := [(4, .int (0 : Int32)), (3, .int (1 : Int32)), (5, .int q39.1), (0, .ref (lay 0)), (1, .int a1), (2, .int a2)]) hx hb d_MO_readChannel_254 hl (by decide) rfl (fun ls hl => ?_)
            refine lv_iload hx hb d_MO_readChannel_256 (lv_at hl 0 rfl) ?_
            refine lv_if_eq (tgt := 283) hx hb d_MO_readChannel_258 (by decide) (fun c_54 => ?_) (fun c_54 => ?_)
            · have h := xif_t c_54 h
              refine lv_goto (tgt := 158) hx hb d_MO_readChannel_283 (by decide) ?_
              exact ih (xpi (xpi q43.2 22 (((4 : Int32) * a1) + (xgi q39.2 21 a1.toNatClampNeg)).toNatClampNeg q43.1) 21 a1.toNatClampNeg ((xgi (xpi q43.2 22 (((4 : Int32) * a1) + (xgi q39.2 21 a1.toNatClampNeg)).toNatClampNeg q43.1) 21 a1.toNatClampNeg) + (1 : Int32))) a1 a2 (1 : Int32) (0 : Int32) _ h H locs ls hP hS (lv_sub hl [3, 4, 5, 1, 0] rfl)
            · have h := xif_f c_54 h
              refine lv_aload_n hx hb d_MO_readChannel_261 rfl (lv_at hl 3 rfl) ?_
              obtain ⟨q49, e48, h⟩ := xb h
              refine mc_v (va_runV (As := []) (rest := []) ⟨hx, hb, hml, hown, hts⟩ (c_MO_next l D lay cA (xpi (xpi q43.2 22 (((4 : Int32) * a1) + (xgi q39.2 21 a1.toNatClampNeg)).toNatClampNeg q43.1) 21 a1.toNatClampNeg ((xgi (xpi q43.2 22 (((4 : Int32) * a1) + (xgi q39.2 21 a1.toNatClampNeg)).toNatClampNeg q43.1) 21 a1.toNatClampNeg) + (1 : Int32))) q49 e48) (cwV 0 hts (xT_V wd_841 wd_843 wp_21 wd_7 wd_844) rfl rfl rfl (by decide +kernel) ⟨Nat.le_of_ble_eq_true rfl, Nat.le_of_ble_eq_true rfl⟩) (mpV E hP hS (by decide) (mc_0 _ _ _ _) rfl) rfl rfl hl.1 rfl (lv_room (Nat.le_of_ble_eq_true rfl)) d_MO_readChannel_262 ⟨Nat.le_of_ble_eq_true rfl, Nat.le_of_ble_eq_true rfl⟩) hS (fun H locs hP hS => ?_)
              refine lv_aload_n hx hb d_MO_readChannel_265 rfl (lv_at hl 3 rfl) ?_
              refine va_get (v := .ref (lay 21)) (C := R_MO) (T := F_MO) (N := 41) hx hb hts i_MO hown hK hP 0 (mw_at (by decide) (mc_0 _ _ _ _)) rfl 37 (by decide) (hts _ wd_737) (fun _ h9 => h9) rfl d_MO_readChannel_266 ?_
              refine lv_iload_n hx hb d_MO_readChannel_269 rfl (lv_at hl 4 rfl) ?_
              obtain ⟨hg50, h⟩ := xg h
              refine mal_21 hx hb E hP hg50 d_MO_readChannel_270 ?_
              refine lv_iconst (v := (4 : Int32)) hx hb d_MO_readChannel_271 (by decide) ?_
              refine lv_icmp_ne (tgt := 283) hx hb d_MO_readChannel_272 (by decide) (fun c_53 => ?_) (fun c_53 => ?_)
              · have h := xif_f c_53 h
                refine lv_goto (tgt := 158) hx hb d_MO_readChannel_283 (by decide) ?_
                exact ih q49 a1 a2 (1 : Int32) (0 : Int32) _ h H locs ls hP hS (lv_sub hl [3, 4, 5, 1, 0] rfl)
              · have h := xif_t c_53 h
                refine lv_aload_n hx hb d_MO_readChannel_275 rfl (lv_at hl 3 rfl) ?_
                refine lv_iconst (v := (4 : Int32)) hx hb d_MO_readChannel_276 (by decide) ?_
                obtain ⟨q52, e51, h⟩ := xb h
                refine mc_v (va_runV (As := [.int (4 : Int32)]) (rest := []) ⟨hx, hb, hml, hown, hts⟩ (c_MO_bad l D lay cA q49 (4 : Int32) q52 e51) (cwV 1 hts (xT_V wd_886 wd_888 wp_30 wd_7 wd_889) rfl rfl rfl (by decide +kernel) ⟨Nat.le_of_ble_eq_true rfl, Nat.le_of_ble_eq_true rfl⟩) (mpV E hP hS (by decide) (mc_0 _ _ _ _) rfl) rfl rfl hl.1 rfl (lv_room (Nat.le_of_ble_eq_true rfl)) d_MO_readChannel_277 ⟨Nat.le_of_ble_eq_true rfl, Nat.le_of_ble_eq_true rfl⟩) hS (fun H locs hP hS => ?_)
                refine lv_iconst (v := (0 : Int32)) hx hb d_MO_readChannel_280 (by decide) ?_
                refine lv_istore (lv' := [(4, .int (0 : Int32)), (3, .int (1 : Int32)), (5, .int q39.1), (0, .ref (lay 0)), (1, .int a1), (2, .int a2)]) hx hb d_MO_readChannel_281 hl (by decide) rfl (fun ls hl => ?_)
                refine lv_goto (tgt := 158) hx hb d_MO_readChannel_283 (by decide) ?_
                exact ih q52 a1 a2 (1 : Int32) (0 : Int32) _ h H locs ls hP hS (lv_sub hl [3, 4, 5, 1, 0] rfl)
          · have h := xif_t c_72 h
            refine lv_aload_n hx hb d_MO_readChannel_240 rfl (lv_at hl 2 rfl) ?_
            refine lv_bipush (v := (44 : Int32)) hx hb d_MO_readChannel_241 (by decide) ?_
            obtain ⟨q56, e55, h⟩ := xb h
            refine mc_i (va_runV (As := [.int (44 : Int32)]) (rest := []) ⟨hx, hb, hml, hown, hts⟩ (c_MO_isSign l D lay cA (xpi (xpi q43.2 22 (((4 : Int32) * a1) + (xgi q39.2 21 a1.toNatClampNeg)).toNatClampNeg q43.1) 21 a1.toNatClampNeg ((xgi (xpi q43.2 22 (((4 : Int32) * a1) + (xgi q39.2 21 a1.toNatClampNeg)).toNatClampNeg q43.1) 21 a1.toNatClampNeg) + (1 : Int32))) (44 : Int32) q56 e55) (cwV 1 hts (xT_V wd_906 wd_908 wp_35 wd_7 wd_909) rfl rfl rfl (by decide +kernel) ⟨Nat.le_of_ble_eq_true rfl, Nat.le_of_ble_eq_true rfl⟩) (mpV E hP hS (by decide) (mc_0 _ _ _ _) rfl) rfl rfl hl.1 rfl (lv_room (Nat.le_of_ble_eq_true rfl)) d_MO_readChannel_243 ⟨Nat.le_of_ble_eq_true rfl, Nat.le_of_ble_eq_true rfl⟩) hS (fun H locs hP hS => ?_)
            refine lv_if_eq (tgt := 253) hx hb d_MO_readChannel_246 (by decide) (fun c_71 => ?_) (fun c_71 => ?_)
            · have h := xif_t c_71 h
              refine lv_iconst (v := (0 : Int32)) hx hb d_MO_readChannel_253 (by decide) ?_
              refine lv_istore (lv' := [(4, .int (0 : Int32)), (3, .int (1 : Int32)), (5, .int q39.1), (0, .ref (lay 0)), (1, .int a1), (2, .int a2)]) hx hb d_MO_readChannel_254 hl (by decide) rfl (fun ls hl => ?_)
              refine lv_iload hx hb d_MO_readChannel_256 (lv_at hl 0 rfl) ?_
              refine lv_if_eq (tgt := 283) hx hb d_MO_readChannel_258 (by decide) (fun c_63 => ?_) (fun c_63 => ?_)
              · have h := xif_t c_63 h
                refine lv_goto (tgt := 158) hx hb d_MO_readChannel_283 (by decide) ?_
                exact ih (xpi (xpi q43.2 22 (((4 : Int32) * a1) + (xgi q39.2 21 a1.toNatClampNeg)).toNatClampNeg q43.1) 21 a1.toNatClampNeg ((xgi (xpi q43.2 22 (((4 : Int32) * a1) + (xgi q39.2 21 a1.toNatClampNeg)).toNatClampNeg q43.1) 21 a1.toNatClampNeg) + (1 : Int32))) a1 a2 (1 : Int32) (0 : Int32) _ h H locs ls hP hS (lv_sub hl [3, 4, 5, 1, 0] rfl)
              · have h := xif_f c_63 h
                refine lv_aload_n hx hb d_MO_readChannel_261 rfl (lv_at hl 3 rfl) ?_
                obtain ⟨q58, e57, h⟩ := xb h
                refine mc_v (va_runV (As := []) (rest := []) ⟨hx, hb, hml, hown, hts⟩ (c_MO_next l D lay cA (xpi (xpi q43.2 22 (((4 : Int32) * a1) + (xgi q39.2 21 a1.toNatClampNeg)).toNatClampNeg q43.1) 21 a1.toNatClampNeg ((xgi (xpi q43.2 22 (((4 : Int32) * a1) + (xgi q39.2 21 a1.toNatClampNeg)).toNatClampNeg q43.1) 21 a1.toNatClampNeg) + (1 : Int32))) q58 e57) (cwV 0 hts (xT_V wd_841 wd_843 wp_21 wd_7 wd_844) rfl rfl rfl (by decide +kernel) ⟨Nat.le_of_ble_eq_true rfl, Nat.le_of_ble_eq_true rfl⟩) (mpV E hP hS (by decide) (mc_0 _ _ _ _) rfl) rfl rfl hl.1 rfl (lv_room (Nat.le_of_ble_eq_true rfl)) d_MO_readChannel_262 ⟨Nat.le_of_ble_eq_true rfl, Nat.le_of_ble_eq_true rfl⟩) hS (fun H locs hP hS => ?_)
                refine lv_aload_n hx hb d_MO_readChannel_265 rfl (lv_at hl 3 rfl) ?_
                refine va_get (v := .ref (lay 21)) (C := R_MO) (T := F_MO) (N := 41) hx hb hts i_MO hown hK hP 0 (mw_at (by decide) (mc_0 _ _ _ _)) rfl 37 (by decide) (hts _ wd_737) (fun _ h9 => h9) rfl d_MO_readChannel_266 ?_
                refine lv_iload_n hx hb d_MO_readChannel_269 rfl (lv_at hl 4 rfl) ?_
                obtain ⟨hg59, h⟩ := xg h
                refine mal_21 hx hb E hP hg59 d_MO_readChannel_270 ?_
                refine lv_iconst (v := (4 : Int32)) hx hb d_MO_readChannel_271 (by decide) ?_
                refine lv_icmp_ne (tgt := 283) hx hb d_MO_readChannel_272 (by decide) (fun c_62 => ?_) (fun c_62 => ?_)
                · have h := xif_f c_62 h
                  refine lv_goto (tgt := 158) hx hb d_MO_readChannel_283 (by decide) ?_
                  exact ih q58 a1 a2 (1 : Int32) (0 : Int32) _ h H locs ls hP hS (lv_sub hl [3, 4, 5, 1, 0] rfl)
                · have h := xif_t c_62 h
                  refine lv_aload_n hx hb d_MO_readChannel_275 rfl (lv_at hl 3 rfl) ?_
                  refine lv_iconst (v := (4 : Int32)) hx hb d_MO_readChannel_276 (by decide) ?_
                  obtain ⟨q61, e60, h⟩ := xb h
                  refine mc_v (va_runV (As := [.int (4 : Int32)]) (rest := []) ⟨hx, hb, hml, hown, hts⟩ (c_MO_bad l D lay cA q58 (4 : Int32) q61 e60) (cwV 1 hts (xT_V wd_886 wd_888 wp_30 wd_7 wd_889) rfl rfl rfl (by decide +kernel) ⟨Nat.le_of_ble_eq_true rfl, Nat.le_of_ble_eq_true rfl⟩) (mpV E hP hS (by decide) (mc_0 _ _ _ _) rfl) rfl rfl hl.1 rfl (lv_room (Nat.le_of_ble_eq_true rfl)) d_MO_readChannel_277 ⟨Nat.le_of_ble_eq_true rfl, Nat.le_of_ble_eq_true rfl⟩) hS (fun H locs hP hS => ?_)
                  refine lv_iconst (v := (0 : Int32)) hx hb d_MO_readChannel_280 (by decide) ?_
                  refine lv_istore (lv' := [(4, .int (0 : Int32)), (3, .int (1 : Int32)), (5, .int q39.1), (0, .ref (lay 0)), (1, .int a1), (2, .int a2)]) hx hb d_MO_readChannel_281 hl (by decide) rfl (fun ls hl => ?_)
                  refine lv_goto (tgt := 158) hx hb d_MO_readChannel_283 (by decide) ?_
                  exact ih q61 a1 a2 (1 : Int32) (0 : Int32) _ h H locs ls hP hS (lv_sub hl [3, 4, 5, 1, 0] rfl)
            · have h := xif_f c_71 h
              refine lv_iconst (v := (1 : Int32)) hx hb d_MO_readChannel_249 (by decide) ?_
              refine lv_goto (tgt := 254) hx hb d_MO_readChannel_250 (by decide) ?_
              refine lv_istore (lv' := [(4, .int (1 : Int32)), (3, .int (1 : Int32)), (5, .int q39.1), (0, .ref (lay 0)), (1, .int a1), (2, .int a2)]) hx hb d_MO_readChannel_254 hl (by decide) rfl (fun ls hl => ?_)
              refine lv_iload hx hb d_MO_readChannel_256 (lv_at hl 0 rfl) ?_
              refine lv_if_eq (tgt := 283) hx hb d_MO_readChannel_258 (by decide) (fun c_70 => ?_) (fun c_70 => ?_)
              · have h := xif_t c_70 h
                refine lv_goto (tgt := 158) hx hb d_MO_readChannel_283 (by decide) ?_
                exact ih (xpi (xpi q43.2 22 (((4 : Int32) * a1) + (xgi q39.2 21 a1.toNatClampNeg)).toNatClampNeg q43.1) 21 a1.toNatClampNeg ((xgi (xpi q43.2 22 (((4 : Int32) * a1) + (xgi q39.2 21 a1.toNatClampNeg)).toNatClampNeg q43.1) 21 a1.toNatClampNeg) + (1 : Int32))) a1 a2 (1 : Int32) (1 : Int32) _ h H locs ls hP hS (lv_sub hl [3, 4, 5, 1, 0] rfl)
              · have h := xif_f c_70 h
                refine lv_aload_n hx hb d_MO_readChannel_261 rfl (lv_at hl 3 rfl) ?_
                obtain ⟨q65, e64, h⟩ := xb h
                refine mc_v (va_runV (As := []) (rest := []) ⟨hx, hb, hml, hown, hts⟩ (c_MO_next l D lay cA (xpi (xpi q43.2 22 (((4 : Int32) * a1) + (xgi q39.2 21 a1.toNatClampNeg)).toNatClampNeg q43.1) 21 a1.toNatClampNeg ((xgi (xpi q43.2 22 (((4 : Int32) * a1) + (xgi q39.2 21 a1.toNatClampNeg)).toNatClampNeg q43.1) 21 a1.toNatClampNeg) + (1 : Int32))) q65 e64) (cwV 0 hts (xT_V wd_841 wd_843 wp_21 wd_7 wd_844) rfl rfl rfl (by decide +kernel) ⟨Nat.le_of_ble_eq_true rfl, Nat.le_of_ble_eq_true rfl⟩) (mpV E hP hS (by decide) (mc_0 _ _ _ _) rfl) rfl rfl hl.1 rfl (lv_room (Nat.le_of_ble_eq_true rfl)) d_MO_readChannel_262 ⟨Nat.le_of_ble_eq_true rfl, Nat.le_of_ble_eq_true rfl⟩) hS (fun H locs hP hS => ?_)
                refine lv_aload_n hx hb d_MO_readChannel_265 rfl (lv_at hl 3 rfl) ?_
                refine va_get (v := .ref (lay 21)) (C := R_MO) (T := F_MO) (N := 41) hx hb hts i_MO hown hK hP 0 (mw_at (by decide) (mc_0 _ _ _ _)) rfl 37 (by decide) (hts _ wd_737) (fun _ h9 => h9) rfl d_MO_readChannel_266 ?_
                refine lv_iload_n hx hb d_MO_readChannel_269 rfl (lv_at hl 4 rfl) ?_
                obtain ⟨hg66, h⟩ := xg h
                refine mal_21 hx hb E hP hg66 d_MO_readChannel_270 ?_
                refine lv_iconst (v := (4 : Int32)) hx hb d_MO_readChannel_271 (by decide) ?_
                refine lv_icmp_ne (tgt := 283) hx hb d_MO_readChannel_272 (by decide) (fun c_69 => ?_) (fun c_69 => ?_)
                · have h := xif_f c_69 h
                  refine lv_goto (tgt := 158) hx hb d_MO_readChannel_283 (by decide) ?_
                  exact ih q65 a1 a2 (1 : Int32) (1 : Int32) _ h H locs ls hP hS (lv_sub hl [3, 4, 5, 1, 0] rfl)
                · have h := xif_t c_69 h
                  refine lv_aload_n hx hb d_MO_readChannel_275 rfl (lv_at hl 3 rfl) ?_
                  refine lv_iconst (v := (4 : Int32)) hx hb d_MO_readChannel_276 (by decide) ?_
                  obtain ⟨q68, e67, h⟩ := xb h
                  refine mc_v (va_runV (As := [.int (4 : Int32)]) (rest := []) ⟨hx, hb, hml, hown, hts⟩ (c_MO_bad l D lay cA q65 (4 : Int32) q68 e67) (cwV 1 hts (xT_V wd_886 wd_888 wp_30 wd_7 wd_889) rfl rfl rfl (by decide +kernel) ⟨Nat.le_of_ble_eq_true rfl, Nat.le_of_ble_eq_true rfl⟩) (mpV E hP hS (by decide) (mc_0 _ _ _ _) rfl) rfl rfl hl.1 rfl (lv_room (Nat.le_of_ble_eq_true rfl)) d_MO_readChannel_277 ⟨Nat.le_of_ble_eq_true rfl, Nat.le_of_ble_eq_true rfl⟩) hS (fun H locs hP hS => ?_)
                  refine lv_iconst (v := (0 : Int32)) hx hb d_MO_readChannel_280 (by decide) ?_
                  refine lv_istore (lv' := [(4, .int (0 : Int32)), (3, .int (1 : Int32)), (5, .int q39.1), (0, .ref (lay 0)), (1, .int a1), (2, .int a2)]) hx hb d_MO_readChannel_281 hl (by decide) rfl (fun ls hl => ?_)
                  refine lv_goto (tgt := 158) hx hb d_MO_readChannel_283 (by decide) ?_
                  exact ih q68 a1 a2 (1 : Int32) (0 : Int32) _ h H locs ls hP hS (lv_sub hl [3, 4, 5, 1, 0] rfl)
        · have h := xif_f c_102 h
          refine lv_iconst (v := (-1 : Int32)) hx hb d_MO_readChannel_205 (by decide) ?_
          refine lv_goto (tgt := 220) hx hb d_MO_readChannel_206 (by decide) ?_
          obtain ⟨hg73, h⟩ := xg h
          refine mas_22 hx hb E hP hS hg73 d_MO_readChannel_220 (fun H locs hP hS => ?_)
          refine lv_aload_n hx hb d_MO_readChannel_221 rfl (lv_at hl 2 rfl) ?_
          refine va_get (v := .ref (lay 21)) (C := R_MO) (T := F_MO) (N := 41) hx hb hts i_MO hown hK hP 0 (mw_at (by decide) (mc_0 _ _ _ _)) rfl 37 (by decide) (hts _ wd_737) (fun _ h9 => h9) rfl d_MO_readChannel_222 ?_
          refine lv_iload_n hx hb d_MO_readChannel_225 rfl (lv_at hl 3 rfl) ?_
          refine lv_dup2_11 hx hb d_MO_readChannel_226 rfl rfl ?_
          obtain ⟨hg74, h⟩ := xg h
          refine mal_21 hx hb E hP hg74 d_MO_readChannel_227 ?_
          refine lv_iconst (v := (1 : Int32)) hx hb d_MO_readChannel_228 (by decide) ?_
          refine lv_iadd hx hb d_MO_readChannel_229 ?_
          obtain ⟨hg75, h⟩ := xg h
          refine mas_21 hx hb E hP hS hg75 d_MO_readChannel_230 (fun H locs hP hS => ?_)
          refine lv_aload_n hx hb d_MO_readChannel_231 rfl (lv_at hl 2 rfl) ?_
          refine va_get (v := .ref (lay 18)) (C := R_MO) (T := F_MO) (N := 41) hx hb hts i_MO hown hK hP 0 (mw_at (by decide) (mc_0 _ _ _ _)) rfl 34 (by decide) (hts _ wd_734) (fun _ h9 => h9) rfl d_MO_readChannel_232 ?_
          refine lv_iload_n hx hb d_MO_readChannel_235 rfl (lv_at hl 3 rfl) ?_
          obtain ⟨hg76, h⟩ := xg h
          refine mal_18 hx hb E hP hg76 d_MO_readChannel_236 ?_
          refine lv_if_ne (tgt := 253) hx hb d_MO_readChannel_237 (by decide) (fun c_101 => ?_) (fun c_101 => ?_)
          · have h := xif_f c_101 h
            refine lv_iconst (v := (0 : Int32)) hx hb d_MO_readChannel_253 (by decide) ?_
            refine lv_istore (lv' := [(4, .int (0 : Int32)), (3, .int (1 : Int32)), (5, .int q39.1), (0, .ref (lay 0)), (1, .int a1), (2, .int a2)]) hx hb d_MO_readChannel_254 hl (by decide) rfl (fun ls hl => ?_)
            refine lv_iload hx hb d_MO_readChannel_256 (lv_at hl 0 rfl) ?_
            refine lv_if_eq (tgt := 283) hx hb d_MO_readChannel_258 (by decide) (fun c_83 => ?_) (fun c_83 => ?_)
            · have h := xif_t c_83 h
              refine lv_goto (tgt := 158) hx hb d_MO_readChannel_283 (by decide) ?_
              exact ih (xpi (xpi q39.2 22 (((4 : Int32) * a1) + (xgi q39.2 21 a1.toNatClampNeg)).toNatClampNeg (-1 : Int32)) 21 a1.toNatClampNeg ((xgi (xpi q39.2 22 (((4 : Int32) * a1) + (xgi q39.2 21 a1.toNatClampNeg)).toNatClampNeg (-1 : Int32)) 21 a1.toNatClampNeg) + (1 : Int32))) a1 a2 (1 : Int32) (0 : Int32) _ h H locs ls hP hS (lv_sub hl [3, 4, 5, 1, 0] rfl)
            · have h := xif_f c_83 h
              refine lv_aload_n hx hb d_MO_readChannel_261 rfl (lv_at hl 3 rfl) ?_
              obtain ⟨q78, e77, h⟩ := xb h
              refine mc_v (va_runV (As := []) (rest := []) ⟨hx, hb, hml, hown, hts⟩ (c_MO_next l D lay cA (xpi (xpi q39.2 22 (((4 : Int32) * a1) + (xgi q39.2 21 a1.toNatClampNeg)).toNatClampNeg (-1 : Int32)) 21 a1.toNatClampNeg ((xgi (xpi q39.2 22 (((4 : Int32) * a1) + (xgi q39.2 21 a1.toNatClampNeg)).toNatClampNeg (-1 : Int32)) 21 a1.toNatClampNeg) + (1 : Int32))) q78 e77) (cwV 0 hts (xT_V wd_841 wd_843 wp_21 wd_7 wd_844) rfl rfl rfl (by decide +kernel) ⟨Nat.le_of_ble_eq_true rfl, Nat.le_of_ble_eq_true rfl⟩) (mpV E hP hS (by decide) (mc_0 _ _ _ _) rfl) rfl rfl hl.1 rfl (lv_room (Nat.le_of_ble_eq_true rfl)) d_MO_readChannel_262 ⟨Nat.le_of_ble_eq_true rfl, Nat.le_of_ble_eq_true rfl⟩) hS (fun H locs hP hS => ?_)
              refine lv_aload_n hx hb d_MO_readChannel_265 rfl (lv_at hl 3 rfl) ?_
              refine va_get (v := .ref (lay 21)) (C := R_MO) (T := F_MO) (N := 41) hx hb hts i_MO hown hK hP 0 (mw_at (by decide) (mc_0 _ _ _ _)) rfl 37 (by decide) (hts _ wd_737) (fun _ h9 => h9) rfl d_MO_readChannel_266 ?_
              refine lv_iload_n hx hb d_MO_readChannel_269 rfl (lv_at hl 4 rfl) ?_
              obtain ⟨hg79, h⟩ := xg h
              refine mal_21 hx hb E hP hg79 d_MO_readChannel_270 ?_
              refine lv_iconst (v := (4 : Int32)) hx hb d_MO_readChannel_271 (by decide) ?_
              refine lv_icmp_ne (tgt := 283) hx hb d_MO_readChannel_272 (by decide) (fun c_82 => ?_) (fun c_82 => ?_)
              · have h := xif_f c_82 h
                refine lv_goto (tgt := 158) hx hb d_MO_readChannel_283 (by decide) ?_
                exact ih q78 a1 a2 (1 : Int32) (0 : Int32) _ h H locs ls hP hS (lv_sub hl [3, 4, 5, 1, 0] rfl)
              · have h := xif_t c_82 h
                refine lv_aload_n hx hb d_MO_readChannel_275 rfl (lv_at hl 3 rfl) ?_
                refine lv_iconst (v := (4 : Int32)) hx hb d_MO_readChannel_276 (by decide) ?_
                obtain ⟨q81, e80, h⟩ := xb h
                refine mc_v (va_runV (As := [.int (4 : Int32)]) (rest := []) ⟨hx, hb, hml, hown, hts⟩ (c_MO_bad l D lay cA q78 (4 : Int32) q81 e80) (cwV 1 hts (xT_V wd_886 wd_888 wp_30 wd_7 wd_889) rfl rfl rfl (by decide +kernel) ⟨Nat.le_of_ble_eq_true rfl, Nat.le_of_ble_eq_true rfl⟩) (mpV E hP hS (by decide) (mc_0 _ _ _ _) rfl) rfl rfl hl.1 rfl (lv_room (Nat.le_of_ble_eq_true rfl)) d_MO_readChannel_277 ⟨Nat.le_of_ble_eq_true rfl, Nat.le_of_ble_eq_true rfl⟩) hS (fun H locs hP hS => ?_)
                refine lv_iconst (v := (0 : Int32)) hx hb d_MO_readChannel_280 (by decide) ?_
                refine lv_istore (lv' := [(4, .int (0 : Int32)), (3, .int (1 : Int32)), (5, .int q39.1), (0, .ref (lay 0)), (1, .int a1), (2, .int a2)]) hx hb d_MO_readChannel_281 hl (by decide) rfl (fun ls hl => ?_)
                refine lv_goto (tgt := 158) hx hb d_MO_readChannel_283 (by decide) ?_
                exact ih q81 a1 a2 (1 : Int32) (0 : Int32) _ h H locs ls hP hS (lv_sub hl [3, 4, 5, 1, 0] rfl)
          · have h := xif_t c_101 h
            refine lv_aload_n hx hb d_MO_readChannel_240 rfl (lv_at hl 2 rfl) ?_
            refine lv_bipush (v := (44 : Int32)) hx hb d_MO_readChannel_241 (by decide) ?_
            obtain ⟨q85, e84, h⟩ := xb h
            refine mc_i (va_runV (As := [.int (44 : Int32)]) (rest := []) ⟨hx, hb, hml, hown, hts⟩ (c_MO_isSign l D lay cA (xpi (xpi q39.2 22 (((4 : Int32) * a1) + (xgi q39.2 21 a1.toNatClampNeg)).toNatClampNeg (-1 : Int32)) 21 a1.toNatClampNeg ((xgi (xpi q39.2 22 (((4 : Int32) * a1) + (xgi q39.2 21 a1.toNatClampNeg)).toNatClampNeg (-1 : Int32)) 21 a1.toNatClampNeg) + (1 : Int32))) (44 : Int32) q85 e84) (cwV 1 hts (xT_V wd_906 wd_908 wp_35 wd_7 wd_909) rfl rfl rfl (by decide +kernel) ⟨Nat.le_of_ble_eq_true rfl, Nat.le_of_ble_eq_true rfl⟩) (mpV E hP hS (by decide) (mc_0 _ _ _ _) rfl) rfl rfl hl.1 rfl (lv_room (Nat.le_of_ble_eq_true rfl)) d_MO_readChannel_243 ⟨Nat.le_of_ble_eq_true rfl, Nat.le_of_ble_eq_true rfl⟩) hS (fun H locs hP hS => ?_)
            refine lv_if_eq (tgt := 253) hx hb d_MO_readChannel_246 (by decide) (fun c_100 => ?_) (fun c_100 => ?_)
            · have h := xif_t c_100 h
              refine lv_iconst (v := (0 : Int32)) hx hb d_MO_readChannel_253 (by decide) ?_
              refine lv_istore (lv' := [(4, .int (0 : Int32)), (3, .int (1 : Int32)), (5, .int q39.1), (0, .ref (lay 0)), (1, .int a1), (2, .int a2)]) hx hb d_MO_readChannel_254 hl (by decide) rfl (fun ls hl => ?_)
              refine lv_iload hx hb d_MO_readChannel_256 (lv_at hl 0 rfl) ?_
              refine lv_if_eq (tgt := 283) hx hb d_MO_readChannel_258 (by decide) (fun c_92 => ?_) (fun c_92 => ?_)
              · have h := xif_t c_92 h
                refine lv_goto (tgt := 158) hx hb d_MO_readChannel_283 (by decide) ?_
                exact ih (xpi (xpi q39.2 22 (((4 : Int32) * a1) + (xgi q39.2 21 a1.toNatClampNeg)).toNatClampNeg (-1 : Int32)) 21 a1.toNatClampNeg ((xgi (xpi q39.2 22 (((4 : Int32) * a1) + (xgi q39.2 21 a1.toNatClampNeg)).toNatClampNeg (-1 : Int32)) 21 a1.toNatClampNeg) + (1 : Int32))) a1 a2 (1 : Int32) (0 : Int32) _ h H locs ls hP hS (lv_sub hl [3, 4, 5, 1, 0] rfl)
              · have h := xif_f c_92 h
                refine lv_aload_n hx hb d_MO_readChannel_261 rfl (lv_at hl 3 rfl) ?_
                obtain ⟨q87, e86, h⟩ := xb h
                refine mc_v (va_runV (As := []) (rest := []) ⟨hx, hb, hml, hown, hts⟩ (c_MO_next l D lay cA (xpi (xpi q39.2 22 (((4 : Int32) * a1) + (xgi q39.2 21 a1.toNatClampNeg)).toNatClampNeg (-1 : Int32)) 21 a1.toNatClampNeg ((xgi (xpi q39.2 22 (((4 : Int32) * a1) + (xgi q39.2 21 a1.toNatClampNeg)).toNatClampNeg (-1 : Int32)) 21 a1.toNatClampNeg) + (1 : Int32))) q87 e86) (cwV 0 hts (xT_V wd_841 wd_843 wp_21 wd_7 wd_844) rfl rfl rfl (by decide +kernel) ⟨Nat.le_of_ble_eq_true rfl, Nat.le_of_ble_eq_true rfl⟩) (mpV E hP hS (by decide) (mc_0 _ _ _ _) rfl) rfl rfl hl.1 rfl (lv_room (Nat.le_of_ble_eq_true rfl)) d_MO_readChannel_262 ⟨Nat.le_of_ble_eq_true rfl, Nat.le_of_ble_eq_true rfl⟩) hS (fun H locs hP hS => ?_)
                refine lv_aload_n hx hb d_MO_readChannel_265 rfl (lv_at hl 3 rfl) ?_
                refine va_get (v := .ref (lay 21)) (C := R_MO) (T := F_MO) (N := 41) hx hb hts i_MO hown hK hP 0 (mw_at (by decide) (mc_0 _ _ _ _)) rfl 37 (by decide) (hts _ wd_737) (fun _ h9 => h9) rfl d_MO_readChannel_266 ?_
                refine lv_iload_n hx hb d_MO_readChannel_269 rfl (lv_at hl 4 rfl) ?_
                obtain ⟨hg88, h⟩ := xg h
                refine mal_21 hx hb E hP hg88 d_MO_readChannel_270 ?_
                refine lv_iconst (v := (4 : Int32)) hx hb d_MO_readChannel_271 (by decide) ?_
                refine lv_icmp_ne (tgt := 283) hx hb d_MO_readChannel_272 (by decide) (fun c_91 => ?_) (fun c_91 => ?_)
                · have h := xif_f c_91 h
                  refine lv_goto (tgt := 158) hx hb d_MO_readChannel_283 (by decide) ?_
                  exact ih q87 a1 a2 (1 : Int32) (0 : Int32) _ h H locs ls hP hS (lv_sub hl [3, 4, 5, 1, 0] rfl)
                · have h := xif_t c_91 h
                  refine lv_aload_n hx hb d_MO_readChannel_275 rfl (lv_at hl 3 rfl) ?_
                  refine lv_iconst (v := (4 : Int32)) hx hb d_MO_readChannel_276 (by decide) ?_
                  obtain ⟨q90, e89, h⟩ := xb h
                  refine mc_v (va_runV (As := [.int (4 : Int32)]) (rest := []) ⟨hx, hb, hml, hown, hts⟩ (c_MO_bad l D lay cA q87 (4 : Int32) q90 e89) (cwV 1 hts (xT_V wd_886 wd_888 wp_30 wd_7 wd_889) rfl rfl rfl (by decide +kernel) ⟨Nat.le_of_ble_eq_true rfl, Nat.le_of_ble_eq_true rfl⟩) (mpV E hP hS (by decide) (mc_0 _ _ _ _) rfl) rfl rfl hl.1 rfl (lv_room (Nat.le_of_ble_eq_true rfl)) d_MO_readChannel_277 ⟨Nat.le_of_ble_eq_true rfl, Nat.le_of_ble_eq_true rfl⟩) hS (fun H locs hP hS => ?_)
                  refine lv_iconst (v := (0 : Int32)) hx hb d_MO_readChannel_280 (by decide) ?_
                  refine lv_istore (lv' := [(4, .int (0 : Int32)), (3, .int (1 : Int32)), (5, .int q39.1), (0, .ref (lay 0)), (1, .int a1), (2, .int a2)]) hx hb d_MO_readChannel_281 hl (by decide) rfl (fun ls hl => ?_)
                  refine lv_goto (tgt := 158) hx hb d_MO_readChannel_283 (by decide) ?_
                  exact ih q90 a1 a2 (1 : Int32) (0 : Int32) _ h H locs ls hP hS (lv_sub hl [3, 4, 5, 1, 0] rfl)
            · have h := xif_f c_100 h
              refine lv_iconst (v := (1 : Int32)) hx hb d_MO_readChannel_249 (by decide) ?_
              refine lv_goto (tgt := 254) hx hb d_MO_readChannel_250 (by decide) ?_
              refine lv_istore (lv' := [(4, .int (1 : Int32)), (3, .int (1 : Int32)), (5, .int q39.1), (0, .ref (lay 0)), (1, .int a1), (2, .int a2)]) hx hb d_MO_readChannel_254 hl (by decide) rfl (fun ls hl => ?_)
              refine lv_iload hx hb d_MO_readChannel_256 (lv_at hl 0 rfl) ?_
              refine lv_if_eq (tgt := 283) hx hb d_MO_readChannel_258 (by decide) (fun c_99 => ?_) (fun c_99 => ?_)
              · have h := xif_t c_99 h
                refine lv_goto (tgt := 158) hx hb d_MO_readChannel_283 (by decide) ?_
                exact ih (xpi (xpi q39.2 22 (((4 : Int32) * a1) + (xgi q39.2 21 a1.toNatClampNeg)).toNatClampNeg (-1 : Int32)) 21 a1.toNatClampNeg ((xgi (xpi q39.2 22 (((4 : Int32) * a1) + (xgi q39.2 21 a1.toNatClampNeg)).toNatClampNeg (-1 : Int32)) 21 a1.toNatClampNeg) + (1 : Int32))) a1 a2 (1 : Int32) (1 : Int32) _ h H locs ls hP hS (lv_sub hl [3, 4, 5, 1, 0] rfl)
              · have h := xif_f c_99 h
                refine lv_aload_n hx hb d_MO_readChannel_261 rfl (lv_at hl 3 rfl) ?_
                obtain ⟨q94, e93, h⟩ := xb h
                refine mc_v (va_runV (As := []) (rest := []) ⟨hx, hb, hml, hown, hts⟩ (c_MO_next l D lay cA (xpi (xpi q39.2 22 (((4 : Int32) * a1) + (xgi q39.2 21 a1.toNatClampNeg)).toNatClampNeg (-1 : Int32)) 21 a1.toNatClampNeg ((xgi (xpi q39.2 22 (((4 : Int32) * a1) + (xgi q39.2 21 a1.toNatClampNeg)).toNatClampNeg (-1 : Int32)) 21 a1.toNatClampNeg) + (1 : Int32))) q94 e93) (cwV 0 hts (xT_V wd_841 wd_843 wp_21 wd_7 wd_844) rfl rfl rfl (by decide +kernel) ⟨Nat.le_of_ble_eq_true rfl, Nat.le_of_ble_eq_true rfl⟩) (mpV E hP hS (by decide) (mc_0 _ _ _ _) rfl) rfl rfl hl.1 rfl (lv_room (Nat.le_of_ble_eq_true rfl)) d_MO_readChannel_262 ⟨Nat.le_of_ble_eq_true rfl, Nat.le_of_ble_eq_true rfl⟩) hS (fun H locs hP hS => ?_)
                refine lv_aload_n hx hb d_MO_readChannel_265 rfl (lv_at hl 3 rfl) ?_
                refine va_get (v := .ref (lay 21)) (C := R_MO) (T := F_MO) (N := 41) hx hb hts i_MO hown hK hP 0 (mw_at (by decide) (mc_0 _ _ _ _)) rfl 37 (by decide) (hts _ wd_737) (fun _ h9 => h9) rfl d_MO_readChannel_266 ?_
                refine lv_iload_n hx hb d_MO_readChannel_269 rfl (lv_at hl 4 rfl) ?_
                obtain ⟨hg95, h⟩ := xg h
                refine mal_21 hx hb E hP hg95 d_MO_readChannel_270 ?_
                refine lv_iconst (v := (4 : Int32)) hx hb d_MO_readChannel_271 (by decide) ?_
                refine lv_icmp_ne (tgt := 283) hx hb d_MO_readChannel_272 (by decide) (fun c_98 => ?_) (fun c_98 => ?_)
                · have h := xif_f c_98 h
                  refine lv_goto (tgt := 158) hx hb d_MO_readChannel_283 (by decide) ?_
                  exact ih q94 a1 a2 (1 : Int32) (1 : Int32) _ h H locs ls hP hS (lv_sub hl [3, 4, 5, 1, 0] rfl)
                · have h := xif_t c_98 h
                  refine lv_aload_n hx hb d_MO_readChannel_275 rfl (lv_at hl 3 rfl) ?_
                  refine lv_iconst (v := (4 : Int32)) hx hb d_MO_readChannel_276 (by decide) ?_
                  obtain ⟨q97, e96, h⟩ := xb h
                  refine mc_v (va_runV (As := [.int (4 : Int32)]) (rest := []) ⟨hx, hb, hml, hown, hts⟩ (c_MO_bad l D lay cA q94 (4 : Int32) q97 e96) (cwV 1 hts (xT_V wd_886 wd_888 wp_30 wd_7 wd_889) rfl rfl rfl (by decide +kernel) ⟨Nat.le_of_ble_eq_true rfl, Nat.le_of_ble_eq_true rfl⟩) (mpV E hP hS (by decide) (mc_0 _ _ _ _) rfl) rfl rfl hl.1 rfl (lv_room (Nat.le_of_ble_eq_true rfl)) d_MO_readChannel_277 ⟨Nat.le_of_ble_eq_true rfl, Nat.le_of_ble_eq_true rfl⟩) hS (fun H locs hP hS => ?_)
                  refine lv_iconst (v := (0 : Int32)) hx hb d_MO_readChannel_280 (by decide) ?_
                  refine lv_istore (lv' := [(4, .int (0 : Int32)), (3, .int (1 : Int32)), (5, .int q39.1), (0, .ref (lay 0)), (1, .int a1), (2, .int a2)]) hx hb d_MO_readChannel_281 hl (by decide) rfl (fun ls hl => ?_)
                  refine lv_goto (tgt := 158) hx hb d_MO_readChannel_283 (by decide) ?_
                  exact ih q97 a1 a2 (1 : Int32) (0 : Int32) _ h H locs ls hP hS (lv_sub hl [3, 4, 5, 1, 0] rfl)
      · have h := xif_t c_230 h
        refine lv_iload hx hb d_MO_readChannel_175 (lv_at hl 0 rfl) ?_
        refine lv_if_eq (tgt := 184) hx hb d_MO_readChannel_177 (by decide) (fun c_229 => ?_) (fun c_229 => ?_)
        · have h := xif_t c_229 h
          refine lv_iconst (v := (0 : Int32)) hx hb d_MO_readChannel_184 (by decide) ?_
          refine lv_istore_n (lv' := [(3, .int (0 : Int32)), (5, .int q39.1), (0, .ref (lay 0)), (1, .int a1), (2, .int a2), (4, .int a4)]) hx hb d_MO_readChannel_185 rfl hl (by decide) rfl (fun ls hl => ?_)
          refine lv_aload_n hx hb d_MO_readChannel_186 rfl (lv_at hl 2 rfl) ?_
          refine va_get (v := .ref (lay 22)) (C := R_MO) (T := F_MO) (N := 41) hx hb hts i_MO hown hK hP 0 (mw_at (by decide) (mc_0 _ _ _ _)) rfl 38 (by decide) (hts _ wd_738) (fun _ h9 => h9) rfl d_MO_readChannel_187 ?_
          refine lv_iconst (v := (4 : Int32)) hx hb d_MO_readChannel_190 (by decide) ?_
          refine lv_iload_n hx hb d_MO_readChannel_191 rfl (lv_at hl 3 rfl) ?_
          refine lv_imul hx hb d_MO_readChannel_192 ?_
          refine lv_aload_n hx hb d_MO_readChannel_193 rfl (lv_at hl 2 rfl) ?_
          refine va_get (v := .ref (lay 21)) (C := R_MO) (T := F_MO) (N := 41) hx hb hts i_MO hown hK hP 0 (mw_at (by decide) (mc_0 _ _ _ _)) rfl 37 (by decide) (hts _ wd_737) (fun _ h9 => h9) rfl d_MO_readChannel_194 ?_
          refine lv_iload_n hx hb d_MO_readChannel_197 rfl (lv_at hl 3 rfl) ?_
          obtain ⟨hg103, h⟩ := xg h
          refine mal_21 hx hb E hP hg103 d_MO_readChannel_198 ?_
          refine lv_iadd hx hb d_MO_readChannel_199 ?_
          refine lv_iload hx hb d_MO_readChannel_200 (lv_at hl 1 rfl) ?_
          refine lv_if_eq (tgt := 209) hx hb d_MO_readChannel_202 (by decide) (fun c_165 => ?_) (fun c_165 => ?_)
          · have h := xif_t c_165 h
            refine lv_aload_n hx hb d_MO_readChannel_209 rfl (lv_at hl 2 rfl) ?_
            refine lv_iconst (v := (0 : Int32)) hx hb d_MO_readChannel_210 (by decide) ?_
            refine lv_aload_n hx hb d_MO_readChannel_211 rfl (lv_at hl 2 rfl) ?_
            refine va_get (v := .ref (lay 18)) (C := R_MO) (T := F_MO) (N := 41) hx hb hts i_MO hown hK hP 0 (mw_at (by decide) (mc_0 _ _ _ _)) rfl 34 (by decide) (hts _ wd_734) (fun _ h9 => h9) rfl d_MO_readChannel_212 ?_
            refine lv_iload_n hx hb d_MO_readChannel_215 rfl (lv_at hl 3 rfl) ?_
            obtain ⟨hg104, h⟩ := xg h
            refine mal_18 hx hb E hP hg104 d_MO_readChannel_216 ?_
            obtain ⟨q106, e105, h⟩ := xb h
            refine mc_i (va_runV (As := [.int (0 : Int32), .int (xgi q39.2 18 a1.toNatClampNeg)]) (rest := [.int (((4 : Int32) * a1) + (xgi q39.2 21 a1.toNatClampNeg)), .ref (lay 22)]) ⟨hx, hb, hml, hown, hts⟩ (c_MO_readEnd l D lay cA q39.2 (0 : Int32) (xgi q39.2 18 a1.toNatClampNeg) q106 e105) (cwV 2 hts (xT_V wd_978 wd_980 wp_52 wd_7 wd_981) rfl rfl rfl (by decide +kernel) ⟨Nat.le_of_ble_eq_true rfl, Nat.le_of_ble_eq_true rfl⟩) (mpV E hP hS (by decide) (mc_0 _ _ _ _) rfl) rfl rfl hl.1 rfl (lv_room (Nat.le_of_ble_eq_true rfl)) d_MO_readChannel_217 ⟨Nat.le_of_ble_eq_true rfl, Nat.le_of_ble_eq_true rfl⟩) hS (fun H locs hP hS => ?_)
            obtain ⟨hg107, h⟩ := xg h
            refine mas_22 hx hb E hP hS hg107 d_MO_readChannel_220 (fun H locs hP hS => ?_)
            refine lv_aload_n hx hb d_MO_readChannel_221 rfl (lv_at hl 2 rfl) ?_
            refine va_get (v := .ref (lay 21)) (C := R_MO) (T := F_MO) (N := 41) hx hb hts i_MO hown hK hP 0 (mw_at (by decide) (mc_0 _ _ _ _)) rfl 37 (by decide) (hts _ wd_737) (fun _ h9 => h9) rfl d_MO_readChannel_222 ?_
            refine lv_iload_n hx hb d_MO_readChannel_225 rfl (lv_at hl 3 rfl) ?_
            refine lv_dup2_11 hx hb d_MO_readChannel_226 rfl rfl ?_
            obtain ⟨hg108, h⟩ := xg h
            refine mal_21 hx hb E hP hg108 d_MO_readChannel_227 ?_
            refine lv_iconst (v := (1 : Int32)) hx hb d_MO_readChannel_228 (by decide) ?_
            refine lv_iadd hx hb d_MO_readChannel_229 ?_
            obtain ⟨hg109, h⟩ := xg h
            refine mas_21 hx hb E hP hS hg109 d_MO_readChannel_230 (fun H locs hP hS => ?_)
            refine lv_aload_n hx hb d_MO_readChannel_231 rfl (lv_at hl 2 rfl) ?_
            refine va_get (v := .ref (lay 18)) (C := R_MO) (T := F_MO) (N := 41) hx hb hts i_MO hown hK hP 0 (mw_at (by decide) (mc_0 _ _ _ _)) rfl 34 (by decide) (hts _ wd_734) (fun _ h9 => h9) rfl d_MO_readChannel_232 ?_
            refine lv_iload_n hx hb d_MO_readChannel_235 rfl (lv_at hl 3 rfl) ?_
            obtain ⟨hg110, h⟩ := xg h
            refine mal_18 hx hb E hP hg110 d_MO_readChannel_236 ?_
            refine lv_if_ne (tgt := 253) hx hb d_MO_readChannel_237 (by decide) (fun c_135 => ?_) (fun c_135 => ?_)
            · have h := xif_f c_135 h
              refine lv_iconst (v := (0 : Int32)) hx hb d_MO_readChannel_253 (by decide) ?_
              refine lv_istore (lv' := [(4, .int (0 : Int32)), (3, .int (0 : Int32)), (5, .int q39.1), (0, .ref (lay 0)), (1, .int a1), (2, .int a2)]) hx hb d_MO_readChannel_254 hl (by decide) rfl (fun ls hl => ?_)
              refine lv_iload hx hb d_MO_readChannel_256 (lv_at hl 0 rfl) ?_
              refine lv_if_eq (tgt := 283) hx hb d_MO_readChannel_258 (by decide) (fun c_117 => ?_) (fun c_117 => ?_)
              · have h := xif_t c_117 h
                refine lv_goto (tgt := 158) hx hb d_MO_readChannel_283 (by decide) ?_
                exact ih (xpi (xpi q106.2 22 (((4 : Int32) * a1) + (xgi q39.2 21 a1.toNatClampNeg)).toNatClampNeg q106.1) 21 a1.toNatClampNeg ((xgi (xpi q106.2 22 (((4 : Int32) * a1) + (xgi q39.2 21 a1.toNatClampNeg)).toNatClampNeg q106.1) 21 a1.toNatClampNeg) + (1 : Int32))) a1 a2 (0 : Int32) (0 : Int32) _ h H locs ls hP hS (lv_sub hl [3, 4, 5, 1, 0] rfl)
              · have h := xif_f c_117 h
                refine lv_aload_n hx hb d_MO_readChannel_261 rfl (lv_at hl 3 rfl) ?_
                obtain ⟨q112, e111, h⟩ := xb h
                refine mc_v (va_runV (As := []) (rest := []) ⟨hx, hb, hml, hown, hts⟩ (c_MO_next l D lay cA (xpi (xpi q106.2 22 (((4 : Int32) * a1) + (xgi q39.2 21 a1.toNatClampNeg)).toNatClampNeg q106.1) 21 a1.toNatClampNeg ((xgi (xpi q106.2 22 (((4 : Int32) * a1) + (xgi q39.2 21 a1.toNatClampNeg)).toNatClampNeg q106.1) 21 a1.toNatClampNeg) + (1 : Int32))) q112 e111) (cwV 0 hts (xT_V wd_841 wd_843 wp_21 wd_7 wd_844) rfl rfl rfl (by decide +kernel) ⟨Nat.le_of_ble_eq_true rfl, Nat.le_of_ble_eq_true rfl⟩) (mpV E hP hS (by decide) (mc_0 _ _ _ _) rfl) rfl rfl hl.1 rfl (lv_room (Nat.le_of_ble_eq_true rfl)) d_MO_readChannel_262 ⟨Nat.le_of_ble_eq_true rfl, Nat.le_of_ble_eq_true rfl⟩) hS (fun H locs hP hS => ?_)
                refine lv_aload_n hx hb d_MO_readChannel_265 rfl (lv_at hl 3 rfl) ?_
                refine va_get (v := .ref (lay 21)) (C := R_MO) (T := F_MO) (N := 41) hx hb hts i_MO hown hK hP 0 (mw_at (by decide) (mc_0 _ _ _ _)) rfl 37 (by decide) (hts _ wd_737) (fun _ h9 => h9) rfl d_MO_readChannel_266 ?_
                refine lv_iload_n hx hb d_MO_readChannel_269 rfl (lv_at hl 4 rfl) ?_
                obtain ⟨hg113, h⟩ := xg h
                refine mal_21 hx hb E hP hg113 d_MO_readChannel_270 ?_
                refine lv_iconst (v := (4 : Int32)) hx hb d_MO_readChannel_271 (by decide) ?_
                refine lv_icmp_ne (tgt := 283) hx hb d_MO_readChannel_272 (by decide) (fun c_116 => ?_) (fun c_116 => ?_)
                · have h := xif_f c_116 h
                  refine lv_goto (tgt := 158) hx hb d_MO_readChannel_283 (by decide) ?_
                  exact ih q112 a1 a2 (0 : Int32) (0 : Int32) _ h H locs ls hP hS (lv_sub hl [3, 4, 5, 1, 0] rfl)
                · have h := xif_t c_116 h
                  refine lv_aload_n hx hb d_MO_readChannel_275 rfl (lv_at hl 3 rfl) ?_
                  refine lv_iconst (v := (4 : Int32)) hx hb d_MO_readChannel_276 (by decide) ?_
                  obtain ⟨q115, e114, h⟩ := xb h
                  refine mc_v (va_runV (As := [.int (4 : Int32)]) (rest := []) ⟨hx, hb, hml, hown, hts⟩ (c_MO_bad l D lay cA q112 (4 : Int32) q115 e114) (cwV 1 hts (xT_V wd_886 wd_888 wp_30 wd_7 wd_889) rfl rfl rfl (by decide +kernel) ⟨Nat.le_of_ble_eq_true rfl, Nat.le_of_ble_eq_true rfl⟩) (mpV E hP hS (by decide) (mc_0 _ _ _ _) rfl) rfl rfl hl.1 rfl (lv_room (Nat.le_of_ble_eq_true rfl)) d_MO_readChannel_277 ⟨Nat.le_of_ble_eq_true rfl, Nat.le_of_ble_eq_true rfl⟩) hS (fun H locs hP hS => ?_)
                  refine lv_iconst (v := (0 : Int32)) hx hb d_MO_readChannel_280 (by decide) ?_
                  refine lv_istore (lv' := [(4, .int (0 : Int32)), (3, .int (0 : Int32)), (5, .int q39.1), (0, .ref (lay 0)), (1, .int a1), (2, .int a2)]) hx hb d_MO_readChannel_281 hl (by decide) rfl (fun ls hl => ?_)
                  refine lv_goto (tgt := 158) hx hb d_MO_readChannel_283 (by decide) ?_
                  exact ih q115 a1 a2 (0 : Int32) (0 : Int32) _ h H locs ls hP hS (lv_sub hl [3, 4, 5, 1, 0] rfl)
            · have h := xif_t c_135 h
              refine lv_aload_n hx hb d_MO_readChannel_240 rfl (lv_at hl 2 rfl) ?_
              refine lv_bipush (v := (44 : Int32)) hx hb d_MO_readChannel_241 (by decide) ?_
              obtain ⟨q119, e118, h⟩ := xb h
              refine mc_i (va_runV (As := [.int (44 : Int32)]) (rest := []) ⟨hx, hb, hml, hown, hts⟩ (c_MO_isSign l D lay cA (xpi (xpi q106.2 22 (((4 : Int32) * a1) + (xgi q39.2 21 a1.toNatClampNeg)).toNatClampNeg q106.1) 21 a1.toNatClampNeg ((xgi (xpi q106.2 22 (((4 : Int32) * a1) + (xgi q39.2 21 a1.toNatClampNeg)).toNatClampNeg q106.1) 21 a1.toNatClampNeg) + (1 : Int32))) (44 : Int32) q119 e118) (cwV 1 hts (xT_V wd_906 wd_908 wp_35 wd_7 wd_909) rfl rfl rfl (by decide +kernel) ⟨Nat.le_of_ble_eq_true rfl, Nat.le_of_ble_eq_true rfl⟩) (mpV E hP hS (by decide) (mc_0 _ _ _ _) rfl) rfl rfl hl.1 rfl (lv_room (Nat.le_of_ble_eq_true rfl)) d_MO_readChannel_243 ⟨Nat.le_of_ble_eq_true rfl, Nat.le_of_ble_eq_true rfl⟩) hS (fun H locs hP hS => ?_)
              refine lv_if_eq (tgt := 253) hx hb d_MO_readChannel_246 (by decide) (fun c_134 => ?_) (fun c_134 => ?_)
              · have h := xif_t c_134 h
                refine lv_iconst (v := (0 : Int32)) hx hb d_MO_readChannel_253 (by decide) ?_
                refine lv_istore (lv' := [(4, .int (0 : Int32)), (3, .int (0 : Int32)), (5, .int q39.1), (0, .ref (lay 0)), (1, .int a1), (2, .int a2)]) hx hb d_MO_readChannel_254 hl (by decide) rfl (fun ls hl => ?_)
                refine lv_iload hx hb d_MO_readChannel_256 (lv_at hl 0 rfl) ?_
                refine lv_if_eq (tgt := 283) hx hb d_MO_readChannel_258 (by decide) (fun c_126 => ?_) (fun c_126 => ?_)
                · have h := xif_t c_126 h
                  refine lv_goto (tgt := 158) hx hb d_MO_readChannel_283 (by decide) ?_
                  exact ih (xpi (xpi q106.2 22 (((4 : Int32) * a1) + (xgi q39.2 21 a1.toNatClampNeg)).toNatClampNeg q106.1) 21 a1.toNatClampNeg ((xgi (xpi q106.2 22 (((4 : Int32) * a1) + (xgi q39.2 21 a1.toNatClampNeg)).toNatClampNeg q106.1) 21 a1.toNatClampNeg) + (1 : Int32))) a1 a2 (0 : Int32) (0 : Int32) _ h H locs ls hP hS (lv_sub hl [3, 4, 5, 1, 0] rfl)
                · have h := xif_f c_126 h
                  refine lv_aload_n hx hb d_MO_readChannel_261 rfl (lv_at hl 3 rfl) ?_
                  obtain ⟨q121, e120, h⟩ := xb h
                  refine mc_v (va_runV (As := []) (rest := []) ⟨hx, hb, hml, hown, hts⟩ (c_MO_next l D lay cA (xpi (xpi q106.2 22 (((4 : Int32) * a1) + (xgi q39.2 21 a1.toNatClampNeg)).toNatClampNeg q106.1) 21 a1.toNatClampNeg ((xgi (xpi q106.2 22 (((4 : Int32) * a1) + (xgi q39.2 21 a1.toNatClampNeg)).toNatClampNeg q106.1) 21 a1.toNatClampNeg) + (1 : Int32))) q121 e120) (cwV 0 hts (xT_V wd_841 wd_843 wp_21 wd_7 wd_844) rfl rfl rfl (by decide +kernel) ⟨Nat.le_of_ble_eq_true rfl, Nat.le_of_ble_eq_true rfl⟩) (mpV E hP hS (by decide) (mc_0 _ _ _ _) rfl) rfl rfl hl.1 rfl (lv_room (Nat.le_of_ble_eq_true rfl)) d_MO_readChannel_262 ⟨Nat.le_of_ble_eq_true rfl, Nat.le_of_ble_eq_true rfl⟩) hS (fun H locs hP hS => ?_)
                  refine lv_aload_n hx hb d_MO_readChannel_265 rfl (lv_at hl 3 rfl) ?_
                  refine va_get (v := .ref (lay 21)) (C := R_MO) (T := F_MO) (N := 41) hx hb hts i_MO hown hK hP 0 (mw_at (by decide) (mc_0 _ _ _ _)) rfl 37 (by decide) (hts _ wd_737) (fun _ h9 => h9) rfl d_MO_readChannel_266 ?_
                  refine lv_iload_n hx hb d_MO_readChannel_269 rfl (lv_at hl 4 rfl) ?_
                  obtain ⟨hg122, h⟩ := xg h
                  refine mal_21 hx hb E hP hg122 d_MO_readChannel_270 ?_
                  refine lv_iconst (v := (4 : Int32)) hx hb d_MO_readChannel_271 (by decide) ?_
                  refine lv_icmp_ne (tgt := 283) hx hb d_MO_readChannel_272 (by decide) (fun c_125 => ?_) (fun c_125 => ?_)
                  · have h := xif_f c_125 h
                    refine lv_goto (tgt := 158) hx hb d_MO_readChannel_283 (by decide) ?_
                    exact ih q121 a1 a2 (0 : Int32) (0 : Int32) _ h H locs ls hP hS (lv_sub hl [3, 4, 5, 1, 0] rfl)
                  · have h := xif_t c_125 h
                    refine lv_aload_n hx hb d_MO_readChannel_275 rfl (lv_at hl 3 rfl) ?_
                    refine lv_iconst (v := (4 : Int32)) hx hb d_MO_readChannel_276 (by decide) ?_
                    obtain ⟨q124, e123, h⟩ := xb h
                    refine mc_v (va_runV (As := [.int (4 : Int32)]) (rest := []) ⟨hx, hb, hml, hown, hts⟩ (c_MO_bad l D lay cA q121 (4 : Int32) q124 e123) (cwV 1 hts (xT_V wd_886 wd_888 wp_30 wd_7 wd_889) rfl rfl rfl (by decide +kernel) ⟨Nat.le_of_ble_eq_true rfl, Nat.le_of_ble_eq_true rfl⟩) (mpV E hP hS (by decide) (mc_0 _ _ _ _) rfl) rfl rfl hl.1 rfl (lv_room (Nat.le_of_ble_eq_true rfl)) d_MO_readChannel_277 ⟨Nat.le_of_ble_eq_true rfl, Nat.le_of_ble_eq_true rfl⟩) hS (fun H locs hP hS => ?_)
                    refine lv_iconst (v := (0 : Int32)) hx hb d_MO_readChannel_280 (by decide) ?_
                    refine lv_istore (lv' := [(4, .int (0 : Int32)), (3, .int (0 : Int32)), (5, .int q39.1), (0, .ref (lay 0)), (1, .int a1), (2, .int a2)]) hx hb d_MO_readChannel_281 hl (by decide) rfl (fun ls hl => ?_)
                    refine lv_goto (tgt := 158) hx hb d_MO_readChannel_283 (by decide) ?_
                    exact ih q124 a1 a2 (0 : Int32) (0 : Int32) _ h H locs ls hP hS (lv_sub hl [3, 4, 5, 1, 0] rfl)
              · have h := xif_f c_134 h
                refine lv_iconst (v := (1 : Int32)) hx hb d_MO_readChannel_249 (by decide) ?_
                refine lv_goto (tgt := 254) hx hb d_MO_readChannel_250 (by decide) ?_
                refine lv_istore (lv' := [(4, .int (1 : Int32)), (3, .int (0 : Int32)), (5, .int q39.1), (0, .ref (lay 0)), (1, .int a1), (2, .int a2)]) hx hb d_MO_readChannel_254 hl (by decide) rfl (fun ls hl => ?_)
                refine lv_iload hx hb d_MO_readChannel_256 (lv_at hl 0 rfl) ?_
                refine lv_if_eq (tgt := 283) hx hb d_MO_readChannel_258 (by decide) (fun c_133 => ?_) (fun c_133 => ?_)
                · have h := xif_t c_133 h
                  refine lv_goto (tgt := 158) hx hb d_MO_readChannel_283 (by decide) ?_
                  exact ih (xpi (xpi q106.2 22 (((4 : Int32) * a1) + (xgi q39.2 21 a1.toNatClampNeg)).toNatClampNeg q106.1) 21 a1.toNatClampNeg ((xgi (xpi q106.2 22 (((4 : Int32) * a1) + (xgi q39.2 21 a1.toNatClampNeg)).toNatClampNeg q106.1) 21 a1.toNatClampNeg) + (1 : Int32))) a1 a2 (0 : Int32) (1 : Int32) _ h H locs ls hP hS (lv_sub hl [3, 4, 5, 1, 0] rfl)
                · have h := xif_f c_133 h
                  refine lv_aload_n hx hb d_MO_readChannel_261 rfl (lv_at hl 3 rfl) ?_
                  obtain ⟨q128, e127, h⟩ := xb h
                  refine mc_v (va_runV (As := []) (rest := []) ⟨hx, hb, hml, hown, hts⟩ (c_MO_next l D lay cA (xpi (xpi q106.2 22 (((4 : Int32) * a1) + (xgi q39.2 21 a1.toNatClampNeg)).toNatClampNeg q106.1) 21 a1.toNatClampNeg ((xgi (xpi q106.2 22 (((4 : Int32) * a1) + (xgi q39.2 21 a1.toNatClampNeg)).toNatClampNeg q106.1) 21 a1.toNatClampNeg) + (1 : Int32))) q128 e127) (cwV 0 hts (xT_V wd_841 wd_843 wp_21 wd_7 wd_844) rfl rfl rfl (by decide +kernel) ⟨Nat.le_of_ble_eq_true rfl, Nat.le_of_ble_eq_true rfl⟩) (mpV E hP hS (by decide) (mc_0 _ _ _ _) rfl) rfl rfl hl.1 rfl (lv_room (Nat.le_of_ble_eq_true rfl)) d_MO_readChannel_262 ⟨Nat.le_of_ble_eq_true rfl, Nat.le_of_ble_eq_true rfl⟩) hS (fun H locs hP hS => ?_)
                  refine lv_aload_n hx hb d_MO_readChannel_265 rfl (lv_at hl 3 rfl) ?_
                  refine va_get (v := .ref (lay 21)) (C := R_MO) (T := F_MO) (N := 41) hx hb hts i_MO hown hK hP 0 (mw_at (by decide) (mc_0 _ _ _ _)) rfl 37 (by decide) (hts _ wd_737) (fun _ h9 => h9) rfl d_MO_readChannel_266 ?_
                  refine lv_iload_n hx hb d_MO_readChannel_269 rfl (lv_at hl 4 rfl) ?_
                  obtain ⟨hg129, h⟩ := xg h
                  refine mal_21 hx hb E hP hg129 d_MO_readChannel_270 ?_
                  refine lv_iconst (v := (4 : Int32)) hx hb d_MO_readChannel_271 (by decide) ?_
                  refine lv_icmp_ne (tgt := 283) hx hb d_MO_readChannel_272 (by decide) (fun c_132 => ?_) (fun c_132 => ?_)
                  · have h := xif_f c_132 h
                    refine lv_goto (tgt := 158) hx hb d_MO_readChannel_283 (by decide) ?_
                    exact ih q128 a1 a2 (0 : Int32) (1 : Int32) _ h H locs ls hP hS (lv_sub hl [3, 4, 5, 1, 0] rfl)
                  · have h := xif_t c_132 h
                    refine lv_aload_n hx hb d_MO_readChannel_275 rfl (lv_at hl 3 rfl) ?_
                    refine lv_iconst (v := (4 : Int32)) hx hb d_MO_readChannel_276 (by decide) ?_
                    obtain ⟨q131, e130, h⟩ := xb h
                    refine mc_v (va_runV (As := [.int (4 : Int32)]) (rest := []) ⟨hx, hb, hml, hown, hts⟩ (c_MO_bad l D lay cA q128 (4 : Int32) q131 e130) (cwV 1 hts (xT_V wd_886 wd_888 wp_30 wd_7 wd_889) rfl rfl rfl (by decide +kernel) ⟨Nat.le_of_ble_eq_true rfl, Nat.le_of_ble_eq_true rfl⟩) (mpV E hP hS (by decide) (mc_0 _ _ _ _) rfl) rfl rfl hl.1 rfl (lv_room (Nat.le_of_ble_eq_true rfl)) d_MO_readChannel_277 ⟨Nat.le_of_ble_eq_true rfl, Nat.le_of_ble_eq_true rfl⟩) hS (fun H locs hP hS => ?_)
                    refine lv_iconst (v := (0 : Int32)) hx hb d_MO_readChannel_280 (by decide) ?_
                    refine lv_istore (lv' := [(4, .int (0 : Int32)), (3, .int (0 : Int32)), (5, .int q39.1), (0, .ref (lay 0)), (1, .int a1), (2, .int a2)]) hx hb d_MO_readChannel_281 hl (by decide) rfl (fun ls hl => ?_)
                    refine lv_goto (tgt := 158) hx hb d_MO_readChannel_283 (by decide) ?_
                    exact ih q131 a1 a2 (0 : Int32) (0 : Int32) _ h H locs ls hP hS (lv_sub hl [3, 4, 5, 1, 0] rfl)
          · have h := xif_f c_165 h
            refine lv_iconst (v := (-1 : Int32)) hx hb d_MO_readChannel_205 (by decide) ?_
            refine lv_goto (tgt := 220) hx hb d_MO_readChannel_206 (by decide) ?_
            obtain ⟨hg136, h⟩ := xg h
            refine mas_22 hx hb E hP hS hg136 d_MO_readChannel_220 (fun H locs hP hS => ?_)
            refine lv_aload_n hx hb d_MO_readChannel_221 rfl (lv_at hl 2 rfl) ?_
            refine va_get (v := .ref (lay 21)) (C := R_MO) (T := F_MO) (N := 41) hx hb hts i_MO hown hK hP 0 (mw_at (by decide) (mc_0 _ _ _ _)) rfl 37 (by decide) (hts _ wd_737) (fun _ h9 => h9) rfl d_MO_readChannel_222 ?_
            refine lv_iload_n hx hb d_MO_readChannel_225 rfl (lv_at hl 3 rfl) ?_
            refine lv_dup2_11 hx hb d_MO_readChannel_226 rfl rfl ?_
            obtain ⟨hg137, h⟩ := xg h
            refine mal_21 hx hb E hP hg137 d_MO_readChannel_227 ?_
            refine lv_iconst (v := (1 : Int32)) hx hb d_MO_readChannel_228 (by decide) ?_
            refine lv_iadd hx hb d_MO_readChannel_229 ?_
            obtain ⟨hg138, h⟩ := xg h
            refine mas_21 hx hb E hP hS hg138 d_MO_readChannel_230 (fun H locs hP hS => ?_)
            refine lv_aload_n hx hb d_MO_readChannel_231 rfl (lv_at hl 2 rfl) ?_
            refine va_get (v := .ref (lay 18)) (C := R_MO) (T := F_MO) (N := 41) hx hb hts i_MO hown hK hP 0 (mw_at (by decide) (mc_0 _ _ _ _)) rfl 34 (by decide) (hts _ wd_734) (fun _ h9 => h9) rfl d_MO_readChannel_232 ?_
            refine lv_iload_n hx hb d_MO_readChannel_235 rfl (lv_at hl 3 rfl) ?_
            obtain ⟨hg139, h⟩ := xg h
            refine mal_18 hx hb E hP hg139 d_MO_readChannel_236 ?_
            refine lv_if_ne (tgt := 253) hx hb d_MO_readChannel_237 (by decide) (fun c_164 => ?_) (fun c_164 => ?_)
            · have h := xif_f c_164 h
              refine lv_iconst (v := (0 : Int32)) hx hb d_MO_readChannel_253 (by decide) ?_
              refine lv_istore (lv' := [(4, .int (0 : Int32)), (3, .int (0 : Int32)), (5, .int q39.1), (0, .ref (lay 0)), (1, .int a1), (2, .int a2)]) hx hb d_MO_readChannel_254 hl (by decide) rfl (fun ls hl => ?_)
              refine lv_iload hx hb d_MO_readChannel_256 (lv_at hl 0 rfl) ?_
              refine lv_if_eq (tgt := 283) hx hb d_MO_readChannel_258 (by decide) (fun c_146 => ?_) (fun c_146 => ?_)
              · have h := xif_t c_146 h
                refine lv_goto (tgt := 158) hx hb d_MO_readChannel_283 (by decide) ?_
                exact ih (xpi (xpi q39.2 22 (((4 : Int32) * a1) + (xgi q39.2 21 a1.toNatClampNeg)).toNatClampNeg (-1 : Int32)) 21 a1.toNatClampNeg ((xgi (xpi q39.2 22 (((4 : Int32) * a1) + (xgi q39.2 21 a1.toNatClampNeg)).toNatClampNeg (-1 : Int32)) 21 a1.toNatClampNeg) + (1 : Int32))) a1 a2 (0 : Int32) (0 : Int32) _ h H locs ls hP hS (lv_sub hl [3, 4, 5, 1, 0] rfl)
              · have h := xif_f c_146 h
                refine lv_aload_n hx hb d_MO_readChannel_261 rfl (lv_at hl 3 rfl) ?_
                obtain ⟨q141, e140, h⟩ := xb h
                refine mc_v (va_runV (As := []) (rest := []) ⟨hx, hb, hml, hown, hts⟩ (c_MO_next l D lay cA (xpi (xpi q39.2 22 (((4 : Int32) * a1) + (xgi q39.2 21 a1.toNatClampNeg)).toNatClampNeg (-1 : Int32)) 21 a1.toNatClampNeg ((xgi (xpi q39.2 22 (((4 : Int32) * a1) + (xgi q39.2 21 a1.toNatClampNeg)).toNatClampNeg (-1 : Int32)) 21 a1.toNatClampNeg) + (1 : Int32))) q141 e140) (cwV 0 hts (xT_V wd_841 wd_843 wp_21 wd_7 wd_844) rfl rfl rfl (by decide +kernel) ⟨Nat.le_of_ble_eq_true rfl, Nat.le_of_ble_eq_true rfl⟩) (mpV E hP hS (by decide) (mc_0 _ _ _ _) rfl) rfl rfl hl.1 rfl (lv_room (Nat.le_of_ble_eq_true rfl)) d_MO_readChannel_262 ⟨Nat.le_of_ble_eq_true rfl, Nat.le_of_ble_eq_true rfl⟩) hS (fun H locs hP hS => ?_)
                refine lv_aload_n hx hb d_MO_readChannel_265 rfl (lv_at hl 3 rfl) ?_
                refine va_get (v := .ref (lay 21)) (C := R_MO) (T := F_MO) (N := 41) hx hb hts i_MO hown hK hP 0 (mw_at (by decide) (mc_0 _ _ _ _)) rfl 37 (by decide) (hts _ wd_737) (fun _ h9 => h9) rfl d_MO_readChannel_266 ?_
                refine lv_iload_n hx hb d_MO_readChannel_269 rfl (lv_at hl 4 rfl) ?_
                obtain ⟨hg142, h⟩ := xg h
                refine mal_21 hx hb E hP hg142 d_MO_readChannel_270 ?_
                refine lv_iconst (v := (4 : Int32)) hx hb d_MO_readChannel_271 (by decide) ?_
                refine lv_icmp_ne (tgt := 283) hx hb d_MO_readChannel_272 (by decide) (fun c_145 => ?_) (fun c_145 => ?_)
                · have h := xif_f c_145 h
                  refine lv_goto (tgt := 158) hx hb d_MO_readChannel_283 (by decide) ?_
                  exact ih q141 a1 a2 (0 : Int32) (0 : Int32) _ h H locs ls hP hS (lv_sub hl [3, 4, 5, 1, 0] rfl)
                · have h := xif_t c_145 h
                  refine lv_aload_n hx hb d_MO_readChannel_275 rfl (lv_at hl 3 rfl) ?_
                  refine lv_iconst (v := (4 : Int32)) hx hb d_MO_readChannel_276 (by decide) ?_
                  obtain ⟨q144, e143, h⟩ := xb h
                  refine mc_v (va_runV (As := [.int (4 : Int32)]) (rest := []) ⟨hx, hb, hml, hown, hts⟩ (c_MO_bad l D lay cA q141 (4 : Int32) q144 e143) (cwV 1 hts (xT_V wd_886 wd_888 wp_30 wd_7 wd_889) rfl rfl rfl (by decide +kernel) ⟨Nat.le_of_ble_eq_true rfl, Nat.le_of_ble_eq_true rfl⟩) (mpV E hP hS (by decide) (mc_0 _ _ _ _) rfl) rfl rfl hl.1 rfl (lv_room (Nat.le_of_ble_eq_true rfl)) d_MO_readChannel_277 ⟨Nat.le_of_ble_eq_true rfl, Nat.le_of_ble_eq_true rfl⟩) hS (fun H locs hP hS => ?_)
                  refine lv_iconst (v := (0 : Int32)) hx hb d_MO_readChannel_280 (by decide) ?_
                  refine lv_istore (lv' := [(4, .int (0 : Int32)), (3, .int (0 : Int32)), (5, .int q39.1), (0, .ref (lay 0)), (1, .int a1), (2, .int a2)]) hx hb d_MO_readChannel_281 hl (by decide) rfl (fun ls hl => ?_)
                  refine lv_goto (tgt := 158) hx hb d_MO_readChannel_283 (by decide) ?_
                  exact ih q144 a1 a2 (0 : Int32) (0 : Int32) _ h H locs ls hP hS (lv_sub hl [3, 4, 5, 1, 0] rfl)
            · have h := xif_t c_164 h
              refine lv_aload_n hx hb d_MO_readChannel_240 rfl (lv_at hl 2 rfl) ?_
              refine lv_bipush (v := (44 : Int32)) hx hb d_MO_readChannel_241 (by decide) ?_
              obtain ⟨q148, e147, h⟩ := xb h
              refine mc_i (va_runV (As := [.int (44 : Int32)]) (rest := []) ⟨hx, hb, hml, hown, hts⟩ (c_MO_isSign l D lay cA (xpi (xpi q39.2 22 (((4 : Int32) * a1) + (xgi q39.2 21 a1.toNatClampNeg)).toNatClampNeg (-1 : Int32)) 21 a1.toNatClampNeg ((xgi (xpi q39.2 22 (((4 : Int32) * a1) + (xgi q39.2 21 a1.toNatClampNeg)).toNatClampNeg (-1 : Int32)) 21 a1.toNatClampNeg) + (1 : Int32))) (44 : Int32) q148 e147) (cwV 1 hts (xT_V wd_906 wd_908 wp_35 wd_7 wd_909) rfl rfl rfl (by decide +kernel) ⟨Nat.le_of_ble_eq_true rfl, Nat.le_of_ble_eq_true rfl⟩) (mpV E hP hS (by decide) (mc_0 _ _ _ _) rfl) rfl rfl hl.1 rfl (lv_room (Nat.le_of_ble_eq_true rfl)) d_MO_readChannel_243 ⟨Nat.le_of_ble_eq_true rfl, Nat.le_of_ble_eq_true rfl⟩) hS (fun H locs hP hS => ?_)
              refine lv_if_eq (tgt := 253) hx hb d_MO_readChannel_246 (by decide) (fun c_163 => ?_) (fun c_163 => ?_)
              · have h := xif_t c_163 h
                refine lv_iconst (v := (0 : Int32)) hx hb d_MO_readChannel_253 (by decide) ?_
                refine lv_istore (lv' := [(4, .int (0 : Int32)), (3, .int (0 : Int32)), (5, .int q39.1), (0, .ref (lay 0)), (1, .int a1), (2, .int a2)]) hx hb d_MO_readChannel_254 hl (by decide) rfl (fun ls hl => ?_)
                refine lv_iload hx hb d_MO_readChannel_256 (lv_at hl 0 rfl) ?_
                refine lv_if_eq (tgt := 283) hx hb d_MO_readChannel_258 (by decide) (fun c_155 => ?_) (fun c_155 => ?_)
                · have h := xif_t c_155 h
                  refine lv_goto (tgt := 158) hx hb d_MO_readChannel_283 (by decide) ?_
                  exact ih (xpi (xpi q39.2 22 (((4 : Int32) * a1) + (xgi q39.2 21 a1.toNatClampNeg)).toNatClampNeg (-1 : Int32)) 21 a1.toNatClampNeg ((xgi (xpi q39.2 22 (((4 : Int32) * a1) + (xgi q39.2 21 a1.toNatClampNeg)).toNatClampNeg (-1 : Int32)) 21 a1.toNatClampNeg) + (1 : Int32))) a1 a2 (0 : Int32) (0 : Int32) _ h H locs ls hP hS (lv_sub hl [3, 4, 5, 1, 0] rfl)
                · have h := xif_f c_155 h
                  refine lv_aload_n hx hb d_MO_readChannel_261 rfl (lv_at hl 3 rfl) ?_
                  obtain ⟨q150, e149, h⟩ := xb h
                  refine mc_v (va_runV (As := []) (rest := []) ⟨hx, hb, hml, hown, hts⟩ (c_MO_next l D lay cA (xpi (xpi q39.2 22 (((4 : Int32) * a1) + (xgi q39.2 21 a1.toNatClampNeg)).toNatClampNeg (-1 : Int32)) 21 a1.toNatClampNeg ((xgi (xpi q39.2 22 (((4 : Int32) * a1) + (xgi q39.2 21 a1.toNatClampNeg)).toNatClampNeg (-1 : Int32)) 21 a1.toNatClampNeg) + (1 : Int32))) q150 e149) (cwV 0 hts (xT_V wd_841 wd_843 wp_21 wd_7 wd_844) rfl rfl rfl (by decide +kernel) ⟨Nat.le_of_ble_eq_true rfl, Nat.le_of_ble_eq_true rfl⟩) (mpV E hP hS (by decide) (mc_0 _ _ _ _) rfl) rfl rfl hl.1 rfl (lv_room (Nat.le_of_ble_eq_true rfl)) d_MO_readChannel_262 ⟨Nat.le_of_ble_eq_true rfl, Nat.le_of_ble_eq_true rfl⟩) hS (fun H locs hP hS => ?_)
                  refine lv_aload_n hx hb d_MO_readChannel_265 rfl (lv_at hl 3 rfl) ?_
                  refine va_get (v := .ref (lay 21)) (C := R_MO) (T := F_MO) (N := 41) hx hb hts i_MO hown hK hP 0 (mw_at (by decide) (mc_0 _ _ _ _)) rfl 37 (by decide) (hts _ wd_737) (fun _ h9 => h9) rfl d_MO_readChannel_266 ?_
                  refine lv_iload_n hx hb d_MO_readChannel_269 rfl (lv_at hl 4 rfl) ?_
                  obtain ⟨hg151, h⟩ := xg h
                  refine mal_21 hx hb E hP hg151 d_MO_readChannel_270 ?_
                  refine lv_iconst (v := (4 : Int32)) hx hb d_MO_readChannel_271 (by decide) ?_
                  refine lv_icmp_ne (tgt := 283) hx hb d_MO_readChannel_272 (by decide) (fun c_154 => ?_) (fun c_154 => ?_)
                  · have h := xif_f c_154 h
                    refine lv_goto (tgt := 158) hx hb d_MO_readChannel_283 (by decide) ?_
                    exact ih q150 a1 a2 (0 : Int32) (0 : Int32) _ h H locs ls hP hS (lv_sub hl [3, 4, 5, 1, 0] rfl)
                  · have h := xif_t c_154 h
                    refine lv_aload_n hx hb d_MO_readChannel_275 rfl (lv_at hl 3 rfl) ?_
                    refine lv_iconst (v := (4 : Int32)) hx hb d_MO_readChannel_276 (by decide) ?_
                    obtain ⟨q153, e152, h⟩ := xb h
                    refine mc_v (va_runV (As := [.int (4 : Int32)]) (rest := []) ⟨hx, hb, hml, hown, hts⟩ (c_MO_bad l D lay cA q150 (4 : Int32) q153 e152) (cwV 1 hts (xT_V wd_886 wd_888 wp_30 wd_7 wd_889) rfl rfl rfl (by decide +kernel) ⟨Nat.le_of_ble_eq_true rfl, Nat.le_of_ble_eq_true rfl⟩) (mpV E hP hS (by decide) (mc_0 _ _ _ _) rfl) rfl rfl hl.1 rfl (lv_room (Nat.le_of_ble_eq_true rfl)) d_MO_readChannel_277 ⟨Nat.le_of_ble_eq_true rfl, Nat.le_of_ble_eq_true rfl⟩) hS (fun H locs hP hS => ?_)
                    refine lv_iconst (v := (0 : Int32)) hx hb d_MO_readChannel_280 (by decide) ?_
                    refine lv_istore (lv' := [(4, .int (0 : Int32)), (3, .int (0 : Int32)), (5, .int q39.1), (0, .ref (lay 0)), (1, .int a1), (2, .int a2)]) hx hb d_MO_readChannel_281 hl (by decide) rfl (fun ls hl => ?_)
                    refine lv_goto (tgt := 158) hx hb d_MO_readChannel_283 (by decide) ?_
                    exact ih q153 a1 a2 (0 : Int32) (0 : Int32) _ h H locs ls hP hS (lv_sub hl [3, 4, 5, 1, 0] rfl)
              · have h := xif_f c_163 h
                refine lv_iconst (v := (1 : Int32)) hx hb d_MO_readChannel_249 (by decide) ?_
                refine lv_goto (tgt := 254) hx hb d_MO_readChannel_250 (by decide) ?_
                refine lv_istore (lv' := [(4, .int (1 : Int32)), (3, .int (0 : Int32)), (5, .int q39.1), (0, .ref (lay 0)), (1, .int a1), (2, .int a2)]) hx hb d_MO_readChannel_254 hl (by decide) rfl (fun ls hl => ?_)
                refine lv_iload hx hb d_MO_readChannel_256 (lv_at hl 0 rfl) ?_
                refine lv_if_eq (tgt := 283) hx hb d_MO_readChannel_258 (by decide) (fun c_162 => ?_) (fun c_162 => ?_)
                · have h := xif_t c_162 h
                  refine lv_goto (tgt := 158) hx hb d_MO_readChannel_283 (by decide) ?_
                  exact ih (xpi (xpi q39.2 22 (((4 : Int32) * a1) + (xgi q39.2 21 a1.toNatClampNeg)).toNatClampNeg (-1 : Int32)) 21 a1.toNatClampNeg ((xgi (xpi q39.2 22 (((4 : Int32) * a1) + (xgi q39.2 21 a1.toNatClampNeg)).toNatClampNeg (-1 : Int32)) 21 a1.toNatClampNeg) + (1 : Int32))) a1 a2 (0 : Int32) (1 : Int32) _ h H locs ls hP hS (lv_sub hl [3, 4, 5, 1, 0] rfl)
                · have h := xif_f c_162 h
                  refine lv_aload_n hx hb d_MO_readChannel_261 rfl (lv_at hl 3 rfl) ?_
                  obtain ⟨q157, e156, h⟩ := xb h
                  refine mc_v (va_runV (As := []) (rest := []) ⟨hx, hb, hml, hown, hts⟩ (c_MO_next l D lay cA (xpi (xpi q39.2 22 (((4 : Int32) * a1) + (xgi q39.2 21 a1.toNatClampNeg)).toNatClampNeg (-1 : Int32)) 21 a1.toNatClampNeg ((xgi (xpi q39.2 22 (((4 : Int32) * a1) + (xgi q39.2 21 a1.toNatClampNeg)).toNatClampNeg (-1 : Int32)) 21 a1.toNatClampNeg) + (1 : Int32))) q157 e156) (cwV 0 hts (xT_V wd_841 wd_843 wp_21 wd_7 wd_844) rfl rfl rfl (by decide +kernel) ⟨Nat.le_of_ble_eq_true rfl, Nat.le_of_ble_eq_true rfl⟩) (mpV E hP hS (by decide) (mc_0 _ _ _ _) rfl) rfl rfl hl.1 rfl (lv_room (Nat.le_of_ble_eq_true rfl)) d_MO_readChannel_262 ⟨Nat.le_of_ble_eq_true rfl, Nat.le_of_ble_eq_true rfl⟩) hS (fun H locs hP hS => ?_)
                  refine lv_aload_n hx hb d_MO_readChannel_265 rfl (lv_at hl 3 rfl) ?_
                  refine va_get (v := .ref (lay 21)) (C := R_MO) (T := F_MO) (N := 41) hx hb hts i_MO hown hK hP 0 (mw_at (by decide) (mc_0 _ _ _ _)) rfl 37 (by decide) (hts _ wd_737) (fun _ h9 => h9) rfl d_MO_readChannel_266 ?_
                  refine lv_iload_n hx hb d_MO_readChannel_269 rfl (lv_at hl 4 rfl) ?_
                  obtain ⟨hg158, h⟩ := xg h
                  refine mal_21 hx hb E hP hg158 d_MO_readChannel_270 ?_
                  refine lv_iconst (v := (4 : Int32)) hx hb d_MO_readChannel_271 (by decide) ?_
                  refine lv_icmp_ne (tgt := 283) hx hb d_MO_readChannel_272 (by decide) (fun c_161 => ?_) (fun c_161 => ?_)
                  · have h := xif_f c_161 h
                    refine lv_goto (tgt := 158) hx hb d_MO_readChannel_283 (by decide) ?_
                    exact ih q157 a1 a2 (0 : Int32) (1 : Int32) _ h H locs ls hP hS (lv_sub hl [3, 4, 5, 1, 0] rfl)
                  · have h := xif_t c_161 h
                    refine lv_aload_n hx hb d_MO_readChannel_275 rfl (lv_at hl 3 rfl) ?_
                    refine lv_iconst (v := (4 : Int32)) hx hb d_MO_readChannel_276 (by decide) ?_
                    obtain ⟨q160, e159, h⟩ := xb h
                    refine mc_v (va_runV (As := [.int (4 : Int32)]) (rest := []) ⟨hx, hb, hml, hown, hts⟩ (c_MO_bad l D lay cA q157 (4 : Int32) q160 e159) (cwV 1 hts (xT_V wd_886 wd_888 wp_30 wd_7 wd_889) rfl rfl rfl (by decide +kernel) ⟨Nat.le_of_ble_eq_true rfl, Nat.le_of_ble_eq_true rfl⟩) (mpV E hP hS (by decide) (mc_0 _ _ _ _) rfl) rfl rfl hl.1 rfl (lv_room (Nat.le_of_ble_eq_true rfl)) d_MO_readChannel_277 ⟨Nat.le_of_ble_eq_true rfl, Nat.le_of_ble_eq_true rfl⟩) hS (fun H locs hP hS => ?_)
                    refine lv_iconst (v := (0 : Int32)) hx hb d_MO_readChannel_280 (by decide) ?_
                    refine lv_istore (lv' := [(4, .int (0 : Int32)), (3, .int (0 : Int32)), (5, .int q39.1), (0, .ref (lay 0)), (1, .int a1), (2, .int a2)]) hx hb d_MO_readChannel_281 hl (by decide) rfl (fun ls hl => ?_)
                    refine lv_goto (tgt := 158) hx hb d_MO_readChannel_283 (by decide) ?_
                    exact ih q160 a1 a2 (0 : Int32) (0 : Int32) _ h H locs ls hP hS (lv_sub hl [3, 4, 5, 1, 0] rfl)
        · have h := xif_f c_229 h
          refine lv_iconst (v := (1 : Int32)) hx hb d_MO_readChannel_180 (by decide) ?_
          refine lv_goto (tgt := 185) hx hb d_MO_readChannel_181 (by decide) ?_
          refine lv_istore_n (lv' := [(3, .int (1 : Int32)), (5, .int q39.1), (0, .ref (lay 0)), (1, .int a1), (2, .int a2), (4, .int a4)]) hx hb d_MO_readChannel_185 rfl hl (by decide) rfl (fun ls hl => ?_)
          refine lv_aload_n hx hb d_MO_readChannel_186 rfl (lv_at hl 2 rfl) ?_
          refine va_get (v := .ref (lay 22)) (C := R_MO) (T := F_MO) (N := 41) hx hb hts i_MO hown hK hP 0 (mw_at (by decide) (mc_0 _ _ _ _)) rfl 38 (by decide) (hts _ wd_738) (fun _ h9 => h9) rfl d_MO_readChannel_187 ?_
          refine lv_iconst (v := (4 : Int32)) hx hb d_MO_readChannel_190 (by decide) ?_
          refine lv_iload_n hx hb d_MO_readChannel_191 rfl (lv_at hl 3 rfl) ?_
          refine lv_imul hx hb d_MO_readChannel_192 ?_
          refine lv_aload_n hx hb d_MO_readChannel_193 rfl (lv_at hl 2 rfl) ?_
          refine va_get (v := .ref (lay 21)) (C := R_MO) (T := F_MO) (N := 41) hx hb hts i_MO hown hK hP 0 (mw_at (by decide) (mc_0 _ _ _ _)) rfl 37 (by decide) (hts _ wd_737) (fun _ h9 => h9) rfl d_MO_readChannel_194 ?_
          refine lv_iload_n hx hb d_MO_readChannel_197 rfl (lv_at hl 3 rfl) ?_
          obtain ⟨hg166, h⟩ := xg h
          refine mal_21 hx hb E hP hg166 d_MO_readChannel_198 ?_
          refine lv_iadd hx hb d_MO_readChannel_199 ?_
          refine lv_iload hx hb d_MO_readChannel_200 (lv_at hl 1 rfl) ?_
          refine lv_if_eq (tgt := 209) hx hb d_MO_readChannel_202 (by decide) (fun c_228 => ?_) (fun c_228 => ?_)
          · have h := xif_t c_228 h
            refine lv_aload_n hx hb d_MO_readChannel_209 rfl (lv_at hl 2 rfl) ?_
            refine lv_iconst (v := (0 : Int32)) hx hb d_MO_readChannel_210 (by decide) ?_
            refine lv_aload_n hx hb d_MO_readChannel_211 rfl (lv_at hl 2 rfl) ?_
            refine va_get (v := .ref (lay 18)) (C := R_MO) (T := F_MO) (N := 41) hx hb hts i_MO hown hK hP 0 (mw_at (by decide) (mc_0 _ _ _ _)) rfl 34 (by decide) (hts _ wd_734) (fun _ h9 => h9) rfl d_MO_readChannel_212 ?_
            refine lv_iload_n hx hb d_MO_readChannel_215 rfl (lv_at hl 3 rfl) ?_
            obtain ⟨hg167, h⟩ := xg h
            refine mal_18 hx hb E hP hg167 d_MO_readChannel_216 ?_
            obtain ⟨q169, e168, h⟩ := xb h
            refine mc_i (va_runV (As := [.int (0 : Int32), .int (xgi q39.2 18 a1.toNatClampNeg)]) (rest := [.int (((4 : Int32) * a1) + (xgi q39.2 21 a1.toNatClampNeg)), .ref (lay 22)]) ⟨hx, hb, hml, hown, hts⟩ (c_MO_readEnd l D lay cA q39.2 (0 : Int32) (xgi q39.2 18 a1.toNatClampNeg) q169 e168) (cwV 2 hts (xT_V wd_978 wd_980 wp_52 wd_7 wd_981) rfl rfl rfl (by decide +kernel) ⟨Nat.le_of_ble_eq_true rfl, Nat.le_of_ble_eq_true rfl⟩) (mpV E hP hS (by decide) (mc_0 _ _ _ _) rfl) rfl rfl hl.1 rfl (lv_room (Nat.le_of_ble_eq_true rfl)) d_MO_readChannel_217 ⟨Nat.le_of_ble_eq_true rfl, Nat.le_of_ble_eq_true rfl⟩) hS (fun H locs hP hS => ?_)
            obtain ⟨hg170, h⟩ := xg h
            refine mas_22 hx hb E hP hS hg170 d_MO_readChannel_220 (fun H locs hP hS => ?_)
            refine lv_aload_n hx hb d_MO_readChannel_221 rfl (lv_at hl 2 rfl) ?_
            refine va_get (v := .ref (lay 21)) (C := R_MO) (T := F_MO) (N := 41) hx hb hts i_MO hown hK hP 0 (mw_at (by decide) (mc_0 _ _ _ _)) rfl 37 (by decide) (hts _ wd_737) (fun _ h9 => h9) rfl d_MO_readChannel_222 ?_
            refine lv_iload_n hx hb d_MO_readChannel_225 rfl (lv_at hl 3 rfl) ?_
            refine lv_dup2_11 hx hb d_MO_readChannel_226 rfl rfl ?_
            obtain ⟨hg171, h⟩ := xg h
            refine mal_21 hx hb E hP hg171 d_MO_readChannel_227 ?_
            refine lv_iconst (v := (1 : Int32)) hx hb d_MO_readChannel_228 (by decide) ?_
            refine lv_iadd hx hb d_MO_readChannel_229 ?_
            obtain ⟨hg172, h⟩ := xg h
            refine mas_21 hx hb E hP hS hg172 d_MO_readChannel_230 (fun H locs hP hS => ?_)
            refine lv_aload_n hx hb d_MO_readChannel_231 rfl (lv_at hl 2 rfl) ?_
            refine va_get (v := .ref (lay 18)) (C := R_MO) (T := F_MO) (N := 41) hx hb hts i_MO hown hK hP 0 (mw_at (by decide) (mc_0 _ _ _ _)) rfl 34 (by decide) (hts _ wd_734) (fun _ h9 => h9) rfl d_MO_readChannel_232 ?_
            refine lv_iload_n hx hb d_MO_readChannel_235 rfl (lv_at hl 3 rfl) ?_
            obtain ⟨hg173, h⟩ := xg h
            refine mal_18 hx hb E hP hg173 d_MO_readChannel_236 ?_
            refine lv_if_ne (tgt := 253) hx hb d_MO_readChannel_237 (by decide) (fun c_198 => ?_) (fun c_198 => ?_)
            · have h := xif_f c_198 h
              refine lv_iconst (v := (0 : Int32)) hx hb d_MO_readChannel_253 (by decide) ?_
              refine lv_istore (lv' := [(4, .int (0 : Int32)), (3, .int (1 : Int32)), (5, .int q39.1), (0, .ref (lay 0)), (1, .int a1), (2, .int a2)]) hx hb d_MO_readChannel_254 hl (by decide) rfl (fun ls hl => ?_)
              refine lv_iload hx hb d_MO_readChannel_256 (lv_at hl 0 rfl) ?_
              refine lv_if_eq (tgt := 283) hx hb d_MO_readChannel_258 (by decide) (fun c_180 => ?_) (fun c_180 => ?_)
              · have h := xif_t c_180 h
                refine lv_goto (tgt := 158) hx hb d_MO_readChannel_283 (by decide) ?_
                exact ih (xpi (xpi q169.2 22 (((4 : Int32) * a1) + (xgi q39.2 21 a1.toNatClampNeg)).toNatClampNeg q169.1) 21 a1.toNatClampNeg ((xgi (xpi q169.2 22 (((4 : Int32) * a1) + (xgi q39.2 21 a1.toNatClampNeg)).toNatClampNeg q169.1) 21 a1.toNatClampNeg) + (1 : Int32))) a1 a2 (1 : Int32) (0 : Int32) _ h H locs ls hP hS (lv_sub hl [3, 4, 5, 1, 0] rfl)
              · have h := xif_f c_180 h
                refine lv_aload_n hx hb d_MO_readChannel_261 rfl (lv_at hl 3 rfl) ?_
                obtain ⟨q175, e174, h⟩ := xb h
                refine mc_v (va_runV (As := []) (rest := []) ⟨hx, hb, hml, hown, hts⟩ (c_MO_next l D lay cA (xpi (xpi q169.2 22 (((4 : Int32) * a1) + (xgi q39.2 21 a1.toNatClampNeg)).toNatClampNeg q169.1) 21 a1.toNatClampNeg ((xgi (xpi q169.2 22 (((4 : Int32) * a1) + (xgi q39.2 21 a1.toNatClampNeg)).toNatClampNeg q169.1) 21 a1.toNatClampNeg) + (1 : Int32))) q175 e174) (cwV 0 hts (xT_V wd_841 wd_843 wp_21 wd_7 wd_844) rfl rfl rfl (by decide +kernel) ⟨Nat.le_of_ble_eq_true rfl, Nat.le_of_ble_eq_true rfl⟩) (mpV E hP hS (by decide) (mc_0 _ _ _ _) rfl) rfl rfl hl.1 rfl (lv_room (Nat.le_of_ble_eq_true rfl)) d_MO_readChannel_262 ⟨Nat.le_of_ble_eq_true rfl, Nat.le_of_ble_eq_true rfl⟩) hS (fun H locs hP hS => ?_)
                refine lv_aload_n hx hb d_MO_readChannel_265 rfl (lv_at hl 3 rfl) ?_
                refine va_get (v := .ref (lay 21)) (C := R_MO) (T := F_MO) (N := 41) hx hb hts i_MO hown hK hP 0 (mw_at (by decide) (mc_0 _ _ _ _)) rfl 37 (by decide) (hts _ wd_737) (fun _ h9 => h9) rfl d_MO_readChannel_266 ?_
                refine lv_iload_n hx hb d_MO_readChannel_269 rfl (lv_at hl 4 rfl) ?_
                obtain ⟨hg176, h⟩ := xg h
                refine mal_21 hx hb E hP hg176 d_MO_readChannel_270 ?_
                refine lv_iconst (v := (4 : Int32)) hx hb d_MO_readChannel_271 (by decide) ?_
                refine lv_icmp_ne (tgt := 283) hx hb d_MO_readChannel_272 (by decide) (fun c_179 => ?_) (fun c_179 => ?_)
                · have h := xif_f c_179 h
                  refine lv_goto (tgt := 158) hx hb d_MO_readChannel_283 (by decide) ?_
                  exact ih q175 a1 a2 (1 : Int32) (0 : Int32) _ h H locs ls hP hS (lv_sub hl [3, 4, 5, 1, 0] rfl)
                · have h := xif_t c_179 h
                  refine lv_aload_n hx hb d_MO_readChannel_275 rfl (lv_at hl 3 rfl) ?_
                  refine lv_iconst (v := (4 : Int32)) hx hb d_MO_readChannel_276 (by decide) ?_
                  obtain ⟨q178, e177, h⟩ := xb h
                  refine mc_v (va_runV (As := [.int (4 : Int32)]) (rest := []) ⟨hx, hb, hml, hown, hts⟩ (c_MO_bad l D lay cA q175 (4 : Int32) q178 e177) (cwV 1 hts (xT_V wd_886 wd_888 wp_30 wd_7 wd_889) rfl rfl rfl (by decide +kernel) ⟨Nat.le_of_ble_eq_true rfl, Nat.le_of_ble_eq_true rfl⟩) (mpV E hP hS (by decide) (mc_0 _ _ _ _) rfl) rfl rfl hl.1 rfl (lv_room (Nat.le_of_ble_eq_true rfl)) d_MO_readChannel_277 ⟨Nat.le_of_ble_eq_true rfl, Nat.le_of_ble_eq_true rfl⟩) hS (fun H locs hP hS => ?_)
                  refine lv_iconst (v := (0 : Int32)) hx hb d_MO_readChannel_280 (by decide) ?_
                  refine lv_istore (lv' := [(4, .int (0 : Int32)), (3, .int (1 : Int32)), (5, .int q39.1), (0, .ref (lay 0)), (1, .int a1), (2, .int a2)]) hx hb d_MO_readChannel_281 hl (by decide) rfl (fun ls hl => ?_)
                  refine lv_goto (tgt := 158) hx hb d_MO_readChannel_283 (by decide) ?_
                  exact ih q178 a1 a2 (1 : Int32) (0 : Int32) _ h H locs ls hP hS (lv_sub hl [3, 4, 5, 1, 0] rfl)
            · have h := xif_t c_198 h
              refine lv_aload_n hx hb d_MO_readChannel_240 rfl (lv_at hl 2 rfl) ?_
              refine lv_bipush (v := (44 : Int32)) hx hb d_MO_readChannel_241 (by decide) ?_
              obtain ⟨q182, e181, h⟩ := xb h
              refine mc_i (va_runV (As := [.int (44 : Int32)]) (rest := []) ⟨hx, hb, hml, hown, hts⟩ (c_MO_isSign l D lay cA (xpi (xpi q169.2 22 (((4 : Int32) * a1) + (xgi q39.2 21 a1.toNatClampNeg)).toNatClampNeg q169.1) 21 a1.toNatClampNeg ((xgi (xpi q169.2 22 (((4 : Int32) * a1) + (xgi q39.2 21 a1.toNatClampNeg)).toNatClampNeg q169.1) 21 a1.toNatClampNeg) + (1 : Int32))) (44 : Int32) q182 e181) (cwV 1 hts (xT_V wd_906 wd_908 wp_35 wd_7 wd_909) rfl rfl rfl (by decide +kernel) ⟨Nat.le_of_ble_eq_true rfl, Nat.le_of_ble_eq_true rfl⟩) (mpV E hP hS (by decide) (mc_0 _ _ _ _) rfl) rfl rfl hl.1 rfl (lv_room (Nat.le_of_ble_eq_true rfl)) d_MO_readChannel_243 ⟨Nat.le_of_ble_eq_true rfl, Nat.le_of_ble_eq_true rfl⟩) hS (fun H locs hP hS => ?_)
              refine lv_if_eq (tgt := 253) hx hb d_MO_readChannel_246 (by decide) (fun c_197 => ?_) (fun c_197 => ?_)
              · have h := xif_t c_197 h
                refine lv_iconst (v := (0 : Int32)) hx hb d_MO_readChannel_253 (by decide) ?_
                refine lv_istore (lv' := [(4, .int (0 : Int32)), (3, .int (1 : Int32)), (5, .int q39.1), (0, .ref (lay 0)), (1, .int a1), (2, .int a2)]) hx hb d_MO_readChannel_254 hl (by decide) rfl (fun ls hl => ?_)
                refine lv_iload hx hb d_MO_readChannel_256 (lv_at hl 0 rfl) ?_
                refine lv_if_eq (tgt := 283) hx hb d_MO_readChannel_258 (by decide) (fun c_189 => ?_) (fun c_189 => ?_)
                · have h := xif_t c_189 h
                  refine lv_goto (tgt := 158) hx hb d_MO_readChannel_283 (by decide) ?_
                  exact ih (xpi (xpi q169.2 22 (((4 : Int32) * a1) + (xgi q39.2 21 a1.toNatClampNeg)).toNatClampNeg q169.1) 21 a1.toNatClampNeg ((xgi (xpi q169.2 22 (((4 : Int32) * a1) + (xgi q39.2 21 a1.toNatClampNeg)).toNatClampNeg q169.1) 21 a1.toNatClampNeg) + (1 : Int32))) a1 a2 (1 : Int32) (0 : Int32) _ h H locs ls hP hS (lv_sub hl [3, 4, 5, 1, 0] rfl)
                · have h := xif_f c_189 h
                  refine lv_aload_n hx hb d_MO_readChannel_261 rfl (lv_at hl 3 rfl) ?_
                  obtain ⟨q184, e183, h⟩ := xb h
                  refine mc_v (va_runV (As := []) (rest := []) ⟨hx, hb, hml, hown, hts⟩ (c_MO_next l D lay cA (xpi (xpi q169.2 22 (((4 : Int32) * a1) + (xgi q39.2 21 a1.toNatClampNeg)).toNatClampNeg q169.1) 21 a1.toNatClampNeg ((xgi (xpi q169.2 22 (((4 : Int32) * a1) + (xgi q39.2 21 a1.toNatClampNeg)).toNatClampNeg q169.1) 21 a1.toNatClampNeg) + (1 : Int32))) q184 e183) (cwV 0 hts (xT_V wd_841 wd_843 wp_21 wd_7 wd_844) rfl rfl rfl (by decide +kernel) ⟨Nat.le_of_ble_eq_true rfl, Nat.le_of_ble_eq_true rfl⟩) (mpV E hP hS (by decide) (mc_0 _ _ _ _) rfl) rfl rfl hl.1 rfl (lv_room (Nat.le_of_ble_eq_true rfl)) d_MO_readChannel_262 ⟨Nat.le_of_ble_eq_true rfl, Nat.le_of_ble_eq_true rfl⟩) hS (fun H locs hP hS => ?_)
                  refine lv_aload_n hx hb d_MO_readChannel_265 rfl (lv_at hl 3 rfl) ?_
                  refine va_get (v := .ref (lay 21)) (C := R_MO) (T := F_MO) (N := 41) hx hb hts i_MO hown hK hP 0 (mw_at (by decide) (mc_0 _ _ _ _)) rfl 37 (by decide) (hts _ wd_737) (fun _ h9 => h9) rfl d_MO_readChannel_266 ?_
                  refine lv_iload_n hx hb d_MO_readChannel_269 rfl (lv_at hl 4 rfl) ?_
                  obtain ⟨hg185, h⟩ := xg h
                  refine mal_21 hx hb E hP hg185 d_MO_readChannel_270 ?_
                  refine lv_iconst (v := (4 : Int32)) hx hb d_MO_readChannel_271 (by decide) ?_
                  refine lv_icmp_ne (tgt := 283) hx hb d_MO_readChannel_272 (by decide) (fun c_188 => ?_) (fun c_188 => ?_)
                  · have h := xif_f c_188 h
                    refine lv_goto (tgt := 158) hx hb d_MO_readChannel_283 (by decide) ?_
                    exact ih q184 a1 a2 (1 : Int32) (0 : Int32) _ h H locs ls hP hS (lv_sub hl [3, 4, 5, 1, 0] rfl)
                  · have h := xif_t c_188 h
                    refine lv_aload_n hx hb d_MO_readChannel_275 rfl (lv_at hl 3 rfl) ?_
                    refine lv_iconst (v := (4 : Int32)) hx hb d_MO_readChannel_276 (by decide) ?_
                    obtain ⟨q187, e186, h⟩ := xb h
                    refine mc_v (va_runV (As := [.int (4 : Int32)]) (rest := []) ⟨hx, hb, hml, hown, hts⟩ (c_MO_bad l D lay cA q184 (4 : Int32) q187 e186) (cwV 1 hts (xT_V wd_886 wd_888 wp_30 wd_7 wd_889) rfl rfl rfl (by decide +kernel) ⟨Nat.le_of_ble_eq_true rfl, Nat.le_of_ble_eq_true rfl⟩) (mpV E hP hS (by decide) (mc_0 _ _ _ _) rfl) rfl rfl hl.1 rfl (lv_room (Nat.le_of_ble_eq_true rfl)) d_MO_readChannel_277 ⟨Nat.le_of_ble_eq_true rfl, Nat.le_of_ble_eq_true rfl⟩) hS (fun H locs hP hS => ?_)
                    refine lv_iconst (v := (0 : Int32)) hx hb d_MO_readChannel_280 (by decide) ?_
                    refine lv_istore (lv' := [(4, .int (0 : Int32)), (3, .int (1 : Int32)), (5, .int q39.1), (0, .ref (lay 0)), (1, .int a1), (2, .int a2)]) hx hb d_MO_readChannel_281 hl (by decide) rfl (fun ls hl => ?_)
                    refine lv_goto (tgt := 158) hx hb d_MO_readChannel_283 (by decide) ?_
                    exact ih q187 a1 a2 (1 : Int32) (0 : Int32) _ h H locs ls hP hS (lv_sub hl [3, 4, 5, 1, 0] rfl)
              · have h := xif_f c_197 h
                refine lv_iconst (v := (1 : Int32)) hx hb d_MO_readChannel_249 (by decide) ?_
                refine lv_goto (tgt := 254) hx hb d_MO_readChannel_250 (by decide) ?_
                refine lv_istore (lv' := [(4, .int (1 : Int32)), (3, .int (1 : Int32)), (5, .int q39.1), (0, .ref (lay 0)), (1, .int a1), (2, .int a2)]) hx hb d_MO_readChannel_254 hl (by decide) rfl (fun ls hl => ?_)
                refine lv_iload hx hb d_MO_readChannel_256 (lv_at hl 0 rfl) ?_
                refine lv_if_eq (tgt := 283) hx hb d_MO_readChannel_258 (by decide) (fun c_196 => ?_) (fun c_196 => ?_)
                · have h := xif_t c_196 h
                  refine lv_goto (tgt := 158) hx hb d_MO_readChannel_283 (by decide) ?_
                  exact ih (xpi (xpi q169.2 22 (((4 : Int32) * a1) + (xgi q39.2 21 a1.toNatClampNeg)).toNatClampNeg q169.1) 21 a1.toNatClampNeg ((xgi (xpi q169.2 22 (((4 : Int32) * a1) + (xgi q39.2 21 a1.toNatClampNeg)).toNatClampNeg q169.1) 21 a1.toNatClampNeg) + (1 : Int32))) a1 a2 (1 : Int32) (1 : Int32) _ h H locs ls hP hS (lv_sub hl [3, 4, 5, 1, 0] rfl)
                · have h := xif_f c_196 h
                  refine lv_aload_n hx hb d_MO_readChannel_261 rfl (lv_at hl 3 rfl) ?_
                  obtain ⟨q191, e190, h⟩ := xb h
                  refine mc_v (va_runV (As := []) (rest := []) ⟨hx, hb, hml, hown, hts⟩ (c_MO_next l D lay cA (xpi (xpi q169.2 22 (((4 : Int32) * a1) + (xgi q39.2 21 a1.toNatClampNeg)).toNatClampNeg q169.1) 21 a1.toNatClampNeg ((xgi (xpi q169.2 22 (((4 : Int32) * a1) + (xgi q39.2 21 a1.toNatClampNeg)).toNatClampNeg q169.1) 21 a1.toNatClampNeg) + (1 : Int32))) q191 e190) (cwV 0 hts (xT_V wd_841 wd_843 wp_21 wd_7 wd_844) rfl rfl rfl (by decide +kernel) ⟨Nat.le_of_ble_eq_true rfl, Nat.le_of_ble_eq_true rfl⟩) (mpV E hP hS (by decide) (mc_0 _ _ _ _) rfl) rfl rfl hl.1 rfl (lv_room (Nat.le_of_ble_eq_true rfl)) d_MO_readChannel_262 ⟨Nat.le_of_ble_eq_true rfl, Nat.le_of_ble_eq_true rfl⟩) hS (fun H locs hP hS => ?_)
                  refine lv_aload_n hx hb d_MO_readChannel_265 rfl (lv_at hl 3 rfl) ?_
                  refine va_get (v := .ref (lay 21)) (C := R_MO) (T := F_MO) (N := 41) hx hb hts i_MO hown hK hP 0 (mw_at (by decide) (mc_0 _ _ _ _)) rfl 37 (by decide) (hts _ wd_737) (fun _ h9 => h9) rfl d_MO_readChannel_266 ?_
                  refine lv_iload_n hx hb d_MO_readChannel_269 rfl (lv_at hl 4 rfl) ?_
                  obtain ⟨hg192, h⟩ := xg h
                  refine mal_21 hx hb E hP hg192 d_MO_readChannel_270 ?_
                  refine lv_iconst (v := (4 : Int32)) hx hb d_MO_readChannel_271 (by decide) ?_
                  refine lv_icmp_ne (tgt := 283) hx hb d_MO_readChannel_272 (by decide) (fun c_195 => ?_) (fun c_195 => ?_)
                  · have h := xif_f c_195 h
                    refine lv_goto (tgt := 158) hx hb d_MO_readChannel_283 (by decide) ?_
                    exact ih q191 a1 a2 (1 : Int32) (1 : Int32) _ h H locs ls hP hS (lv_sub hl [3, 4, 5, 1, 0] rfl)
                  · have h := xif_t c_195 h
                    refine lv_aload_n hx hb d_MO_readChannel_275 rfl (lv_at hl 3 rfl) ?_
                    refine lv_iconst (v := (4 : Int32)) hx hb d_MO_readChannel_276 (by decide) ?_
                    obtain ⟨q194, e193, h⟩ := xb h
                    refine mc_v (va_runV (As := [.int (4 : Int32)]) (rest := []) ⟨hx, hb, hml, hown, hts⟩ (c_MO_bad l D lay cA q191 (4 : Int32) q194 e193) (cwV 1 hts (xT_V wd_886 wd_888 wp_30 wd_7 wd_889) rfl rfl rfl (by decide +kernel) ⟨Nat.le_of_ble_eq_true rfl, Nat.le_of_ble_eq_true rfl⟩) (mpV E hP hS (by decide) (mc_0 _ _ _ _) rfl) rfl rfl hl.1 rfl (lv_room (Nat.le_of_ble_eq_true rfl)) d_MO_readChannel_277 ⟨Nat.le_of_ble_eq_true rfl, Nat.le_of_ble_eq_true rfl⟩) hS (fun H locs hP hS => ?_)
                    refine lv_iconst (v := (0 : Int32)) hx hb d_MO_readChannel_280 (by decide) ?_
                    refine lv_istore (lv' := [(4, .int (0 : Int32)), (3, .int (1 : Int32)), (5, .int q39.1), (0, .ref (lay 0)), (1, .int a1), (2, .int a2)]) hx hb d_MO_readChannel_281 hl (by decide) rfl (fun ls hl => ?_)
                    refine lv_goto (tgt := 158) hx hb d_MO_readChannel_283 (by decide) ?_
                    exact ih q194 a1 a2 (1 : Int32) (0 : Int32) _ h H locs ls hP hS (lv_sub hl [3, 4, 5, 1, 0] rfl)
          · have h := xif_f c_228 h
            refine lv_iconst (v := (-1 : Int32)) hx hb d_MO_readChannel_205 (by decide) ?_
            refine lv_goto (tgt := 220) hx hb d_MO_readChannel_206 (by decide) ?_
            obtain ⟨hg199, h⟩ := xg h
            refine mas_22 hx hb E hP hS hg199 d_MO_readChannel_220 (fun H locs hP hS => ?_)
            refine lv_aload_n hx hb d_MO_readChannel_221 rfl (lv_at hl 2 rfl) ?_
            refine va_get (v := .ref (lay 21)) (C := R_MO) (T := F_MO) (N := 41) hx hb hts i_MO hown hK hP 0 (mw_at (by decide) (mc_0 _ _ _ _)) rfl 37 (by decide) (hts _ wd_737) (fun _ h9 => h9) rfl d_MO_readChannel_222 ?_
            refine lv_iload_n hx hb d_MO_readChannel_225 rfl (lv_at hl 3 rfl) ?_
            refine lv_dup2_11 hx hb d_MO_readChannel_226 rfl rfl ?_
            obtain ⟨hg200, h⟩ := xg h
            refine mal_21 hx hb E hP hg200 d_MO_readChannel_227 ?_
            refine lv_iconst (v := (1 : Int32)) hx hb d_MO_readChannel_228 (by decide) ?_
            refine lv_iadd hx hb d_MO_readChannel_229 ?_
            obtain ⟨hg201, h⟩ := xg h
            refine mas_21 hx hb E hP hS hg201 d_MO_readChannel_230 (fun H locs hP hS => ?_)
            refine lv_aload_n hx hb d_MO_readChannel_231 rfl (lv_at hl 2 rfl) ?_
            refine va_get (v := .ref (lay 18)) (C := R_MO) (T := F_MO) (N := 41) hx hb hts i_MO hown hK hP 0 (mw_at (by decide) (mc_0 _ _ _ _)) rfl 34 (by decide) (hts _ wd_734) (fun _ h9 => h9) rfl d_MO_readChannel_232 ?_
            refine lv_iload_n hx hb d_MO_readChannel_235 rfl (lv_at hl 3 rfl) ?_
            obtain ⟨hg202, h⟩ := xg h
            refine mal_18 hx hb E hP hg202 d_MO_readChannel_236 ?_
            refine lv_if_ne (tgt := 253) hx hb d_MO_readChannel_237 (by decide) (fun c_227 => ?_) (fun c_227 => ?_)
            · have h := xif_f c_227 h
              refine lv_iconst (v := (0 : Int32)) hx hb d_MO_readChannel_253 (by decide) ?_
              refine lv_istore (lv' := [(4, .int (0 : Int32)), (3, .int (1 : Int32)), (5, .int q39.1), (0, .ref (lay 0)), (1, .int a1), (2, .int a2)]) hx hb d_MO_readChannel_254 hl (by decide) rfl (fun ls hl => ?_)
              refine lv_iload hx hb d_MO_readChannel_256 (lv_at hl 0 rfl) ?_
              refine lv_if_eq (tgt := 283) hx hb d_MO_readChannel_258 (by decide) (fun c_209 => ?_) (fun c_209 => ?_)
              · have h := xif_t c_209 h
                refine lv_goto (tgt := 158) hx hb d_MO_readChannel_283 (by decide) ?_
                exact ih (xpi (xpi q39.2 22 (((4 : Int32) * a1) + (xgi q39.2 21 a1.toNatClampNeg)).toNatClampNeg (-1 : Int32)) 21 a1.toNatClampNeg ((xgi (xpi q39.2 22 (((4 : Int32) * a1) + (xgi q39.2 21 a1.toNatClampNeg)).toNatClampNeg (-1 : Int32)) 21 a1.toNatClampNeg) + (1 : Int32))) a1 a2 (1 : Int32) (0 : Int32) _ h H locs ls hP hS (lv_sub hl [3, 4, 5, 1, 0] rfl)
              · have h := xif_f c_209 h
                refine lv_aload_n hx hb d_MO_readChannel_261 rfl (lv_at hl 3 rfl) ?_
                obtain ⟨q204, e203, h⟩ := xb h
                refine mc_v (va_runV (As := []) (rest := []) ⟨hx, hb, hml, hown, hts⟩ (c_MO_next l D lay cA (xpi (xpi q39.2 22 (((4 : Int32) * a1) + (xgi q39.2 21 a1.toNatClampNeg)).toNatClampNeg (-1 : Int32)) 21 a1.toNatClampNeg ((xgi (xpi q39.2 22 (((4 : Int32) * a1) + (xgi q39.2 21 a1.toNatClampNeg)).toNatClampNeg (-1 : Int32)) 21 a1.toNatClampNeg) + (1 : Int32))) q204 e203) (cwV 0 hts (xT_V wd_841 wd_843 wp_21 wd_7 wd_844) rfl rfl rfl (by decide +kernel) ⟨Nat.le_of_ble_eq_true rfl, Nat.le_of_ble_eq_true rfl⟩) (mpV E hP hS (by decide) (mc_0 _ _ _ _) rfl) rfl rfl hl.1 rfl (lv_room (Nat.le_of_ble_eq_true rfl)) d_MO_readChannel_262 ⟨Nat.le_of_ble_eq_true rfl, Nat.le_of_ble_eq_true rfl⟩) hS (fun H locs hP hS => ?_)
                refine lv_aload_n hx hb d_MO_readChannel_265 rfl (lv_at hl 3 rfl) ?_
                refine va_get (v := .ref (lay 21)) (C := R_MO) (T := F_MO) (N := 41) hx hb hts i_MO hown hK hP 0 (mw_at (by decide) (mc_0 _ _ _ _)) rfl 37 (by decide) (hts _ wd_737) (fun _ h9 => h9) rfl d_MO_readChannel_266 ?_
                refine lv_iload_n hx hb d_MO_readChannel_269 rfl (lv_at hl 4 rfl) ?_
                obtain ⟨hg205, h⟩ := xg h
                refine mal_21 hx hb E hP hg205 d_MO_readChannel_270 ?_
                refine lv_iconst (v := (4 : Int32)) hx hb d_MO_readChannel_271 (by decide) ?_
                refine lv_icmp_ne (tgt := 283) hx hb d_MO_readChannel_272 (by decide) (fun c_208 => ?_) (fun c_208 => ?_)
                · have h := xif_f c_208 h
                  refine lv_goto (tgt := 158) hx hb d_MO_readChannel_283 (by decide) ?_
                  exact ih q204 a1 a2 (1 : Int32) (0 : Int32) _ h H locs ls hP hS (lv_sub hl [3, 4, 5, 1, 0] rfl)
                · have h := xif_t c_208 h
                  refine lv_aload_n hx hb d_MO_readChannel_275 rfl (lv_at hl 3 rfl) ?_
                  refine lv_iconst (v := (4 : Int32)) hx hb d_MO_readChannel_276 (by decide) ?_
                  obtain ⟨q207, e206, h⟩ := xb h
                  refine mc_v (va_runV (As := [.int (4 : Int32)]) (rest := []) ⟨hx, hb, hml, hown, hts⟩ (c_MO_bad l D lay cA q204 (4 : Int32) q207 e206) (cwV 1 hts (xT_V wd_886 wd_888 wp_30 wd_7 wd_889) rfl rfl rfl (by decide +kernel) ⟨Nat.le_of_ble_eq_true rfl, Nat.le_of_ble_eq_true rfl⟩) (mpV E hP hS (by decide) (mc_0 _ _ _ _) rfl) rfl rfl hl.1 rfl (lv_room (Nat.le_of_ble_eq_true rfl)) d_MO_readChannel_277 ⟨Nat.le_of_ble_eq_true rfl, Nat.le_of_ble_eq_true rfl⟩) hS (fun H locs hP hS => ?_)
                  refine lv_iconst (v := (0 : Int32)) hx hb d_MO_readChannel_280 (by decide) ?_
                  refine lv_istore (lv' := [(4, .int (0 : Int32)), (3, .int (1 : Int32)), (5, .int q39.1), (0, .ref (lay 0)), (1, .int a1), (2, .int a2)]) hx hb d_MO_readChannel_281 hl (by decide) rfl (fun ls hl => ?_)
                  refine lv_goto (tgt := 158) hx hb d_MO_readChannel_283 (by decide) ?_
                  exact ih q207 a1 a2 (1 : Int32) (0 : Int32) _ h H locs ls hP hS (lv_sub hl [3, 4, 5, 1, 0] rfl)
            · have h := xif_t c_227 h
              refine lv_aload_n hx hb d_MO_readChannel_240 rfl (lv_at hl 2 rfl) ?_
              refine lv_bipush (v := (44 : Int32)) hx hb d_MO_readChannel_241 (by decide) ?_
              obtain ⟨q211, e210, h⟩ := xb h
              refine mc_i (va_runV (As := [.int (44 : Int32)]) (rest := []) ⟨hx, hb, hml, hown, hts⟩ (c_MO_isSign l D lay cA (xpi (xpi q39.2 22 (((4 : Int32) * a1) + (xgi q39.2 21 a1.toNatClampNeg)).toNatClampNeg (-1 : Int32)) 21 a1.toNatClampNeg ((xgi (xpi q39.2 22 (((4 : Int32) * a1) + (xgi q39.2 21 a1.toNatClampNeg)).toNatClampNeg (-1 : Int32)) 21 a1.toNatClampNeg) + (1 : Int32))) (44 : Int32) q211 e210) (cwV 1 hts (xT_V wd_906 wd_908 wp_35 wd_7 wd_909) rfl rfl rfl (by decide +kernel) ⟨Nat.le_of_ble_eq_true rfl, Nat.le_of_ble_eq_true rfl⟩) (mpV E hP hS (by decide) (mc_0 _ _ _ _) rfl) rfl rfl hl.1 rfl (lv_room (Nat.le_of_ble_eq_true rfl)) d_MO_readChannel_243 ⟨Nat.le_of_ble_eq_true rfl, Nat.le_of_ble_eq_true rfl⟩) hS (fun H locs hP hS => ?_)
              refine lv_if_eq (tgt := 253) hx hb d_MO_readChannel_246 (by decide) (fun c_226 => ?_) (fun c_226 => ?_)
              · have h := xif_t c_226 h
                refine lv_iconst (v := (0 : Int32)) hx hb d_MO_readChannel_253 (by decide) ?_
                refine lv_istore (lv' := [(4, .int (0 : Int32)), (3, .int (1 : Int32)), (5, .int q39.1), (0, .ref (lay 0)), (1, .int a1), (2, .int a2)]) hx hb d_MO_readChannel_254 hl (by decide) rfl (fun ls hl => ?_)
                refine lv_iload hx hb d_MO_readChannel_256 (lv_at hl 0 rfl) ?_
                refine lv_if_eq (tgt := 283) hx hb d_MO_readChannel_258 (by decide) (fun c_218 => ?_) (fun c_218 => ?_)
                · have h := xif_t c_218 h
                  refine lv_goto (tgt := 158) hx hb d_MO_readChannel_283 (by decide) ?_
                  exact ih (xpi (xpi q39.2 22 (((4 : Int32) * a1) + (xgi q39.2 21 a1.toNatClampNeg)).toNatClampNeg (-1 : Int32)) 21 a1.toNatClampNeg ((xgi (xpi q39.2 22 (((4 : Int32) * a1) + (xgi q39.2 21 a1.toNatClampNeg)).toNatClampNeg (-1 : Int32)) 21 a1.toNatClampNeg) + (1 : Int32))) a1 a2 (1 : Int32) (0 : Int32) _ h H locs ls hP hS (lv_sub hl [3, 4, 5, 1, 0] rfl)
                · have h := xif_f c_218 h
                  refine lv_aload_n hx hb d_MO_readChannel_261 rfl (lv_at hl 3 rfl) ?_
                  obtain ⟨q213, e212, h⟩ := xb h
                  refine mc_v (va_runV (As := []) (rest := []) ⟨hx, hb, hml, hown, hts⟩ (c_MO_next l D lay cA (xpi (xpi q39.2 22 (((4 : Int32) * a1) + (xgi q39.2 21 a1.toNatClampNeg)).toNatClampNeg (-1 : Int32)) 21 a1.toNatClampNeg ((xgi (xpi q39.2 22 (((4 : Int32) * a1) + (xgi q39.2 21 a1.toNatClampNeg)).toNatClampNeg (-1 : Int32)) 21 a1.toNatClampNeg) + (1 : Int32))) q213 e212) (cwV 0 hts (xT_V wd_841 wd_843 wp_21 wd_7 wd_844) rfl rfl rfl (by decide +kernel) ⟨Nat.le_of_ble_eq_true rfl, Nat.le_of_ble_eq_true rfl⟩) (mpV E hP hS (by decide) (mc_0 _ _ _ _) rfl) rfl rfl hl.1 rfl (lv_room (Nat.le_of_ble_eq_true rfl)) d_MO_readChannel_262 ⟨Nat.le_of_ble_eq_true rfl, Nat.le_of_ble_eq_true rfl⟩) hS (fun H locs hP hS => ?_)
                  refine lv_aload_n hx hb d_MO_readChannel_265 rfl (lv_at hl 3 rfl) ?_
                  refine va_get (v := .ref (lay 21)) (C := R_MO) (T := F_MO) (N := 41) hx hb hts i_MO hown hK hP 0 (mw_at (by decide) (mc_0 _ _ _ _)) rfl 37 (by decide) (hts _ wd_737) (fun _ h9 => h9) rfl d_MO_readChannel_266 ?_
                  refine lv_iload_n hx hb d_MO_readChannel_269 rfl (lv_at hl 4 rfl) ?_
                  obtain ⟨hg214, h⟩ := xg h
                  refine mal_21 hx hb E hP hg214 d_MO_readChannel_270 ?_
                  refine lv_iconst (v := (4 : Int32)) hx hb d_MO_readChannel_271 (by decide) ?_
                  refine lv_icmp_ne (tgt := 283) hx hb d_MO_readChannel_272 (by decide) (fun c_217 => ?_) (fun c_217 => ?_)
                  · have h := xif_f c_217 h
                    refine lv_goto (tgt := 158) hx hb d_MO_readChannel_283 (by decide) ?_
                    exact ih q213 a1 a2 (1 : Int32) (0 : Int32) _ h H locs ls hP hS (lv_sub hl [3, 4, 5, 1, 0] rfl)
                  · have h := xif_t c_217 h
                    refine lv_aload_n hx hb d_MO_readChannel_275 rfl (lv_at hl 3 rfl) ?_
                    refine lv_iconst (v := (4 : Int32)) hx hb d_MO_readChannel_276 (by decide) ?_
                    obtain ⟨q216, e215, h⟩ := xb h
                    refine mc_v (va_runV (As := [.int (4 : Int32)]) (rest := []) ⟨hx, hb, hml, hown, hts⟩ (c_MO_bad l D lay cA q213 (4 : Int32) q216 e215) (cwV 1 hts (xT_V wd_886 wd_888 wp_30 wd_7 wd_889) rfl rfl rfl (by decide +kernel) ⟨Nat.le_of_ble_eq_true rfl, Nat.le_of_ble_eq_true rfl⟩) (mpV E hP hS (by decide) (mc_0 _ _ _ _) rfl) rfl rfl hl.1 rfl (lv_room (Nat.le_of_ble_eq_true rfl)) d_MO_readChannel_277 ⟨Nat.le_of_ble_eq_true rfl, Nat.le_of_ble_eq_true rfl⟩) hS (fun H locs hP hS => ?_)
                    refine lv_iconst (v := (0 : Int32)) hx hb d_MO_readChannel_280 (by decide) ?_
                    refine lv_istore (lv' := [(4, .int (0 : Int32)), (3, .int (1 : Int32)), (5, .int q39.1), (0, .ref (lay 0)), (1, .int a1), (2, .int a2)]) hx hb d_MO_readChannel_281 hl (by decide) rfl (fun ls hl => ?_)
                    refine lv_goto (tgt := 158) hx hb d_MO_readChannel_283 (by decide) ?_
                    exact ih q216 a1 a2 (1 : Int32) (0 : Int32) _ h H locs ls hP hS (lv_sub hl [3, 4, 5, 1, 0] rfl)
              · have h := xif_f c_226 h
                refine lv_iconst (v := (1 : Int32)) hx hb d_MO_readChannel_249 (by decide) ?_
                refine lv_goto (tgt := 254) hx hb d_MO_readChannel_250 (by decide) ?_
                refine lv_istore (lv' := [(4, .int (1 : Int32)), (3, .int (1 : Int32)), (5, .int q39.1), (0, .ref (lay 0)), (1, .int a1), (2, .int a2)]) hx hb d_MO_readChannel_254 hl (by decide) rfl (fun ls hl => ?_)
                refine lv_iload hx hb d_MO_readChannel_256 (lv_at hl 0 rfl) ?_
                refine lv_if_eq (tgt := 283) hx hb d_MO_readChannel_258 (by decide) (fun c_225 => ?_) (fun c_225 => ?_)
                · have h := xif_t c_225 h
                  refine lv_goto (tgt := 158) hx hb d_MO_readChannel_283 (by decide) ?_
                  exact ih (xpi (xpi q39.2 22 (((4 : Int32) * a1) + (xgi q39.2 21 a1.toNatClampNeg)).toNatClampNeg (-1 : Int32)) 21 a1.toNatClampNeg ((xgi (xpi q39.2 22 (((4 : Int32) * a1) + (xgi q39.2 21 a1.toNatClampNeg)).toNatClampNeg (-1 : Int32)) 21 a1.toNatClampNeg) + (1 : Int32))) a1 a2 (1 : Int32) (1 : Int32) _ h H locs ls hP hS (lv_sub hl [3, 4, 5, 1, 0] rfl)
                · have h := xif_f c_225 h
                  refine lv_aload_n hx hb d_MO_readChannel_261 rfl (lv_at hl 3 rfl) ?_
                  obtain ⟨q220, e219, h⟩ := xb h
                  refine mc_v (va_runV (As := []) (rest := []) ⟨hx, hb, hml, hown, hts⟩ (c_MO_next l D lay cA (xpi (xpi q39.2 22 (((4 : Int32) * a1) + (xgi q39.2 21 a1.toNatClampNeg)).toNatClampNeg (-1 : Int32)) 21 a1.toNatClampNeg ((xgi (xpi q39.2 22 (((4 : Int32) * a1) + (xgi q39.2 21 a1.toNatClampNeg)).toNatClampNeg (-1 : Int32)) 21 a1.toNatClampNeg) + (1 : Int32))) q220 e219) (cwV 0 hts (xT_V wd_841 wd_843 wp_21 wd_7 wd_844) rfl rfl rfl (by decide +kernel) ⟨Nat.le_of_ble_eq_true rfl, Nat.le_of_ble_eq_true rfl⟩) (mpV E hP hS (by decide) (mc_0 _ _ _ _) rfl) rfl rfl hl.1 rfl (lv_room (Nat.le_of_ble_eq_true rfl)) d_MO_readChannel_262 ⟨Nat.le_of_ble_eq_true rfl, Nat.le_of_ble_eq_true rfl⟩) hS (fun H locs hP hS => ?_)
                  refine lv_aload_n hx hb d_MO_readChannel_265 rfl (lv_at hl 3 rfl) ?_
                  refine va_get (v := .ref (lay 21)) (C := R_MO) (T := F_MO) (N := 41) hx hb hts i_MO hown hK hP 0 (mw_at (by decide) (mc_0 _ _ _ _)) rfl 37 (by decide) (hts _ wd_737) (fun _ h9 => h9) rfl d_MO_readChannel_266 ?_
                  refine lv_iload_n hx hb d_MO_readChannel_269 rfl (lv_at hl 4 rfl) ?_
                  obtain ⟨hg221, h⟩ := xg h
                  refine mal_21 hx hb E hP hg221 d_MO_readChannel_270 ?_
                  refine lv_iconst (v := (4 : Int32)) hx hb d_MO_readChannel_271 (by decide) ?_
                  refine lv_icmp_ne (tgt := 283) hx hb d_MO_readChannel_272 (by decide) (fun c_224 => ?_) (fun c_224 => ?_)
                  · have h := xif_f c_224 h
                    refine lv_goto (tgt := 158) hx hb d_MO_readChannel_283 (by decide) ?_
                    exact ih q220 a1 a2 (1 : Int32) (1 : Int32) _ h H locs ls hP hS (lv_sub hl [3, 4, 5, 1, 0] rfl)
                  · have h := xif_t c_224 h
                    refine lv_aload_n hx hb d_MO_readChannel_275 rfl (lv_at hl 3 rfl) ?_
                    refine lv_iconst (v := (4 : Int32)) hx hb d_MO_readChannel_276 (by decide) ?_
                    obtain ⟨q223, e222, h⟩ := xb h
                    refine mc_v (va_runV (As := [.int (4 : Int32)]) (rest := []) ⟨hx, hb, hml, hown, hts⟩ (c_MO_bad l D lay cA q220 (4 : Int32) q223 e222) (cwV 1 hts (xT_V wd_886 wd_888 wp_30 wd_7 wd_889) rfl rfl rfl (by decide +kernel) ⟨Nat.le_of_ble_eq_true rfl, Nat.le_of_ble_eq_true rfl⟩) (mpV E hP hS (by decide) (mc_0 _ _ _ _) rfl) rfl rfl hl.1 rfl (lv_room (Nat.le_of_ble_eq_true rfl)) d_MO_readChannel_277 ⟨Nat.le_of_ble_eq_true rfl, Nat.le_of_ble_eq_true rfl⟩) hS (fun H locs hP hS => ?_)
                    refine lv_iconst (v := (0 : Int32)) hx hb d_MO_readChannel_280 (by decide) ?_
                    refine lv_istore (lv' := [(4, .int (0 : Int32)), (3, .int (1 : Int32)), (5, .int q39.1), (0, .ref (lay 0)), (1, .int a1), (2, .int a2)]) hx hb d_MO_readChannel_281 hl (by decide) rfl (fun ls hl => ?_)
                    refine lv_goto (tgt := 158) hx hb d_MO_readChannel_283 (by decide) ?_
                    exact ih q223 a1 a2 (1 : Int32) (0 : Int32) _ h H locs ls hP hS (lv_sub hl [3, 4, 5, 1, 0] rfl)
def f_MO_readChannel_136 (S : XS) (a1 : Int32) (a2 : Int32) (t0 : Int32) (t1 : Int32) : Option (XS) :=
  if ¬ (t1 < 0 ∨ 16 ≤ t1.toNatClampNeg) then ((f_MO_sign (xpi S 20 t1.toNatClampNeg t0) (62 : Int32)).bind fun q31 => if ¬ (a1 < 0 ∨ 16 ≤ a1.toNatClampNeg) then ((f_MO_good (xpi q31 21 a1.toNatClampNeg (0 : Int32))).bind fun q34 => f_MO_readChannel_158 4096 (xpi q31 21 a1.toNatClampNeg (0 : Int32)) a1 a2 (0 : Int32) q34) else none) else none
set_option maxHeartbeats 4000000 in
set_option maxRecDepth 100000 in
theorem k_MO_readChannel_136 (l : Launch) {p : Program} {e : Env} {s : State} {m : MethodId} {args : Array Value} {below : List Frame} {meth : Method} {c : Code} {D : va_G} {lay : Nat → Nat} {cA : Nat → ClassId} (C : xB p s m args meth c R_MO b_MO_readChannel ((Option.none : Option Jvm.ClassFile.FieldType)) 6) (E : mE D lay cA s s.heap) : ∀ (S : XS) (a1 : Int32) (a2 : Int32) (t0 : Int32) (t1 : Int32) (r : XS) (_ : f_MO_readChannel_136 S a1 a2 t0 t1 = some r) (H : Heap) (locs : List Loc) (ls : Array Slot), va_P D xcl (mw lay cA S) H → va_S (mI lay) s.heap H locs → lv_has ls 6 [(0, .ref (lay 0)), (1, .int a1), (2, .int a2)] → W p l e rm_MO_readChannel s m args below meth c H locs 0 0 (MQ below (mqv D lay cA r) args s 0 0 (mI lay)) (F0 m 136 ls [.int t0, .int t1, .ref (lay 20)]) := by
  obtain ⟨hx, hb, hr, hml, hown, hts, hlk, hnh⟩ := id C
  have hK := E.K
  intro S a1 a2 t0 t1 r h H locs ls hP hS hl
  unfold f_MO_readChannel_136 at h
  obtain ⟨hg29, h⟩ := xg h
  refine mas_20 hx hb E hP hS hg29 d_MO_readChannel_136 (fun H locs hP hS => ?_)
  refine lv_aload_n hx hb d_MO_readChannel_137 rfl (lv_at hl 0 rfl) ?_
  refine lv_bipush (v := (62 : Int32)) hx hb d_MO_readChannel_138 (by decide) ?_
  obtain ⟨q31, e30, h⟩ := xb h
  refine mc_v (va_runV (As := [.int (62 : Int32)]) (rest := []) ⟨hx, hb, hml, hown, hts⟩ (c_MO_sign l D lay cA (xpi S 20 t1.toNatClampNeg t0) (62 : Int32) q31 e30) (cwV 1 hts (xT_V wd_902 wd_904 wp_34 wd_7 wd_905) rfl rfl rfl (by decide +kernel) ⟨Nat.le_of_ble_eq_true rfl, Nat.le_of_ble_eq_true rfl⟩) (mpV E hP hS (by decide) (mc_0 _ _ _ _) rfl) rfl rfl hl.1 rfl (lv_room (Nat.le_of_ble_eq_true rfl)) d_MO_readChannel_140 ⟨Nat.le_of_ble_eq_true rfl, Nat.le_of_ble_eq_true rfl⟩) hS (fun H locs hP hS => ?_)
  refine lv_aload_n hx hb d_MO_readChannel_143 rfl (lv_at hl 0 rfl) ?_
  refine va_get (v := .ref (lay 21)) (C := R_MO) (T := F_MO) (N := 41) hx hb hts i_MO hown hK hP 0 (mw_at (by decide) (mc_0 _ _ _ _)) rfl 37 (by decide) (hts _ wd_737) (fun _ h9 => h9) rfl d_MO_readChannel_144 ?_
  refine lv_iload_n hx hb d_MO_readChannel_147 rfl (lv_at hl 1 rfl) ?_
  refine lv_iconst (v := (0 : Int32)) hx hb d_MO_readChannel_148 (by decide) ?_
  obtain ⟨hg32, h⟩ := xg h
  refine mas_21 hx hb E hP hS hg32 d_MO_readChannel_149 (fun H locs hP hS => ?_)
  refine lv_iconst (v := (0 : Int32)) hx hb d_MO_readChannel_150 (by decide) ?_
  refine lv_istore_n (lv' := [(3, .int (0 : Int32)), (0, .ref (lay 0)), (1, .int a1), (2, .int a2)]) hx hb d_MO_readChannel_151 rfl hl (by decide) rfl (fun ls hl => ?_)
  refine lv_aload_n hx hb d_MO_readChannel_152 rfl (lv_at hl 1 rfl) ?_
  obtain ⟨q34, e33, h⟩ := xb h
  refine mc_i (va_runV (As := []) (rest := []) ⟨hx, hb, hml, hown, hts⟩ (c_MO_good l D lay cA (xpi q31 21 a1.toNatClampNeg (0 : Int32)) q34 e33) (cwV 0 hts (xT_V wd_882 wd_884 wp_29 wd_7 wd_885) rfl rfl rfl (by decide +kernel) ⟨Nat.le_of_ble_eq_true rfl, Nat.le_of_ble_eq_true rfl⟩) (mpV E hP hS (by decide) (mc_0 _ _ _ _) rfl) rfl rfl hl.1 rfl (lv_room (Nat.le_of_ble_eq_true rfl)) d_MO_readChannel_153 ⟨Nat.le_of_ble_eq_true rfl, Nat.le_of_ble_eq_true rfl⟩) hS (fun H locs hP hS => ?_)
  refine lv_istore (lv' := [(4, .int q34), (3, .int (0 : Int32)), (0, .ref (lay 0)), (1, .int a1), (2, .int a2)]) hx hb d_MO_readChannel_156 hl (by decide) rfl (fun ls hl => ?_)
  exact k_MO_readChannel_158 l C E 4096 (xpi q31 21 a1.toNatClampNeg (0 : Int32)) a1 a2 (0 : Int32) q34 _ h H locs ls hP hS (lv_sub hl [2, 3, 4, 1, 0] rfl)
def f_MO_readChannel_98 (S : XS) (a1 : Int32) (t0 : Int32) (t1 : Int32) : Option (XS) :=
  if ¬ (t1 < 0 ∨ 16 ≤ t1.toNatClampNeg) then ((f_MO_sign (xpi S 19 t1.toNatClampNeg t0) (123 : Int32)).bind fun q22 => (f_MO_accept q22 (20 : Int32)).bind fun q24 => if q24.1 = 0 then (if ¬ (a1 < 0 ∨ 16 ≤ a1.toNatClampNeg) then ((f_MO_readEnd q24.2 (1 : Int32) (xgi q24.2 18 a1.toNatClampNeg)).bind fun q27 => f_MO_readChannel_136 q27.2 a1 q24.1 q27.1 a1) else none) else (f_MO_readChannel_136 q24.2 a1 q24.1 (-1 : Int32) a1)) else none
set_option maxHeartbeats 4000000 in
set_option maxRecDepth 100000 in
theorem k_MO_readChannel_98 (l : Launch) {p : Program} {e : Env} {s : State} {m : MethodId} {args : Array Value} {below : List Frame} {meth : Method} {c : Code} {D : va_G} {lay : Nat → Nat} {cA : Nat → ClassId} (C : xB p s m args meth c R_MO b_MO_readChannel ((Option.none : Option Jvm.ClassFile.FieldType)) 6) (E : mE D lay cA s s.heap) : ∀ (S : XS) (a1 : Int32) (t0 : Int32) (t1 : Int32) (r : XS) (_ : f_MO_readChannel_98 S a1 t0 t1 = some r) (H : Heap) (locs : List Loc) (ls : Array Slot), va_P D xcl (mw lay cA S) H → va_S (mI lay) s.heap H locs → lv_has ls 6 [(0, .ref (lay 0)), (1, .int a1)] → W p l e rm_MO_readChannel s m args below meth c H locs 0 0 (MQ below (mqv D lay cA r) args s 0 0 (mI lay)) (F0 m 98 ls [.int t0, .int t1, .ref (lay 19)]) := by
  obtain ⟨hx, hb, hr, hml, hown, hts, hlk, hnh⟩ := id C
  have hK := E.K
  intro S a1 t0 t1 r h H locs ls hP hS hl
  unfold f_MO_readChannel_98 at h
  obtain ⟨hg20, h⟩ := xg h
  refine mas_19 hx hb E hP hS hg20 d_MO_readChannel_98 (fun H locs hP hS => ?_)
  refine lv_aload_n hx hb d_MO_readChannel_99 rfl (lv_at hl 0 rfl) ?_
  refine lv_bipush (v := (123 : Int32)) hx hb d_MO_readChannel_100 (by decide) ?_
  obtain ⟨q22, e21, h⟩ := xb h
  refine mc_v (va_runV (As := [.int (123 : Int32)]) (rest := []) ⟨hx, hb, hml, hown, hts⟩ (c_MO_sign l D lay cA (xpi S 19 t1.toNatClampNeg t0) (123 : Int32) q22 e21) (cwV 1 hts (xT_V wd_902 wd_904 wp_34 wd_7 wd_905) rfl rfl rfl (by decide +kernel) ⟨Nat.le_of_ble_eq_true rfl, Nat.le_of_ble_eq_true rfl⟩) (mpV E hP hS (by decide) (mc_0 _ _ _ _) rfl) rfl rfl hl.1 rfl (lv_room (Nat.le_of_ble_eq_true rfl)) d_MO_readChannel_102 ⟨Nat.le_of_ble_eq_true rfl, Nat.le_of_ble_eq_true rfl⟩) hS (fun H locs hP hS => ?_)
  refine lv_aload_n hx hb d_MO_readChannel_105 rfl (lv_at hl 0 rfl) ?_
  refine lv_bipush (v := (20 : Int32)) hx hb d_MO_readChannel_106 (by decide) ?_
  obtain ⟨q24, e23, h⟩ := xb h
  refine mc_i (va_runV (As := [.int (20 : Int32)]) (rest := []) ⟨hx, hb, hml, hown, hts⟩ (c_MO_accept l D lay cA q22 (20 : Int32) q24 e23) (cwV 1 hts (xT_V wd_938 wd_940 wp_42 wd_7 wd_941) rfl rfl rfl (by decide +kernel) ⟨Nat.le_of_ble_eq_true rfl, Nat.le_of_ble_eq_true rfl⟩) (mpV E hP hS (by decide) (mc_0 _ _ _ _) rfl) rfl rfl hl.1 rfl (lv_room (Nat.le_of_ble_eq_true rfl)) d_MO_readChannel_108 ⟨Nat.le_of_ble_eq_true rfl, Nat.le_of_ble_eq_true rfl⟩) hS (fun H locs hP hS => ?_)
  refine lv_istore_n (lv' := [(2, .int q24.1), (0, .ref (lay 0)), (1, .int a1)]) hx hb d_MO_readChannel_111 rfl hl (by decide) rfl (fun ls hl => ?_)
  refine lv_aload_n hx hb d_MO_readChannel_112 rfl (lv_at hl 1 rfl) ?_
  refine va_get (v := .ref (lay 20)) (C := R_MO) (T := F_MO) (N := 41) hx hb hts i_MO hown hK hP 0 (mw_at (by decide) (mc_0 _ _ _ _)) rfl 36 (by decide) (hts _ wd_736) (fun _ h9 => h9) rfl d_MO_readChannel_113 ?_
  refine lv_iload_n hx hb d_MO_readChannel_116 rfl (lv_at hl 2 rfl) ?_
  refine lv_iload_n hx hb d_MO_readChannel_117 rfl (lv_at hl 0 rfl) ?_
  refine lv_if_eq (tgt := 125) hx hb d_MO_readChannel_118 (by decide) (fun c_28 => ?_) (fun c_28 => ?_)
  · have h := xif_t c_28 h
    refine lv_aload_n hx hb d_MO_readChannel_125 rfl (lv_at hl 1 rfl) ?_
    refine lv_iconst (v := (1 : Int32)) hx hb d_MO_readChannel_126 (by decide) ?_
    refine lv_aload_n hx hb d_MO_readChannel_127 rfl (lv_at hl 1 rfl) ?_
    refine va_get (v := .ref (lay 18)) (C := R_MO) (T := F_MO) (N := 41) hx hb hts i_MO hown hK hP 0 (mw_at (by decide) (mc_0 _ _ _ _)) rfl 34 (by decide) (hts _ wd_734) (fun _ h9 => h9) rfl d_MO_readChannel_128 ?_
    refine lv_iload_n hx hb d_MO_readChannel_131 rfl (lv_at hl 2 rfl) ?_
    obtain ⟨hg25, h⟩ := xg h
    refine mal_18 hx hb E hP hg25 d_MO_readChannel_132 ?_
    obtain ⟨q27, e26, h⟩ := xb h
    refine mc_i (va_runV (As := [.int (1 : Int32), .int (xgi q24.2 18 a1.toNatClampNeg)]) (rest := [.int a1, .ref (lay 20)]) ⟨hx, hb, hml, hown, hts⟩ (c_MO_readEnd l D lay cA q24.2 (1 : Int32) (xgi q24.2 18 a1.toNatClampNeg) q27 e26) (cwV 2 hts (xT_V wd_978 wd_980 wp_52 wd_7 wd_981) rfl rfl rfl (by decide +kernel) ⟨Nat.le_of_ble_eq_true rfl, Nat.le_of_ble_eq_true rfl⟩) (mpV E hP hS (by decide) (mc_0 _ _ _ _) rfl) rfl rfl hl.1 rfl (lv_room (Nat.le_of_ble_eq_true rfl)) d_MO_readChannel_133 ⟨Nat.le_of_ble_eq_true rfl, Nat.le_of_ble_eq_true rfl⟩) hS (fun H locs hP hS => ?_)
    exact k_MO_readChannel_136 l C E q27.2 a1 q24.1 q27.1 a1 _ h H locs ls hP hS (lv_sub hl [1, 2, 0] rfl)
  · have h := xif_f c_28 h
    refine lv_iconst (v := (-1 : Int32)) hx hb d_MO_readChannel_121 (by decide) ?_
    refine lv_goto (tgt := 136) hx hb d_MO_readChannel_122 (by decide) ?_
    exact k_MO_readChannel_136 l C E q24.2 a1 q24.1 (-1 : Int32) a1 _ h H locs ls hP hS (lv_sub hl [1, 2, 0] rfl)
def f_MO_readChannel_63 (S : XS) (a1 : Int32) : Option (XS) :=
  if ¬ (a1 < 0 ∨ 16 ≤ a1.toNatClampNeg) then (if (xgi S 18 a1.toNatClampNeg) = (1 : Int32) then ((f_MO_number S (1 : Int32) (8 : Int32) (1 : Int32)).bind fun q18 => f_MO_readChannel_98 q18.2 a1 q18.1 a1) else ((f_MO_number S (0 : Int32) (100000 : Int32) (1 : Int32)).bind fun q16 => f_MO_readChannel_98 q16.2 a1 q16.1 a1)) else none
set_option maxHeartbeats 4000000 in
set_option maxRecDepth 100000 in
theorem k_MO_readChannel_63 (l : Launch) {p : Program} {e : Env} {s : State} {m : MethodId} {args : Array Value} {below : List Frame} {meth : Method} {c : Code} {D : va_G} {lay : Nat → Nat} {cA : Nat → ClassId} (C : xB p s m args meth c R_MO b_MO_readChannel ((Option.none : Option Jvm.ClassFile.FieldType)) 6) (E : mE D lay cA s s.heap) : ∀ (S : XS) (a1 : Int32) (r : XS) (_ : f_MO_readChannel_63 S a1 = some r) (H : Heap) (locs : List Loc) (ls : Array Slot), va_P D xcl (mw lay cA S) H → va_S (mI lay) s.heap H locs → lv_has ls 6 [(0, .ref (lay 0)), (1, .int a1)] → W p l e rm_MO_readChannel s m args below meth c H locs 0 0 (MQ below (mqv D lay cA r) args s 0 0 (mI lay)) (F0 m 63 ls []) := by
  obtain ⟨hx, hb, hr, hml, hown, hts, hlk, hnh⟩ := id C
  have hK := E.K
  intro S a1 r h H locs ls hP hS hl
  unfold f_MO_readChannel_63 at h
  refine lv_aload_n hx hb d_MO_readChannel_63 rfl (lv_at hl 0 rfl) ?_
  refine va_get (v := .ref (lay 19)) (C := R_MO) (T := F_MO) (N := 41) hx hb hts i_MO hown hK hP 0 (mw_at (by decide) (mc_0 _ _ _ _)) rfl 35 (by decide) (hts _ wd_735) (fun _ h9 => h9) rfl d_MO_readChannel_64 ?_
  refine lv_iload_n hx hb d_MO_readChannel_67 rfl (lv_at hl 1 rfl) ?_
  refine lv_aload_n hx hb d_MO_readChannel_68 rfl (lv_at hl 0 rfl) ?_
  refine va_get (v := .ref (lay 18)) (C := R_MO) (T := F_MO) (N := 41) hx hb hts i_MO hown hK hP 0 (mw_at (by decide) (mc_0 _ _ _ _)) rfl 34 (by decide) (hts _ wd_734) (fun _ h9 => h9) rfl d_MO_readChannel_69 ?_
  refine lv_iload_n hx hb d_MO_readChannel_72 rfl (lv_at hl 1 rfl) ?_
  obtain ⟨hg14, h⟩ := xg h
  refine mal_18 hx hb E hP hg14 d_MO_readChannel_73 ?_
  refine lv_iconst (v := (1 : Int32)) hx hb d_MO_readChannel_74 (by decide) ?_
  refine lv_icmp_ne (tgt := 89) hx hb d_MO_readChannel_75 (by decide) (fun c_19 => ?_) (fun c_19 => ?_)
  · have h := xif_f c_19 h
    refine lv_aload_n hx hb d_MO_readChannel_89 rfl (lv_at hl 0 rfl) ?_
    refine lv_iconst (v := (0 : Int32)) hx hb d_MO_readChannel_90 (by decide) ?_
    refine lv_ldcw (v := (100000 : Int32)) hx hb hown (hts _ wd_937) d_MO_readChannel_91 ?_
    refine lv_iconst (v := (1 : Int32)) hx hb d_MO_readChannel_94 (by decide) ?_
    obtain ⟨q16, e15, h⟩ := xb h
    refine mc_i (va_runV (As := [.int (0 : Int32), .int (100000 : Int32), .int (1 : Int32)]) (rest := [.int a1, .ref (lay 19)]) ⟨hx, hb, hml, hown, hts⟩ (c_MO_number l D lay cA S (0 : Int32) (100000 : Int32) (1 : Int32) q16 e15) (cwV 3 hts (xT_V wd_914 wd_916 wp_37 wd_7 wd_917) rfl rfl rfl (by decide +kernel) ⟨Nat.le_of_ble_eq_true rfl, Nat.le_of_ble_eq_true rfl⟩) (mpV E hP hS (by decide) (mc_0 _ _ _ _) rfl) rfl rfl hl.1 rfl (lv_room (Nat.le_of_ble_eq_true rfl)) d_MO_readChannel_95 ⟨Nat.le_of_ble_eq_true rfl, Nat.le_of_ble_eq_true rfl⟩) hS (fun H locs hP hS => ?_)
    exact k_MO_readChannel_98 l C E q16.2 a1 q16.1 a1 _ h H locs ls hP hS hl
  · have h := xif_t c_19 h
    refine lv_aload_n hx hb d_MO_readChannel_78 rfl (lv_at hl 0 rfl) ?_
    refine lv_iconst (v := (1 : Int32)) hx hb d_MO_readChannel_79 (by decide) ?_
    refine lv_bipush (v := (8 : Int32)) hx hb d_MO_readChannel_80 (by decide) ?_
    refine lv_iconst (v := (1 : Int32)) hx hb d_MO_readChannel_82 (by decide) ?_
    obtain ⟨q18, e17, h⟩ := xb h
    refine mc_i (va_runV (As := [.int (1 : Int32), .int (8 : Int32), .int (1 : Int32)]) (rest := [.int a1, .ref (lay 19)]) ⟨hx, hb, hml, hown, hts⟩ (c_MO_number l D lay cA S (1 : Int32) (8 : Int32) (1 : Int32) q18 e17) (cwV 3 hts (xT_V wd_914 wd_916 wp_37 wd_7 wd_917) rfl rfl rfl (by decide +kernel) ⟨Nat.le_of_ble_eq_true rfl, Nat.le_of_ble_eq_true rfl⟩) (mpV E hP hS (by decide) (mc_0 _ _ _ _) rfl) rfl rfl hl.1 rfl (lv_room (Nat.le_of_ble_eq_true rfl)) d_MO_readChannel_83 ⟨Nat.le_of_ble_eq_true rfl, Nat.le_of_ble_eq_true rfl⟩) hS (fun H locs hP hS => ?_)
    refine lv_goto (tgt := 98) hx hb d_MO_readChannel_86 (by decide) ?_
    exact k_MO_readChannel_98 l C E q18.2 a1 q18.1 a1 _ h H locs ls hP hS hl
def f_MO_readChannel_47 (S : XS) (a1 : Int32) (t0 : Int32) (t1 : Int32) : Option (XS) :=
  if ¬ (t1 < 0 ∨ 16 ≤ t1.toNatClampNeg) then (if ¬ (a1 < 0 ∨ 16 ≤ a1.toNatClampNeg) then (if (xgi (xpi S 18 t1.toNatClampNeg t0) 18 a1.toNatClampNeg) = 0 then ((f_MO_need (xpi S 18 t1.toNatClampNeg t0) (18 : Int32)).bind fun q12 => f_MO_readChannel_63 q12 a1) else (f_MO_readChannel_63 (xpi S 18 t1.toNatClampNeg t0) a1)) else none) else none
set_option maxHeartbeats 4000000 in
set_option maxRecDepth 100000 in
theorem k_MO_readChannel_47 (l : Launch) {p : Program} {e : Env} {s : State} {m : MethodId} {args : Array Value} {below : List Frame} {meth : Method} {c : Code} {D : va_G} {lay : Nat → Nat} {cA : Nat → ClassId} (C : xB p s m args meth c R_MO b_MO_readChannel ((Option.none : Option Jvm.ClassFile.FieldType)) 6) (E : mE D lay cA s s.heap) : ∀ (S : XS) (a1 : Int32) (t0 : Int32) (t1 : Int32) (r : XS) (_ : f_MO_readChannel_47 S a1 t0 t1 = some r) (H : Heap) (locs : List Loc) (ls : Array Slot), va_P D xcl (mw lay cA S) H → va_S (mI lay) s.heap H locs → lv_has ls 6 [(0, .ref (lay 0)), (1, .int a1)] → W p l e rm_MO_readChannel s m args below meth c H locs 0 0 (MQ below (mqv D lay cA r) args s 0 0 (mI lay)) (F0 m 47 ls [.int t0, .int t1, .ref (lay 18)]) := by
  obtain ⟨hx, hb, hr, hml, hown, hts, hlk, hnh⟩ := id C
  have hK := E.K
  intro S a1 t0 t1 r h H locs ls hP hS hl
  unfold f_MO_readChannel_47 at h
  obtain ⟨hg9, h⟩ := xg h
  refine mas_18 hx hb E hP hS hg9 d_MO_readChannel_47 (fun H locs hP hS => ?_)
  refine lv_aload_n hx hb d_MO_readChannel_48 rfl (lv_at hl 0 rfl) ?_
  refine va_get (v := .ref (lay 18)) (C := R_MO) (T := F_MO) (N := 41) hx hb hts i_MO hown hK hP 0 (mw_at (by decide) (mc_0 _ _ _ _)) rfl 34 (by decide) (hts _ wd_734) (fun _ h9 => h9) rfl d_MO_readChannel_49 ?_
  refine lv_iload_n hx hb d_MO_readChannel_52 rfl (lv_at hl 1 rfl) ?_
  obtain ⟨hg10, h⟩ := xg h
  refine mal_18 hx hb E hP hg10 d_MO_readChannel_53 ?_
  refine lv_if_ne (tgt := 63) hx hb d_MO_readChannel_54 (by decide) (fun c_13 => ?_) (fun c_13 => ?_)
  · have h := xif_f c_13 h
    exact k_MO_readChannel_63 l C E (xpi S 18 t1.toNatClampNeg t0) a1 _ h H locs ls hP hS hl
  · have h := xif_t c_13 h
    refine lv_aload_n hx hb d_MO_readChannel_57 rfl (lv_at hl 0 rfl) ?_
    refine lv_bipush (v := (18 : Int32)) hx hb d_MO_readChannel_58 (by decide) ?_
    obtain ⟨q12, e11, h⟩ := xb h
    refine mc_v (va_runV (As := [.int (18 : Int32)]) (rest := []) ⟨hx, hb, hml, hown, hts⟩ (c_MO_need l D lay cA (xpi S 18 t1.toNatClampNeg t0) (18 : Int32) q12 e11) (cwV 1 hts (xT_V wd_874 wd_876 wp_27 wd_7 wd_877) rfl rfl rfl (by decide +kernel) ⟨Nat.le_of_ble_eq_true rfl, Nat.le_of_ble_eq_true rfl⟩) (mpV E hP hS (by decide) (mc_0 _ _ _ _) rfl) rfl rfl hl.1 rfl (lv_room (Nat.le_of_ble_eq_true rfl)) d_MO_readChannel_60 ⟨Nat.le_of_ble_eq_true rfl, Nat.le_of_ble_eq_true rfl⟩) hS (fun H locs hP hS => ?_)
    exact k_MO_readChannel_63 l C E q12 a1 _ h H locs ls hP hS hl
def f_MO_readChannel (S : XS)  : Option (XS) :=
  if (xgi S 0 29) = (16 : Int32) then ((f_MO_fail S (4 : Int32) (xgi S 0 6)).bind fun q7 => some q7) else ((f_MO_next S).bind fun q2 => (f_MO_accept q2 (19 : Int32)).bind fun q4 => if q4.1 = 0 then (f_MO_readChannel_47 q4.2 (xgi q2 0 29) (0 : Int32) (xgi q2 0 29)) else (f_MO_readChannel_47 q4.2 (xgi q2 0 29) (1 : Int32) (xgi q2 0 29)))
set_option maxHeartbeats 4000000 in
set_option maxRecDepth 100000 in
theorem k_MO_readChannel (l : Launch) {p : Program} {e : Env} {s : State} {m : MethodId} {args : Array Value} {below : List Frame} {meth : Method} {c : Code} {D : va_G} {lay : Nat → Nat} {cA : Nat → ClassId} (C : xB p s m args meth c R_MO b_MO_readChannel ((Option.none : Option Jvm.ClassFile.FieldType)) 6) (E : mE D lay cA s s.heap) : ∀ (S : XS)  (r : XS) (_ : f_MO_readChannel S = some r) (H : Heap) (locs : List Loc) (ls : Array Slot), va_P D xcl (mw lay cA S) H → va_S (mI lay) s.heap H locs → lv_has ls 6 [(0, .ref (lay 0))] → W p l e rm_MO_readChannel s m args below meth c H locs 0 0 (MQ below (mqv D lay cA r) args s 0 0 (mI lay)) (F0 m 0 ls []) := by
  obtain ⟨hx, hb, hr, hml, hown, hts, hlk, hnh⟩ := id C
  have hK := E.K
  intro S r h H locs ls hP hS hl
  unfold f_MO_readChannel at h
  refine lv_aload_n hx hb d_MO_readChannel_0 rfl (lv_at hl 0 rfl) ?_
  refine va_get (v := .int (xgi S 0 29)) (C := R_MO) (T := F_MO) (N := 41) hx hb hts i_MO hown hK hP 0 (mw_at (by decide) (mc_0 _ _ _ _)) rfl 29 (by decide) (hts _ wd_729) (fun _ h9 => h9) rfl d_MO_readChannel_1 ?_
  refine lv_bipush (v := (16 : Int32)) hx hb d_MO_readChannel_4 (by decide) ?_
  refine lv_icmp_ne (tgt := 19) hx hb d_MO_readChannel_6 (by decide) (fun c_8 => ?_) (fun c_8 => ?_)
  · have h := xif_f c_8 h
    refine lv_aload_n hx hb d_MO_readChannel_19 rfl (lv_at hl 0 rfl) ?_
    obtain ⟨q2, e1, h⟩ := xb h
    refine mc_v (va_runV (As := []) (rest := []) ⟨hx, hb, hml, hown, hts⟩ (c_MO_next l D lay cA S q2 e1) (cwV 0 hts (xT_V wd_841 wd_843 wp_21 wd_7 wd_844) rfl rfl rfl (by decide +kernel) ⟨Nat.le_of_ble_eq_true rfl, Nat.le_of_ble_eq_true rfl⟩) (mpV E hP hS (by decide) (mc_0 _ _ _ _) rfl) rfl rfl hl.1 rfl (lv_room (Nat.le_of_ble_eq_true rfl)) d_MO_readChannel_20 ⟨Nat.le_of_ble_eq_true rfl, Nat.le_of_ble_eq_true rfl⟩) hS (fun H locs hP hS => ?_)
    refine lv_aload_n hx hb d_MO_readChannel_23 rfl (lv_at hl 0 rfl) ?_
    refine va_get (v := .int (xgi q2 0 29)) (C := R_MO) (T := F_MO) (N := 41) hx hb hts i_MO hown hK hP 0 (mw_at (by decide) (mc_0 _ _ _ _)) rfl 29 (by decide) (hts _ wd_729) (fun _ h9 => h9) rfl d_MO_readChannel_24 ?_
    refine lv_istore_n (lv' := [(1, .int (xgi q2 0 29)), (0, .ref (lay 0))]) hx hb d_MO_readChannel_27 rfl hl (by decide) rfl (fun ls hl => ?_)
    refine lv_aload_n hx hb d_MO_readChannel_28 rfl (lv_at hl 1 rfl) ?_
    refine va_get (v := .ref (lay 18)) (C := R_MO) (T := F_MO) (N := 41) hx hb hts i_MO hown hK hP 0 (mw_at (by decide) (mc_0 _ _ _ _)) rfl 34 (by decide) (hts _ wd_734) (fun _ h9 => h9) rfl d_MO_readChannel_29 ?_
    refine lv_iload_n hx hb d_MO_readChannel_32 rfl (lv_at hl 0 rfl) ?_
    refine lv_aload_n hx hb d_MO_readChannel_33 rfl (lv_at hl 1 rfl) ?_
    refine lv_bipush (v := (19 : Int32)) hx hb d_MO_readChannel_34 (by decide) ?_
    obtain ⟨q4, e3, h⟩ := xb h
    refine mc_i (va_runV (As := [.int (19 : Int32)]) (rest := [.int (xgi q2 0 29), .ref (lay 18)]) ⟨hx, hb, hml, hown, hts⟩ (c_MO_accept l D lay cA q2 (19 : Int32) q4 e3) (cwV 1 hts (xT_V wd_938 wd_940 wp_42 wd_7 wd_941) rfl rfl rfl (by decide +kernel) ⟨Nat.le_of_ble_eq_true rfl, Nat.le_of_ble_eq_true rfl⟩) (mpV E hP hS (by decide) (mc_0 _ _ _ _) rfl) rfl rfl hl.1 rfl (lv_room (Nat.le_of_ble_eq_true rfl)) d_MO_readChannel_36 ⟨Nat.le_of_ble_eq_true rfl, Nat.le_of_ble_eq_true rfl⟩) hS (fun H locs hP hS => ?_)
    refine lv_if_eq (tgt := 46) hx hb d_MO_readChannel_39 (by decide) (fun c_5 => ?_) (fun c_5 => ?_)
    · have h := xif_t c_5 h
      refine lv_iconst (v := (0 : Int32)) hx hb d_MO_readChannel_46 (by decide) ?_
      exact k_MO_readChannel_47 l C E q4.2 (xgi q2 0 29) (0 : Int32) (xgi q2 0 29) _ h H locs ls hP hS (lv_sub hl [1, 0] rfl)
    · have h := xif_f c_5 h
      refine lv_iconst (v := (1 : Int32)) hx hb d_MO_readChannel_42 (by decide) ?_
      refine lv_goto (tgt := 47) hx hb d_MO_readChannel_43 (by decide) ?_
      exact k_MO_readChannel_47 l C E q4.2 (xgi q2 0 29) (1 : Int32) (xgi q2 0 29) _ h H locs ls hP hS (lv_sub hl [1, 0] rfl)
  · have h := xif_t c_8 h
    refine lv_aload_n hx hb d_MO_readChannel_9 rfl (lv_at hl 0 rfl) ?_
    refine lv_iconst (v := (4 : Int32)) hx hb d_MO_readChannel_10 (by decide) ?_
    refine lv_aload_n hx hb d_MO_readChannel_11 rfl (lv_at hl 0 rfl) ?_
    refine va_get (v := .int (xgi S 0 6)) (C := R_MO) (T := F_MO) (N := 41) hx hb hts i_MO hown hK hP 0 (mw_at (by decide) (mc_0 _ _ _ _)) rfl 6 (by decide) (hts _ wd_706) (fun _ h9 => h9) rfl d_MO_readChannel_12 ?_
    obtain ⟨q7, e6, h⟩ := xb h
    refine mc_v (va_runV (As := [.int (4 : Int32), .int (xgi S 0 6)]) (rest := []) ⟨hx, hb, hml, hown, hts⟩ (c_MO_fail l D lay cA S (4 : Int32) (xgi S 0 6) q7 e6) (cwV 2 hts (xT_V wd_890 wd_892 wp_31 wd_7 wd_893) rfl rfl rfl (by decide +kernel) ⟨Nat.le_of_ble_eq_true rfl, Nat.le_of_ble_eq_true rfl⟩) (mpV E hP hS (by decide) (mc_0 _ _ _ _) rfl) rfl rfl hl.1 rfl (lv_room (Nat.le_of_ble_eq_true rfl)) d_MO_readChannel_15 ⟨Nat.le_of_ble_eq_true rfl, Nat.le_of_ble_eq_true rfl⟩) hS (fun H locs hP hS => ?_)
    have h9 := Option.some.inj h
    subst h9
    exact W.vret hx hb hr (fun t ht hW => ⟨⟨(), rfl, trivial, by show va_P D xcl _ t.heap; rw [ht]; exact hP⟩, hS.F ht⟩) hS.2.2 d_MO_readChannel_18
theorem c_MO_readChannel (l : Launch) (D : va_G) (lay : Nat → Nat) (cA : Nat → ClassId) (S : XS)  (r : XS) (h : f_MO_readChannel S  = some r) : Met l y_MO_readChannel (.code y_MO_readChannel b_MO_readChannel 6 ((Option.none : Option Jvm.ClassFile.FieldType)) :: xT) rm_MO_readChannel (mPc D lay cA S [.ref (lay 0)]) (mqv D lay cA r) 0 0 (mI lay) := by
  refine Met.ofW (cc := b_MO_readChannel) (maxL := 6) (ret := (Option.none : Option Jvm.ClassFile.FieldType)) (by decide +kernel) rfl ?_
  intro p e s m args below meth c s₁ B hml hv
  obtain ⟨rfl, hP, E⟩ := hv
  have C := xB_of B hml
  have hl := lv_entry ([.ref (lay 0)]) (n := 6) (Nat.le_of_ble_eq_true rfl)
  rw [lg_entry_eq]
  generalize (lg_sl ([.ref (lay 0)]) ++ List.replicate (6 - (lg_sl ([.ref (lay 0)])).length) Slot.unset).toArray = ls at hl ⊢
  exact k_MO_readChannel l C E S  r h s.heap [] ls hP va_S.rf hl
/-! ConfigTextsModel.readWindow()V -/
def rm_MO_readWindow : Room := { frames := 4, cells := 0, slots := 0, locals := 89 }
theorem d_MO_readWindow_0 : decode b_MO_readWindow 0 = .ok (.aload_n 0, 1) := by decide +kernel
theorem d_MO_readWindow_1 : decode b_MO_readWindow 1 = .ok (.getfield 312, 3) := by decide +kernel
theorem d_MO_readWindow_4 : decode b_MO_readWindow 4 = .ok (.bipush 16, 2) := by decide +kernel
theorem d_MO_readWindow_6 : decode b_MO_readWindow 6 = .ok (.if_icmp .ne 8, 3) := by decide +kernel
theorem d_MO_readWindow_9 : decode b_MO_readWindow 9 = .ok (.aload_n 0, 1) := by decide +kernel
theorem d_MO_readWindow_10 : decode b_MO_readWindow 10 = .ok (.iconst 4, 1) := by decide +kernel
theorem d_MO_readWindow_11 : decode b_MO_readWindow 11 = .ok (.invokevirtual 221, 3) := by decide +kernel
theorem d_MO_readWindow_14 : decode b_MO_readWindow 14 = .ok (.aload_n 0, 1) := by decide +kernel
theorem d_MO_readWindow_15 : decode b_MO_readWindow 15 = .ok (.getfield 197, 3) := by decide +kernel
theorem d_MO_readWindow_18 : decode b_MO_readWindow 18 = .ok (.iconst 1, 1) := by decide +kernel
theorem d_MO_readWindow_19 : decode b_MO_readWindow 19 = .ok (.if_icmp .eq 8, 3) := by decide +kernel
theorem d_MO_readWindow_22 : decode b_MO_readWindow 22 = .ok (.aload_n 0, 1) := by decide +kernel
theorem d_MO_readWindow_23 : decode b_MO_readWindow 23 = .ok (.iconst 1, 1) := by decide +kernel
theorem d_MO_readWindow_24 : decode b_MO_readWindow 24 = .ok (.invokevirtual 221, 3) := by decide +kernel
theorem d_MO_readWindow_27 : decode b_MO_readWindow 27 = .ok (.aload_n 0, 1) := by decide +kernel
theorem d_MO_readWindow_28 : decode b_MO_readWindow 28 = .ok (.invokevirtual 214, 3) := by decide +kernel
theorem d_MO_readWindow_31 : decode b_MO_readWindow 31 = .ok (.ifCond .ne 4, 3) := by decide +kernel
theorem d_MO_readWindow_34 : decode b_MO_readWindow 34 = .ok (.return_, 1) := by decide +kernel
theorem d_MO_readWindow_35 : decode b_MO_readWindow 35 = .ok (.aload_n 0, 1) := by decide +kernel
theorem d_MO_readWindow_36 : decode b_MO_readWindow 36 = .ok (.getfield 152, 3) := by decide +kernel
theorem d_MO_readWindow_39 : decode b_MO_readWindow 39 = .ok (.aload_n 0, 1) := by decide +kernel
theorem d_MO_readWindow_40 : decode b_MO_readWindow 40 = .ok (.getfield 312, 3) := by decide +kernel
theorem d_MO_readWindow_43 : decode b_MO_readWindow 43 = .ok (.aload_n 0, 1) := by decide +kernel
theorem d_MO_readWindow_44 : decode b_MO_readWindow 44 = .ok (.aload_n 0, 1) := by decide +kernel
theorem d_MO_readWindow_45 : decode b_MO_readWindow 45 = .ok (.getfield 167, 3) := by decide +kernel
theorem d_MO_readWindow_48 : decode b_MO_readWindow 48 = .ok (.invokevirtual 291, 3) := by decide +kernel
theorem d_MO_readWindow_51 : decode b_MO_readWindow 51 = .ok (.iastore, 1) := by decide +kernel
theorem d_MO_readWindow_52 : decode b_MO_readWindow 52 = .ok (.aload_n 0, 1) := by decide +kernel
theorem d_MO_readWindow_53 : decode b_MO_readWindow 53 = .ok (.getfield 152, 3) := by decide +kernel
theorem d_MO_readWindow_56 : decode b_MO_readWindow 56 = .ok (.aload_n 0, 1) := by decide +kernel
theorem d_MO_readWindow_57 : decode b_MO_readWindow 57 = .ok (.getfield 312, 3) := by decide +kernel
theorem d_MO_readWindow_60 : decode b_MO_readWindow 60 = .ok (.iaload, 1) := by decide +kernel
theorem d_MO_readWindow_61 : decode b_MO_readWindow 61 = .ok (.iconst (-1), 1) := by decide +kernel
theorem d_MO_readWindow_62 : decode b_MO_readWindow 62 = .ok (.if_icmp .ne 14, 3) := by decide +kernel
theorem d_MO_readWindow_65 : decode b_MO_readWindow 65 = .ok (.aload_n 0, 1) := by decide +kernel
theorem d_MO_readWindow_66 : decode b_MO_readWindow 66 = .ok (.bipush 6, 2) := by decide +kernel
theorem d_MO_readWindow_68 : decode b_MO_readWindow 68 = .ok (.aload_n 0, 1) := by decide +kernel
theorem d_MO_readWindow_69 : decode b_MO_readWindow 69 = .ok (.getfield 185, 3) := by decide +kernel
theorem d_MO_readWindow_72 : decode b_MO_readWindow 72 = .ok (.invokevirtual 210, 3) := by decide +kernel
theorem d_MO_readWindow_75 : decode b_MO_readWindow 75 = .ok (.return_, 1) := by decide +kernel
theorem d_MO_readWindow_76 : decode b_MO_readWindow 76 = .ok (.aload_n 0, 1) := by decide +kernel
theorem d_MO_readWindow_77 : decode b_MO_readWindow 77 = .ok (.invokevirtual 225, 3) := by decide +kernel
theorem d_MO_readWindow_80 : decode b_MO_readWindow 80 = .ok (.aload_n 0, 1) := by decide +kernel
theorem d_MO_readWindow_81 : decode b_MO_readWindow 81 = .ok (.getfield 155, 3) := by decide +kernel
theorem d_MO_readWindow_84 : decode b_MO_readWindow 84 = .ok (.aload_n 0, 1) := by decide +kernel
theorem d_MO_readWindow_85 : decode b_MO_readWindow 85 = .ok (.getfield 312, 3) := by decide +kernel
theorem d_MO_readWindow_88 : decode b_MO_readWindow 88 = .ok (.aload_n 0, 1) := by decide +kernel
theorem d_MO_readWindow_89 : decode b_MO_readWindow 89 = .ok (.iconst 1, 1) := by decide +kernel
theorem d_MO_readWindow_90 : decode b_MO_readWindow 90 = .ok (.sipush 200, 3) := by decide +kernel
theorem d_MO_readWindow_93 : decode b_MO_readWindow 93 = .ok (.iconst 1, 1) := by decide +kernel
theorem d_MO_readWindow_94 : decode b_MO_readWindow 94 = .ok (.invokevirtual 234, 3) := by decide +kernel
theorem d_MO_readWindow_97 : decode b_MO_readWindow 97 = .ok (.iastore, 1) := by decide +kernel
theorem d_MO_readWindow_98 : decode b_MO_readWindow 98 = .ok (.aload_n 0, 1) := by decide +kernel
theorem d_MO_readWindow_99 : decode b_MO_readWindow 99 = .ok (.bipush 59, 2) := by decide +kernel
theorem d_MO_readWindow_101 : decode b_MO_readWindow 101 = .ok (.invokevirtual 238, 3) := by decide +kernel
theorem d_MO_readWindow_104 : decode b_MO_readWindow 104 = .ok (.aload_n 0, 1) := by decide +kernel
theorem d_MO_readWindow_105 : decode b_MO_readWindow 105 = .ok (.dup, 1) := by decide +kernel
theorem d_MO_readWindow_106 : decode b_MO_readWindow 106 = .ok (.getfield 315, 3) := by decide +kernel
theorem d_MO_readWindow_109 : decode b_MO_readWindow 109 = .ok (.aload_n 0, 1) := by decide +kernel
theorem d_MO_readWindow_110 : decode b_MO_readWindow 110 = .ok (.getfield 155, 3) := by decide +kernel
theorem d_MO_readWindow_113 : decode b_MO_readWindow 113 = .ok (.aload_n 0, 1) := by decide +kernel
theorem d_MO_readWindow_114 : decode b_MO_readWindow 114 = .ok (.getfield 312, 3) := by decide +kernel
theorem d_MO_readWindow_117 : decode b_MO_readWindow 117 = .ok (.iaload, 1) := by decide +kernel
theorem d_MO_readWindow_118 : decode b_MO_readWindow 118 = .ok (.iadd, 1) := by decide +kernel
theorem d_MO_readWindow_119 : decode b_MO_readWindow 119 = .ok (.putfield 315, 3) := by decide +kernel
theorem d_MO_readWindow_122 : decode b_MO_readWindow 122 = .ok (.aload_n 0, 1) := by decide +kernel
theorem d_MO_readWindow_123 : decode b_MO_readWindow 123 = .ok (.dup, 1) := by decide +kernel
theorem d_MO_readWindow_124 : decode b_MO_readWindow 124 = .ok (.getfield 312, 3) := by decide +kernel
theorem d_MO_readWindow_127 : decode b_MO_readWindow 127 = .ok (.iconst 1, 1) := by decide +kernel
theorem d_MO_readWindow_128 : decode b_MO_readWindow 128 = .ok (.iadd, 1) := by decide +kernel
theorem d_MO_readWindow_129 : decode b_MO_readWindow 129 = .ok (.putfield 312, 3) := by decide +kernel
theorem d_MO_readWindow_132 : decode b_MO_readWindow 132 = .ok (.return_, 1) := by decide +kernel
def f_MO_readWindow_27 (S : XS)  : Option (XS) :=
  (f_MO_good S).bind fun q8 => if q8 = 0 then (some S) else ((f_MO_partitionOf S (xgl S 0 10)).bind fun q10 => if ¬ ((xgi S 0 30) < 0 ∨ 16 ≤ (xgi S 0 30).toNatClampNeg) then (if ¬ ((xgi (xpi S 23 (xgi S 0 30).toNatClampNeg q10) 0 30) < 0 ∨ 16 ≤ (xgi (xpi S 23 (xgi S 0 30).toNatClampNeg q10) 0 30).toNatClampNeg) then (if (xgi (xpi S 23 (xgi S 0 30).toNatClampNeg q10) 23 (xgi (xpi S 23 (xgi S 0 30).toNatClampNeg q10) 0 30).toNatClampNeg) = (-1 : Int32) then ((f_MO_fail (xpi S 23 (xgi S 0 30).toNatClampNeg q10) (6 : Int32) (xgi (xpi S 23 (xgi S 0 30).toNatClampNeg q10) 0 6)).bind fun q22 => some q22) else ((f_MO_next (xpi S 23 (xgi S 0 30).toNatClampNeg q10)).bind fun q14 => (f_MO_number q14 (1 : Int32) (200 : Int32) (1 : Int32)).bind fun q16 => if ¬ ((xgi q14 0 30) < 0 ∨ 16 ≤ (xgi q14 0 30).toNatClampNeg) then ((f_MO_sign (xpi q16.2 24 (xgi q14 0 30).toNatClampNeg q16.1) (59 : Int32)).bind fun q19 => if ¬ ((xgi q19 0 30) < 0 ∨ 16 ≤ (xgi q19 0 30).toNatClampNeg) then (some (xpi (xpi q19 0 31 ((xgi q19 0 31) + (xgi q19 24 (xgi q19 0 30).toNatClampNeg))) 0 30 ((xgi (xpi q19 0 31 ((xgi q19 0 31) + (xgi q19 24 (xgi q19 0 30).toNatClampNeg))) 0 30) + (1 : Int32)))) else none) else none)) else none) else none)
set_option maxHeartbeats 4000000 in
set_option maxRecDepth 100000 in
theorem k_MO_readWindow_27 (l : Launch) {p : Program} {e : Env} {s : State} {m : MethodId} {args : Array Value} {below : List Frame} {meth : Method} {c : Code} {D : va_G} {lay : Nat → Nat} {cA : Nat → ClassId} (C : xB p s m args meth c R_MO b_MO_readWindow ((Option.none : Option Jvm.ClassFile.FieldType)) 1) (E : mE D lay cA s s.heap) : ∀ (S : XS)  (r : XS) (_ : f_MO_readWindow_27 S = some r) (H : Heap) (locs : List Loc) (ls : Array Slot), va_P D xcl (mw lay cA S) H → va_S (mI lay) s.heap H locs → lv_has ls 1 [(0, .ref (lay 0))] → W p l e rm_MO_readWindow s m args below meth c H locs 0 0 (MQ below (mqv D lay cA r) args s 0 0 (mI lay)) (F0 m 27 ls []) := by
  obtain ⟨hx, hb, hr, hml, hown, hts, hlk, hnh⟩ := id C
  have hK := E.K
  intro S r h H locs ls hP hS hl
  unfold f_MO_readWindow_27 at h
  refine lv_aload_n hx hb d_MO_readWindow_27 rfl (lv_at hl 0 rfl) ?_
  obtain ⟨q8, e7, h⟩ := xb h
  refine mc_i (va_runV (As := []) (rest := []) ⟨hx, hb, hml, hown, hts⟩ (c_MO_good l D lay cA S q8 e7) (cwV 0 hts (xT_V wd_882 wd_884 wp_29 wd_7 wd_885) rfl rfl rfl (by decide +kernel) ⟨Nat.le_of_ble_eq_true rfl, Nat.le_of_ble_eq_true rfl⟩) (mpV E hP hS (by decide) (mc_0 _ _ _ _) rfl) rfl rfl hl.1 rfl (lv_room (Nat.le_of_ble_eq_true rfl)) d_MO_readWindow_28 ⟨Nat.le_of_ble_eq_true rfl, Nat.le_of_ble_eq_true rfl⟩) hS (fun H locs hP hS => ?_)
  refine lv_if_ne (tgt := 35) hx hb d_MO_readWindow_31 (by decide) (fun c_24 => ?_) (fun c_24 => ?_)
  · have h := xif_f c_24 h
    refine lv_aload_n hx hb d_MO_readWindow_35 rfl (lv_at hl 0 rfl) ?_
    refine va_get (v := .ref (lay 23)) (C := R_MO) (T := F_MO) (N := 41) hx hb hts i_MO hown hK hP 0 (mw_at (by decide) (mc_0 _ _ _ _)) rfl 39 (by decide) (hts _ wd_739) (fun _ h9 => h9) rfl d_MO_readWindow_36 ?_
    refine lv_aload_n hx hb d_MO_readWindow_39 rfl (lv_at hl 0 rfl) ?_
    refine va_get (v := .int (xgi S 0 30)) (C := R_MO) (T := F_MO) (N := 41) hx hb hts i_MO hown hK hP 0 (mw_at (by decide) (mc_0 _ _ _ _)) rfl 30 (by decide) (hts _ wd_730) (fun _ h9 => h9) rfl d_MO_readWindow_40 ?_
    refine lv_aload_n hx hb d_MO_readWindow_43 rfl (lv_at hl 0 rfl) ?_
    refine lv_aload_n hx hb d_MO_readWindow_44 rfl (lv_at hl 0 rfl) ?_
    refine va_get (v := .long (xgl S 0 10)) (C := R_MO) (T := F_MO) (N := 41) hx hb hts i_MO hown hK hP 0 (mw_at (by decide) (mc_0 _ _ _ _)) rfl 10 (by decide) (hts _ wd_710) (fun _ h9 => h9) rfl d_MO_readWindow_45 ?_
    obtain ⟨q10, e9, h⟩ := xb h
    refine mc_i (va_runV (As := [.long (xgl S 0 10)]) (rest := [.int (xgi S 0 30), .ref (lay 23)]) ⟨hx, hb, hml, hown, hts⟩ (c_MO_partitionOf l D lay cA S (xgl S 0 10) q10 e9) (cwV 1 hts (xT_V wd_894 wd_896 wp_32 wd_7 wd_897) rfl rfl rfl (by decide +kernel) ⟨Nat.le_of_ble_eq_true rfl, Nat.le_of_ble_eq_true rfl⟩) (mpV E hP hS (by decide) (mc_0 _ _ _ _) rfl) rfl rfl hl.1 rfl (lv_room (Nat.le_of_ble_eq_true rfl)) d_MO_readWindow_48 ⟨Nat.le_of_ble_eq_true rfl, Nat.le_of_ble_eq_true rfl⟩) hS (fun H locs hP hS => ?_)
    obtain ⟨hg11, h⟩ := xg h
    refine mas_23 hx hb E hP hS hg11 d_MO_readWindow_51 (fun H locs hP hS => ?_)
    refine lv_aload_n hx hb d_MO_readWindow_52 rfl (lv_at hl 0 rfl) ?_
    refine va_get (v := .ref (lay 23)) (C := R_MO) (T := F_MO) (N := 41) hx hb hts i_MO hown hK hP 0 (mw_at (by decide) (mc_0 _ _ _ _)) rfl 39 (by decide) (hts _ wd_739) (fun _ h9 => h9) rfl d_MO_readWindow_53 ?_
    refine lv_aload_n hx hb d_MO_readWindow_56 rfl (lv_at hl 0 rfl) ?_
    refine va_get (v := .int (xgi (xpi S 23 (xgi S 0 30).toNatClampNeg q10) 0 30)) (C := R_MO) (T := F_MO) (N := 41) hx hb hts i_MO hown hK hP 0 (mw_at (by decide) (mc_0 _ _ _ _)) rfl 30 (by decide) (hts _ wd_730) (fun _ h9 => h9) rfl d_MO_readWindow_57 ?_
    obtain ⟨hg12, h⟩ := xg h
    refine mal_23 hx hb E hP hg12 d_MO_readWindow_60 ?_
    refine lv_iconst (v := (-1 : Int32)) hx hb d_MO_readWindow_61 (by decide) ?_
    refine lv_icmp_ne (tgt := 76) hx hb d_MO_readWindow_62 (by decide) (fun c_23 => ?_) (fun c_23 => ?_)
    · have h := xif_f c_23 h
      refine lv_aload_n hx hb d_MO_readWindow_76 rfl (lv_at hl 0 rfl) ?_
      obtain ⟨q14, e13, h⟩ := xb h
      refine mc_v (va_runV (As := []) (rest := []) ⟨hx, hb, hml, hown, hts⟩ (c_MO_next l D lay cA (xpi S 23 (xgi S 0 30).toNatClampNeg q10) q14 e13) (cwV 0 hts (xT_V wd_841 wd_843 wp_21 wd_7 wd_844) rfl rfl rfl (by decide +kernel) ⟨Nat.le_of_ble_eq_true rfl, Nat.le_of_ble_eq_true rfl⟩) (mpV E hP hS (by decide) (mc_0 _ _ _ _) rfl) rfl rfl hl.1 rfl (lv_room (Nat.le_of_ble_eq_true rfl)) d_MO_readWindow_77 ⟨Nat.le_of_ble_eq_true rfl, Nat.le_of_ble_eq_true rfl⟩) hS (fun H locs hP hS => ?_)
      refine lv_aload_n hx hb d_MO_readWindow_80 rfl (lv_at hl 0 rfl) ?_
      refine va_get (v := .ref (lay 24)) (C := R_MO) (T := F_MO) (N := 41) hx hb hts i_MO hown hK hP 0 (mw_at (by decide) (mc_0 _ _ _ _)) rfl 40 (by decide) (hts _ wd_740) (fun _ h9 => h9) rfl d_MO_readWindow_81 ?_
      refine lv_aload_n hx hb d_MO_readWindow_84 rfl (lv_at hl 0 rfl) ?_
      refine va_get (v := .int (xgi q14 0 30)) (C := R_MO) (T := F_MO) (N := 41) hx hb hts i_MO hown hK hP 0 (mw_at (by decide) (mc_0 _ _ _ _)) rfl 30 (by decide) (hts _ wd_730) (fun _ h9 => h9) rfl d_MO_readWindow_85 ?_
      refine lv_aload_n hx hb d_MO_readWindow_88 rfl (lv_at hl 0 rfl) ?_
      refine lv_iconst (v := (1 : Int32)) hx hb d_MO_readWindow_89 (by decide) ?_
      refine lv_sipush (v := (200 : Int32)) hx hb d_MO_readWindow_90 (by decide) ?_
      refine lv_iconst (v := (1 : Int32)) hx hb d_MO_readWindow_93 (by decide) ?_
      obtain ⟨q16, e15, h⟩ := xb h
      refine mc_i (va_runV (As := [.int (1 : Int32), .int (200 : Int32), .int (1 : Int32)]) (rest := [.int (xgi q14 0 30), .ref (lay 24)]) ⟨hx, hb, hml, hown, hts⟩ (c_MO_number l D lay cA q14 (1 : Int32) (200 : Int32) (1 : Int32) q16 e15) (cwV 3 hts (xT_V wd_914 wd_916 wp_37 wd_7 wd_917) rfl rfl rfl (by decide +kernel) ⟨Nat.le_of_ble_eq_true rfl, Nat.le_of_ble_eq_true rfl⟩) (mpV E hP hS (by decide) (mc_0 _ _ _ _) rfl) rfl rfl hl.1 rfl (lv_room (Nat.le_of_ble_eq_true rfl)) d_MO_readWindow_94 ⟨Nat.le_of_ble_eq_true rfl, Nat.le_of_ble_eq_true rfl⟩) hS (fun H locs hP hS => ?_)
      obtain ⟨hg17, h⟩ := xg h
      refine mas_24 hx hb E hP hS hg17 d_MO_readWindow_97 (fun H locs hP hS => ?_)
      refine lv_aload_n hx hb d_MO_readWindow_98 rfl (lv_at hl 0 rfl) ?_
      refine lv_bipush (v := (59 : Int32)) hx hb d_MO_readWindow_99 (by decide) ?_
      obtain ⟨q19, e18, h⟩ := xb h
      refine mc_v (va_runV (As := [.int (59 : Int32)]) (rest := []) ⟨hx, hb, hml, hown, hts⟩ (c_MO_sign l D lay cA (xpi q16.2 24 (xgi q14 0 30).toNatClampNeg q16.1) (59 : Int32) q19 e18) (cwV 1 hts (xT_V wd_902 wd_904 wp_34 wd_7 wd_905) rfl rfl rfl (by decide +kernel) ⟨Nat.le_of_ble_eq_true rfl, Nat.le_of_ble_eq_true rfl⟩) (mpV E hP hS (by decide) (mc_0 _ _ _ _) rfl) rfl rfl hl.1 rfl (lv_room (Nat.le_of_ble_eq_true rfl)) d_MO_readWindow_101 ⟨Nat.le_of_ble_eq_true rfl, Nat.le_of_ble_eq_true rfl⟩) hS (fun H locs hP hS => ?_)
      refine lv_aload_n hx hb d_MO_readWindow_104 rfl (lv_at hl 0 rfl) ?_
      refine lv_dup hx hb d_MO_readWindow_105 rfl ?_
      refine va_get (v := .int (xgi q19 0 31)) (C := R_MO) (T := F_MO) (N := 41) hx hb hts i_MO hown hK hP 0 (mw_at (by decide) (mc_0 _ _ _ _)) rfl 31 (by decide) (hts _ wd_731) (fun _ h9 => h9) rfl d_MO_readWindow_106 ?_
      refine lv_aload_n hx hb d_MO_readWindow_109 rfl (lv_at hl 0 rfl) ?_
      refine va_get (v := .ref (lay 24)) (C := R_MO) (T := F_MO) (N := 41) hx hb hts i_MO hown hK hP 0 (mw_at (by decide) (mc_0 _ _ _ _)) rfl 40 (by decide) (hts _ wd_740) (fun _ h9 => h9) rfl d_MO_readWindow_110 ?_
      refine lv_aload_n hx hb d_MO_readWindow_113 rfl (lv_at hl 0 rfl) ?_
      refine va_get (v := .int (xgi q19 0 30)) (C := R_MO) (T := F_MO) (N := 41) hx hb hts i_MO hown hK hP 0 (mw_at (by decide) (mc_0 _ _ _ _)) rfl 30 (by decide) (hts _ wd_730) (fun _ h9 => h9) rfl d_MO_readWindow_114 ?_
      obtain ⟨hg20, h⟩ := xg h
      refine mal_24 hx hb E hP hg20 d_MO_readWindow_117 ?_
      refine lv_iadd hx hb d_MO_readWindow_118 ?_
      refine mput_31 hx hb hts hown E hP hS (hts _ wd_731) d_MO_readWindow_119 (fun H locs hP hS => ?_)
      refine lv_aload_n hx hb d_MO_readWindow_122 rfl (lv_at hl 0 rfl) ?_
      refine lv_dup hx hb d_MO_readWindow_123 rfl ?_
      refine va_get (v := .int (xgi (xpi q19 0 31 ((xgi q19 0 31) + (xgi q19 24 (xgi q19 0 30).toNatClampNeg))) 0 30)) (C := R_MO) (T := F_MO) (N := 41) hx hb hts i_MO hown hK hP 0 (mw_at (by decide) (mc_0 _ _ _ _)) rfl 30 (by decide) (hts _ wd_730) (fun _ h9 => h9) rfl d_MO_readWindow_124 ?_
      refine lv_iconst (v := (1 : Int32)) hx hb d_MO_readWindow_127 (by decide) ?_
      refine lv_iadd hx hb d_MO_readWindow_128 ?_
      refine mput_30 hx hb hts hown E hP hS (hts _ wd_730) d_MO_readWindow_129 (fun H locs hP hS => ?_)
      have h9 := Option.some.inj h
      subst h9
      exact W.vret hx hb hr (fun t ht hW => ⟨⟨(), rfl, trivial, by show va_P D xcl _ t.heap; rw [ht]; exact hP⟩, hS.F ht⟩) hS.2.2 d_MO_readWindow_132
    · have h := xif_t c_23 h
      refine lv_aload_n hx hb d_MO_readWindow_65 rfl (lv_at hl 0 rfl) ?_
      refine lv_bipush (v := (6 : Int32)) hx hb d_MO_readWindow_66 (by decide) ?_
      refine lv_aload_n hx hb d_MO_readWindow_68 rfl (lv_at hl 0 rfl) ?_
      refine va_get (v := .int (xgi (xpi S 23 (xgi S 0 30).toNatClampNeg q10) 0 6)) (C := R_MO) (T := F_MO) (N := 41) hx hb hts i_MO hown hK hP 0 (mw_at (by decide) (mc_0 _ _ _ _)) rfl 6 (by decide) (hts _ wd_706) (fun _ h9 => h9) rfl d_MO_readWindow_69 ?_
      obtain ⟨q22, e21, h⟩ := xb h
      refine mc_v (va_runV (As := [.int (6 : Int32), .int (xgi (xpi S 23 (xgi S 0 30).toNatClampNeg q10) 0 6)]) (rest := []) ⟨hx, hb, hml, hown, hts⟩ (c_MO_fail l D lay cA (xpi S 23 (xgi S 0 30).toNatClampNeg q10) (6 : Int32) (xgi (xpi S 23 (xgi S 0 30).toNatClampNeg q10) 0 6) q22 e21) (cwV 2 hts (xT_V wd_890 wd_892 wp_31 wd_7 wd_893) rfl rfl rfl (by decide +kernel) ⟨Nat.le_of_ble_eq_true rfl, Nat.le_of_ble_eq_true rfl⟩) (mpV E hP hS (by decide) (mc_0 _ _ _ _) rfl) rfl rfl hl.1 rfl (lv_room (Nat.le_of_ble_eq_true rfl)) d_MO_readWindow_72 ⟨Nat.le_of_ble_eq_true rfl, Nat.le_of_ble_eq_true rfl⟩) hS (fun H locs hP hS => ?_)
      have h9 := Option.some.inj h
      subst h9
      exact W.vret hx hb hr (fun t ht hW => ⟨⟨(), rfl, trivial, by show va_P D xcl _ t.heap; rw [ht]; exact hP⟩, hS.F ht⟩) hS.2.2 d_MO_readWindow_75
  · have h := xif_t c_24 h
    have h9 := Option.some.inj h
    subst h9
    exact W.vret hx hb hr (fun t ht hW => ⟨⟨(), rfl, trivial, by show va_P D xcl _ t.heap; rw [ht]; exact hP⟩, hS.F ht⟩) hS.2.2 d_MO_readWindow_34
def f_MO_readWindow_14 (S : XS)  : Option (XS) :=
  if (xgi S 0 8) = (1 : Int32) then (f_MO_readWindow_27 S) else ((f_MO_bad S (1 : Int32)).bind fun q5 => f_MO_readWindow_27 q5)
set_option maxHeartbeats 4000000 in
set_option maxRecDepth 100000 in
theorem k_MO_readWindow_14 (l : Launch) {p : Program} {e : Env} {s : State} {m : MethodId} {args : Array Value} {below : List Frame} {meth : Method} {c : Code} {D : va_G} {lay : Nat → Nat} {cA : Nat → ClassId} (C : xB p s m args meth c R_MO b_MO_readWindow ((Option.none : Option Jvm.ClassFile.FieldType)) 1) (E : mE D lay cA s s.heap) : ∀ (S : XS)  (r : XS) (_ : f_MO_readWindow_14 S = some r) (H : Heap) (locs : List Loc) (ls : Array Slot), va_P D xcl (mw lay cA S) H → va_S (mI lay) s.heap H locs → lv_has ls 1 [(0, .ref (lay 0))] → W p l e rm_MO_readWindow s m args below meth c H locs 0 0 (MQ below (mqv D lay cA r) args s 0 0 (mI lay)) (F0 m 14 ls []) := by
  obtain ⟨hx, hb, hr, hml, hown, hts, hlk, hnh⟩ := id C
  have hK := E.K
  intro S r h H locs ls hP hS hl
  unfold f_MO_readWindow_14 at h
  refine lv_aload_n hx hb d_MO_readWindow_14 rfl (lv_at hl 0 rfl) ?_
  refine va_get (v := .int (xgi S 0 8)) (C := R_MO) (T := F_MO) (N := 41) hx hb hts i_MO hown hK hP 0 (mw_at (by decide) (mc_0 _ _ _ _)) rfl 8 (by decide) (hts _ wd_708) (fun _ h9 => h9) rfl d_MO_readWindow_15 ?_
  refine lv_iconst (v := (1 : Int32)) hx hb d_MO_readWindow_18 (by decide) ?_
  refine lv_icmp_eq (tgt := 27) hx hb d_MO_readWindow_19 (by decide) (fun c_6 => ?_) (fun c_6 => ?_)
  · have h := xif_t c_6 h
    exact k_MO_readWindow_27 l C E S  _ h H locs ls hP hS hl
  · have h := xif_f c_6 h
    refine lv_aload_n hx hb d_MO_readWindow_22 rfl (lv_at hl 0 rfl) ?_
    refine lv_iconst (v := (1 : Int32)) hx hb d_MO_readWindow_23 (by decide) ?_
    obtain ⟨q5, e4, h⟩ := xb h
    refine mc_v (va_runV (As := [.int (1 : Int32)]) (rest := []) ⟨hx, hb, hml, hown, hts⟩ (c_MO_bad l D lay cA S (1 : Int32) q5 e4) (cwV 1 hts (xT_V wd_886 wd_888 wp_30 wd_7 wd_889) rfl rfl rfl (by decide +kernel) ⟨Nat.le_of_ble_eq_true rfl, Nat.le_of_ble_eq_true rfl⟩) (mpV E hP hS (by decide) (mc_0 _ _ _ _) rfl) rfl rfl hl.1 rfl (lv_room (Nat.le_of_ble_eq_true rfl)) d_MO_readWindow_24 ⟨Nat.le_of_ble_eq_true rfl, Nat.le_of_ble_eq_true rfl⟩) hS (fun H locs hP hS => ?_)
    exact k_MO_readWindow_27 l C E q5  _ h H locs ls hP hS hl
def f_MO_readWindow (S : XS)  : Option (XS) :=
  if (xgi S 0 30) = (16 : Int32) then ((f_MO_bad S (4 : Int32)).bind fun q2 => f_MO_readWindow_14 q2) else (f_MO_readWindow_14 S)
set_option maxHeartbeats 4000000 in
set_option maxRecDepth 100000 in
theorem k_MO_readWindow (l : Launch) {p : Program} {e : Env} {s : State} {m : MethodId} {args : Array Value} {below : List Frame} {meth : Method} {c : Code} {D : va_G} {lay : Nat → Nat} {cA : Nat → ClassId} (C : xB p s m args meth c R_MO b_MO_readWindow ((Option.none : Option Jvm.ClassFile.FieldType)) 1) (E : mE D lay cA s s.heap) : ∀ (S : XS)  (r : XS) (_ : f_MO_readWindow S = some r) (H : Heap) (locs : List Loc) (ls : Array Slot), va_P D xcl (mw lay cA S) H → va_S (mI lay) s.heap H locs → lv_has ls 1 [(0, .ref (lay 0))] → W p l e rm_MO_readWindow s m args below meth c H locs 0 0 (MQ below (mqv D lay cA r) args s 0 0 (mI lay)) (F0 m 0 ls []) := by
  obtain ⟨hx, hb, hr, hml, hown, hts, hlk, hnh⟩ := id C
  have hK := E.K
  intro S r h H locs ls hP hS hl
  unfold f_MO_readWindow at h
  refine lv_aload_n hx hb d_MO_readWindow_0 rfl (lv_at hl 0 rfl) ?_
  refine va_get (v := .int (xgi S 0 30)) (C := R_MO) (T := F_MO) (N := 41) hx hb hts i_MO hown hK hP 0 (mw_at (by decide) (mc_0 _ _ _ _)) rfl 30 (by decide) (hts _ wd_730) (fun _ h9 => h9) rfl d_MO_readWindow_1 ?_
  refine lv_bipush (v := (16 : Int32)) hx hb d_MO_readWindow_4 (by decide) ?_
  refine lv_icmp_ne (tgt := 14) hx hb d_MO_readWindow_6 (by decide) (fun c_3 => ?_) (fun c_3 => ?_)
  · have h := xif_f c_3 h
    exact k_MO_readWindow_14 l C E S  _ h H locs ls hP hS hl
  · have h := xif_t c_3 h
    refine lv_aload_n hx hb d_MO_readWindow_9 rfl (lv_at hl 0 rfl) ?_
    refine lv_iconst (v := (4 : Int32)) hx hb d_MO_readWindow_10 (by decide) ?_
    obtain ⟨q2, e1, h⟩ := xb h
    refine mc_v (va_runV (As := [.int (4 : Int32)]) (rest := []) ⟨hx, hb, hml, hown, hts⟩ (c_MO_bad l D lay cA S (4 : Int32) q2 e1) (cwV 1 hts (xT_V wd_886 wd_888 wp_30 wd_7 wd_889) rfl rfl rfl (by decide +kernel) ⟨Nat.le_of_ble_eq_true rfl, Nat.le_of_ble_eq_true rfl⟩) (mpV E hP hS (by decide) (mc_0 _ _ _ _) rfl) rfl rfl hl.1 rfl (lv_room (Nat.le_of_ble_eq_true rfl)) d_MO_readWindow_11 ⟨Nat.le_of_ble_eq_true rfl, Nat.le_of_ble_eq_true rfl⟩) hS (fun H locs hP hS => ?_)
    exact k_MO_readWindow_14 l C E q2  _ h H locs ls hP hS hl
theorem c_MO_readWindow (l : Launch) (D : va_G) (lay : Nat → Nat) (cA : Nat → ClassId) (S : XS)  (r : XS) (h : f_MO_readWindow S  = some r) : Met l y_MO_readWindow (.code y_MO_readWindow b_MO_readWindow 1 ((Option.none : Option Jvm.ClassFile.FieldType)) :: xT) rm_MO_readWindow (mPc D lay cA S [.ref (lay 0)]) (mqv D lay cA r) 0 0 (mI lay) := by
  refine Met.ofW (cc := b_MO_readWindow) (maxL := 1) (ret := (Option.none : Option Jvm.ClassFile.FieldType)) (by decide +kernel) rfl ?_
  intro p e s m args below meth c s₁ B hml hv
  obtain ⟨rfl, hP, E⟩ := hv
  have C := xB_of B hml
  have hl := lv_entry ([.ref (lay 0)]) (n := 1) (Nat.le_of_ble_eq_true rfl)
  rw [lg_entry_eq]
  generalize (lg_sl ([.ref (lay 0)]) ++ List.replicate (1 - (lg_sl ([.ref (lay 0)])).length) Slot.unset).toArray = ls at hl ⊢
  exact k_MO_readWindow l C E S  r h s.heap [] ls hP va_S.rf hl
/-! ConfigTextsModel.frame()V -/
def rm_MO_frame : Room := { frames := 5, cells := 0, slots := 0, locals := 109 }
theorem d_MO_frame_0 : decode b_MO_frame 0 = .ok (.aload_n 0, 1) := by decide +kernel
theorem d_MO_frame_1 : decode b_MO_frame 1 = .ok (.bipush 22, 2) := by decide +kernel
theorem d_MO_frame_3 : decode b_MO_frame 3 = .ok (.invokevirtual 231, 3) := by decide +kernel
theorem d_MO_frame_6 : decode b_MO_frame 6 = .ok (.aload_n 0, 1) := by decide +kernel
theorem d_MO_frame_7 : decode b_MO_frame 7 = .ok (.bipush 123, 2) := by decide +kernel
theorem d_MO_frame_9 : decode b_MO_frame 9 = .ok (.invokevirtual 238, 3) := by decide +kernel
theorem d_MO_frame_12 : decode b_MO_frame 12 = .ok (.aload_n 0, 1) := by decide +kernel
theorem d_MO_frame_13 : decode b_MO_frame 13 = .ok (.invokevirtual 214, 3) := by decide +kernel
theorem d_MO_frame_16 : decode b_MO_frame 16 = .ok (.istore_n 1, 1) := by decide +kernel
theorem d_MO_frame_17 : decode b_MO_frame 17 = .ok (.iload_n 1, 1) := by decide +kernel
theorem d_MO_frame_18 : decode b_MO_frame 18 = .ok (.ifCond .eq 32, 3) := by decide +kernel
theorem d_MO_frame_21 : decode b_MO_frame 21 = .ok (.aload_n 0, 1) := by decide +kernel
theorem d_MO_frame_22 : decode b_MO_frame 22 = .ok (.invokevirtual 318, 3) := by decide +kernel
theorem d_MO_frame_25 : decode b_MO_frame 25 = .ok (.aload_n 0, 1) := by decide +kernel
theorem d_MO_frame_26 : decode b_MO_frame 26 = .ok (.invokevirtual 214, 3) := by decide +kernel
theorem d_MO_frame_29 : decode b_MO_frame 29 = .ok (.ifCond .eq 16, 3) := by decide +kernel
theorem d_MO_frame_32 : decode b_MO_frame 32 = .ok (.aload_n 0, 1) := by decide +kernel
theorem d_MO_frame_33 : decode b_MO_frame 33 = .ok (.bipush 125, 2) := by decide +kernel
theorem d_MO_frame_35 : decode b_MO_frame 35 = .ok (.invokevirtual 218, 3) := by decide +kernel
theorem d_MO_frame_38 : decode b_MO_frame 38 = .ok (.ifCond .ne 7, 3) := by decide +kernel
theorem d_MO_frame_41 : decode b_MO_frame 41 = .ok (.iconst 1, 1) := by decide +kernel
theorem d_MO_frame_42 : decode b_MO_frame 42 = .ok (.goto 4, 3) := by decide +kernel
theorem d_MO_frame_45 : decode b_MO_frame 45 = .ok (.iconst 0, 1) := by decide +kernel
theorem d_MO_frame_46 : decode b_MO_frame 46 = .ok (.istore_n 1, 1) := by decide +kernel
theorem d_MO_frame_47 : decode b_MO_frame 47 = .ok (.goto (-30), 3) := by decide +kernel
theorem d_MO_frame_50 : decode b_MO_frame 50 = .ok (.aload_n 0, 1) := by decide +kernel
theorem d_MO_frame_51 : decode b_MO_frame 51 = .ok (.bipush 125, 2) := by decide +kernel
theorem d_MO_frame_53 : decode b_MO_frame 53 = .ok (.invokevirtual 238, 3) := by decide +kernel
theorem d_MO_frame_56 : decode b_MO_frame 56 = .ok (.return_, 1) := by decide +kernel
def f_MO_frame_17 : Nat → XS → Int32 → Option (XS)
  | 0, _, _ => none
  | n + 1, S, a1 =>
    if a1 = 0 then ((f_MO_sign S (125 : Int32)).bind fun q8 => some q8) else ((f_MO_readWindow S).bind fun q10 => (f_MO_good q10).bind fun q12 => if q12 = 0 then (f_MO_frame_17 n q10 (0 : Int32)) else ((f_MO_isSign q10 (125 : Int32)).bind fun q14 => if q14 = 0 then (f_MO_frame_17 n q10 (1 : Int32)) else (f_MO_frame_17 n q10 (0 : Int32))))
set_option maxHeartbeats 4000000 in
set_option maxRecDepth 100000 in
theorem k_MO_frame_17 (l : Launch) {p : Program} {e : Env} {s : State} {m : MethodId} {args : Array Value} {below : List Frame} {meth : Method} {c : Code} {D : va_G} {lay : Nat → Nat} {cA : Nat → ClassId} (C : xB p s m args meth c R_MO b_MO_frame ((Option.none : Option Jvm.ClassFile.FieldType)) 2) (E : mE D lay cA s s.heap) : ∀ (n : Nat) (S : XS) (a1 : Int32) (r : XS) (_ : f_MO_frame_17 n S a1 = some r) (H : Heap) (locs : List Loc) (ls : Array Slot), va_P D xcl (mw lay cA S) H → va_S (mI lay) s.heap H locs → lv_has ls 2 [(0, .ref (lay 0)), (1, .int a1)] → W p l e rm_MO_frame s m args below meth c H locs 0 0 (MQ below (mqv D lay cA r) args s 0 0 (mI lay)) (F0 m 17 ls []) := by
  obtain ⟨hx, hb, hr, hml, hown, hts, hlk, hnh⟩ := id C
  have hK := E.K
  intro n
  induction n with
  | zero => intro S a1 r h; rw [f_MO_frame_17] at h; cases h
  | succ n ih =>
    intro S a1 r h H locs ls hP hS hl
    rw [f_MO_frame_17] at h
    refine lv_iload_n hx hb d_MO_frame_17 rfl (lv_at hl 1 rfl) ?_
    refine lv_if_eq (tgt := 50) hx hb d_MO_frame_18 (by decide) (fun c_17 => ?_) (fun c_17 => ?_)
    · have h := xif_t c_17 h
      refine lv_aload_n hx hb d_MO_frame_50 rfl (lv_at hl 0 rfl) ?_
      refine lv_bipush (v := (125 : Int32)) hx hb d_MO_frame_51 (by decide) ?_
      obtain ⟨q8, e7, h⟩ := xb h
      refine mc_v (va_runV (As := [.int (125 : Int32)]) (rest := []) ⟨hx, hb, hml, hown, hts⟩ (c_MO_sign l D lay cA S (125 : Int32) q8 e7) (cwV 1 hts (xT_V wd_902 wd_904 wp_34 wd_7 wd_905) rfl rfl rfl (by decide +kernel) ⟨Nat.le_of_ble_eq_true rfl, Nat.le_of_ble_eq_true rfl⟩) (mpV E hP hS (by decide) (mc_0 _ _ _ _) rfl) rfl rfl hl.1 rfl (lv_room (Nat.le_of_ble_eq_true rfl)) d_MO_frame_53 ⟨Nat.le_of_ble_eq_true rfl, Nat.le_of_ble_eq_true rfl⟩) hS (fun H locs hP hS => ?_)
      have h9 := Option.some.inj h
      subst h9
      exact W.vret hx hb hr (fun t ht hW => ⟨⟨(), rfl, trivial, by show va_P D xcl _ t.heap; rw [ht]; exact hP⟩, hS.F ht⟩) hS.2.2 d_MO_frame_56
    · have h := xif_f c_17 h
      refine lv_aload_n hx hb d_MO_frame_21 rfl (lv_at hl 0 rfl) ?_
      obtain ⟨q10, e9, h⟩ := xb h
      refine mc_v (va_runV (As := []) (rest := []) ⟨hx, hb, hml, hown, hts⟩ (c_MO_readWindow l D lay cA S q10 e9) (cwV 0 hts (xT_V wd_986 wd_988 wp_54 wd_7 wd_989) rfl rfl rfl (by decide +kernel) ⟨Nat.le_of_ble_eq_true rfl, Nat.le_of_ble_eq_true rfl⟩) (mpV E hP hS (by decide) (mc_0 _ _ _ _) rfl) rfl rfl hl.1 rfl (lv_room (Nat.le_of_ble_eq_true rfl)) d_MO_frame_22 ⟨Nat.le_of_ble_eq_true rfl, Nat.le_of_ble_eq_true rfl⟩) hS (fun H locs hP hS => ?_)
      refine lv_aload_n hx hb d_MO_frame_25 rfl (lv_at hl 0 rfl) ?_
      obtain ⟨q12, e11, h⟩ := xb h
      refine mc_i (va_runV (As := []) (rest := []) ⟨hx, hb, hml, hown, hts⟩ (c_MO_good l D lay cA q10 q12 e11) (cwV 0 hts (xT_V wd_882 wd_884 wp_29 wd_7 wd_885) rfl rfl rfl (by decide +kernel) ⟨Nat.le_of_ble_eq_true rfl, Nat.le_of_ble_eq_true rfl⟩) (mpV E hP hS (by decide) (mc_0 _ _ _ _) rfl) rfl rfl hl.1 rfl (lv_room (Nat.le_of_ble_eq_true rfl)) d_MO_frame_26 ⟨Nat.le_of_ble_eq_true rfl, Nat.le_of_ble_eq_true rfl⟩) hS (fun H locs hP hS => ?_)
      refine lv_if_eq (tgt := 45) hx hb d_MO_frame_29 (by decide) (fun c_16 => ?_) (fun c_16 => ?_)
      · have h := xif_t c_16 h
        refine lv_iconst (v := (0 : Int32)) hx hb d_MO_frame_45 (by decide) ?_
        refine lv_istore_n (lv' := [(1, .int (0 : Int32)), (0, .ref (lay 0))]) hx hb d_MO_frame_46 rfl hl (by decide) rfl (fun ls hl => ?_)
        refine lv_goto (tgt := 17) hx hb d_MO_frame_47 (by decide) ?_
        exact ih q10 (0 : Int32) _ h H locs ls hP hS (lv_sub hl [1, 0] rfl)
      · have h := xif_f c_16 h
        refine lv_aload_n hx hb d_MO_frame_32 rfl (lv_at hl 0 rfl) ?_
        refine lv_bipush (v := (125 : Int32)) hx hb d_MO_frame_33 (by decide) ?_
        obtain ⟨q14, e13, h⟩ := xb h
        refine mc_i (va_runV (As := [.int (125 : Int32)]) (rest := []) ⟨hx, hb, hml, hown, hts⟩ (c_MO_isSign l D lay cA q10 (125 : Int32) q14 e13) (cwV 1 hts (xT_V wd_906 wd_908 wp_35 wd_7 wd_909) rfl rfl rfl (by decide +kernel) ⟨Nat.le_of_ble_eq_true rfl, Nat.le_of_ble_eq_true rfl⟩) (mpV E hP hS (by decide) (mc_0 _ _ _ _) rfl) rfl rfl hl.1 rfl (lv_room (Nat.le_of_ble_eq_true rfl)) d_MO_frame_35 ⟨Nat.le_of_ble_eq_true rfl, Nat.le_of_ble_eq_true rfl⟩) hS (fun H locs hP hS => ?_)
        refine lv_if_ne (tgt := 45) hx hb d_MO_frame_38 (by decide) (fun c_15 => ?_) (fun c_15 => ?_)
        · have h := xif_f c_15 h
          refine lv_iconst (v := (0 : Int32)) hx hb d_MO_frame_45 (by decide) ?_
          refine lv_istore_n (lv' := [(1, .int (0 : Int32)), (0, .ref (lay 0))]) hx hb d_MO_frame_46 rfl hl (by decide) rfl (fun ls hl => ?_)
          refine lv_goto (tgt := 17) hx hb d_MO_frame_47 (by decide) ?_
          exact ih q10 (0 : Int32) _ h H locs ls hP hS (lv_sub hl [1, 0] rfl)
        · have h := xif_t c_15 h
          refine lv_iconst (v := (1 : Int32)) hx hb d_MO_frame_41 (by decide) ?_
          refine lv_goto (tgt := 46) hx hb d_MO_frame_42 (by decide) ?_
          refine lv_istore_n (lv' := [(1, .int (1 : Int32)), (0, .ref (lay 0))]) hx hb d_MO_frame_46 rfl hl (by decide) rfl (fun ls hl => ?_)
          refine lv_goto (tgt := 17) hx hb d_MO_frame_47 (by decide) ?_
          exact ih q10 (1 : Int32) _ h H locs ls hP hS (lv_sub hl [1, 0] rfl)
def f_MO_frame (S : XS)  : Option (XS) :=
  (f_MO_need S (22 : Int32)).bind fun q2 => (f_MO_sign q2 (123 : Int32)).bind fun q4 => (f_MO_good q4).bind fun q6 => f_MO_frame_17 4096 q4 q6
set_option maxHeartbeats 4000000 in
set_option maxRecDepth 100000 in
theorem k_MO_frame (l : Launch) {p : Program} {e : Env} {s : State} {m : MethodId} {args : Array Value} {below : List Frame} {meth : Method} {c : Code} {D : va_G} {lay : Nat → Nat} {cA : Nat → ClassId} (C : xB p s m args meth c R_MO b_MO_frame ((Option.none : Option Jvm.ClassFile.FieldType)) 2) (E : mE D lay cA s s.heap) : ∀ (S : XS)  (r : XS) (_ : f_MO_frame S = some r) (H : Heap) (locs : List Loc) (ls : Array Slot), va_P D xcl (mw lay cA S) H → va_S (mI lay) s.heap H locs → lv_has ls 2 [(0, .ref (lay 0))] → W p l e rm_MO_frame s m args below meth c H locs 0 0 (MQ below (mqv D lay cA r) args s 0 0 (mI lay)) (F0 m 0 ls []) := by
  obtain ⟨hx, hb, hr, hml, hown, hts, hlk, hnh⟩ := id C
  have hK := E.K
  intro S r h H locs ls hP hS hl
  unfold f_MO_frame at h
  refine lv_aload_n hx hb d_MO_frame_0 rfl (lv_at hl 0 rfl) ?_
  refine lv_bipush (v := (22 : Int32)) hx hb d_MO_frame_1 (by decide) ?_
  obtain ⟨q2, e1, h⟩ := xb h
  refine mc_v (va_runV (As := [.int (22 : Int32)]) (rest := []) ⟨hx, hb, hml, hown, hts⟩ (c_MO_need l D lay cA S (22 : Int32) q2 e1) (cwV 1 hts (xT_V wd_874 wd_876 wp_27 wd_7 wd_877) rfl rfl rfl (by decide +kernel) ⟨Nat.le_of_ble_eq_true rfl, Nat.le_of_ble_eq_true rfl⟩) (mpV E hP hS (by decide) (mc_0 _ _ _ _) rfl) rfl rfl hl.1 rfl (lv_room (Nat.le_of_ble_eq_true rfl)) d_MO_frame_3 ⟨Nat.le_of_ble_eq_true rfl, Nat.le_of_ble_eq_true rfl⟩) hS (fun H locs hP hS => ?_)
  refine lv_aload_n hx hb d_MO_frame_6 rfl (lv_at hl 0 rfl) ?_
  refine lv_bipush (v := (123 : Int32)) hx hb d_MO_frame_7 (by decide) ?_
  obtain ⟨q4, e3, h⟩ := xb h
  refine mc_v (va_runV (As := [.int (123 : Int32)]) (rest := []) ⟨hx, hb, hml, hown, hts⟩ (c_MO_sign l D lay cA q2 (123 : Int32) q4 e3) (cwV 1 hts (xT_V wd_902 wd_904 wp_34 wd_7 wd_905) rfl rfl rfl (by decide +kernel) ⟨Nat.le_of_ble_eq_true rfl, Nat.le_of_ble_eq_true rfl⟩) (mpV E hP hS (by decide) (mc_0 _ _ _ _) rfl) rfl rfl hl.1 rfl (lv_room (Nat.le_of_ble_eq_true rfl)) d_MO_frame_9 ⟨Nat.le_of_ble_eq_true rfl, Nat.le_of_ble_eq_true rfl⟩) hS (fun H locs hP hS => ?_)
  refine lv_aload_n hx hb d_MO_frame_12 rfl (lv_at hl 0 rfl) ?_
  obtain ⟨q6, e5, h⟩ := xb h
  refine mc_i (va_runV (As := []) (rest := []) ⟨hx, hb, hml, hown, hts⟩ (c_MO_good l D lay cA q4 q6 e5) (cwV 0 hts (xT_V wd_882 wd_884 wp_29 wd_7 wd_885) rfl rfl rfl (by decide +kernel) ⟨Nat.le_of_ble_eq_true rfl, Nat.le_of_ble_eq_true rfl⟩) (mpV E hP hS (by decide) (mc_0 _ _ _ _) rfl) rfl rfl hl.1 rfl (lv_room (Nat.le_of_ble_eq_true rfl)) d_MO_frame_13 ⟨Nat.le_of_ble_eq_true rfl, Nat.le_of_ble_eq_true rfl⟩) hS (fun H locs hP hS => ?_)
  refine lv_istore_n (lv' := [(1, .int q6), (0, .ref (lay 0))]) hx hb d_MO_frame_16 rfl hl (by decide) rfl (fun ls hl => ?_)
  exact k_MO_frame_17 l C E 4096 q4 q6 _ h H locs ls hP hS (lv_sub hl [1, 0] rfl)
theorem c_MO_frame (l : Launch) (D : va_G) (lay : Nat → Nat) (cA : Nat → ClassId) (S : XS)  (r : XS) (h : f_MO_frame S  = some r) : Met l y_MO_frame (.code y_MO_frame b_MO_frame 2 ((Option.none : Option Jvm.ClassFile.FieldType)) :: xT) rm_MO_frame (mPc D lay cA S [.ref (lay 0)]) (mqv D lay cA r) 0 0 (mI lay) := by
  refine Met.ofW (cc := b_MO_frame) (maxL := 2) (ret := (Option.none : Option Jvm.ClassFile.FieldType)) (by decide +kernel) rfl ?_
  intro p e s m args below meth c s₁ B hml hv
  obtain ⟨rfl, hP, E⟩ := hv
  have C := xB_of B hml
  have hl := lv_entry ([.ref (lay 0)]) (n := 2) (Nat.le_of_ble_eq_true rfl)
  rw [lg_entry_eq]
  generalize (lg_sl ([.ref (lay 0)]) ++ List.replicate (2 - (lg_sl ([.ref (lay 0)])).length) Slot.unset).toArray = ls at hl ⊢
  exact k_MO_frame l C E S  r h s.heap [] ls hP va_S.rf hl
/-! ConfigTextsModel.forget()V -/
def rm_MO_forget : Room := { frames := 0, cells := 0, slots := 0, locals := 0 }
theorem d_MO_forget_0 : decode b_MO_forget 0 = .ok (.aload_n 0, 1) := by decide +kernel
theorem d_MO_forget_1 : decode b_MO_forget 1 = .ok (.iconst 0, 1) := by decide +kernel
theorem d_MO_forget_2 : decode b_MO_forget 2 = .ok (.putfield 241, 3) := by decide +kernel
theorem d_MO_forget_5 : decode b_MO_forget 5 = .ok (.aload_n 0, 1) := by decide +kernel
theorem d_MO_forget_6 : decode b_MO_forget 6 = .ok (.iconst 0, 1) := by decide +kernel
theorem d_MO_forget_7 : decode b_MO_forget 7 = .ok (.putfield 300, 3) := by decide +kernel
theorem d_MO_forget_10 : decode b_MO_forget 10 = .ok (.aload_n 0, 1) := by decide +kernel
theorem d_MO_forget_11 : decode b_MO_forget 11 = .ok (.iconst 0, 1) := by decide +kernel
theorem d_MO_forget_12 : decode b_MO_forget 12 = .ok (.putfield 312, 3) := by decide +kernel
theorem d_MO_forget_15 : decode b_MO_forget 15 = .ok (.aload_n 0, 1) := by decide +kernel
theorem d_MO_forget_16 : decode b_MO_forget 16 = .ok (.iconst 0, 1) := by decide +kernel
theorem d_MO_forget_17 : decode b_MO_forget 17 = .ok (.putfield 315, 3) := by decide +kernel
theorem d_MO_forget_20 : decode b_MO_forget 20 = .ok (.aload_n 0, 1) := by decide +kernel
theorem d_MO_forget_21 : decode b_MO_forget 21 = .ok (.iconst 0, 1) := by decide +kernel
theorem d_MO_forget_22 : decode b_MO_forget 22 = .ok (.putfield 306, 3) := by decide +kernel
theorem d_MO_forget_25 : decode b_MO_forget 25 = .ok (.aload_n 0, 1) := by decide +kernel
theorem d_MO_forget_26 : decode b_MO_forget 26 = .ok (.iconst 0, 1) := by decide +kernel
theorem d_MO_forget_27 : decode b_MO_forget 27 = .ok (.putfield 309, 3) := by decide +kernel
theorem d_MO_forget_30 : decode b_MO_forget 30 = .ok (.return_, 1) := by decide +kernel
def f_MO_forget (S : XS)  : Option (XS) :=
  some (xpi (xpi (xpi (xpi (xpi (xpi S 0 15 (0 : Int32)) 0 29 (0 : Int32)) 0 30 (0 : Int32)) 0 31 (0 : Int32)) 0 32 (0 : Int32)) 0 33 (0 : Int32))
set_option maxHeartbeats 4000000 in
set_option maxRecDepth 100000 in
theorem k_MO_forget (l : Launch) {p : Program} {e : Env} {s : State} {m : MethodId} {args : Array Value} {below : List Frame} {meth : Method} {c : Code} {D : va_G} {lay : Nat → Nat} {cA : Nat → ClassId} (C : xB p s m args meth c R_MO b_MO_forget ((Option.none : Option Jvm.ClassFile.FieldType)) 1) (E : mE D lay cA s s.heap) : ∀ (S : XS)  (r : XS) (_ : f_MO_forget S = some r) (H : Heap) (locs : List Loc) (ls : Array Slot), va_P D xcl (mw lay cA S) H → va_S (mI lay) s.heap H locs → lv_has ls 1 [(0, .ref (lay 0))] → W p l e rm_MO_forget s m args below meth c H locs 0 0 (MQ below (mqv D lay cA r) args s 0 0 (mI lay)) (F0 m 0 ls []) := by
  obtain ⟨hx, hb, hr, hml, hown, hts, hlk, hnh⟩ := id C
  have hK := E.K
  intro S r h H locs ls hP hS hl
  unfold f_MO_forget at h
  refine lv_aload_n hx hb d_MO_forget_0 rfl (lv_at hl 0 rfl) ?_
  refine lv_iconst (v := (0 : Int32)) hx hb d_MO_forget_1 (by decide) ?_
  refine mput_15 hx hb hts hown E hP hS (hts _ wd_715) d_MO_forget_2 (fun H locs hP hS => ?_)
  refine lv_aload_n hx hb d_MO_forget_5 rfl (lv_at hl 0 rfl) ?_
  refine lv_iconst (v := (0 : Int32)) hx hb d_MO_forget_6 (by decide) ?_
  refine mput_29 hx hb hts hown E hP hS (hts _ wd_729) d_MO_forget_7 (fun H locs hP hS => ?_)
  refine lv_aload_n hx hb d_MO_forget_10 rfl (lv_at hl 0 rfl) ?_
  refine lv_iconst (v := (0 : Int32)) hx hb d_MO_forget_11 (by decide) ?_
  refine mput_30 hx hb hts hown E hP hS (hts _ wd_730) d_MO_forget_12 (fun H locs hP hS => ?_)
  refine lv_aload_n hx hb d_MO_forget_15 rfl (lv_at hl 0 rfl) ?_
  refine lv_iconst (v := (0 : Int32)) hx hb d_MO_forget_16 (by decide) ?_
  refine mput_31 hx hb hts hown E hP hS (hts _ wd_731) d_MO_forget_17 (fun H locs hP hS => ?_)
  refine lv_aload_n hx hb d_MO_forget_20 rfl (lv_at hl 0 rfl) ?_
  refine lv_iconst (v := (0 : Int32)) hx hb d_MO_forget_21 (by decide) ?_
  refine mput_32 hx hb hts hown E hP hS (hts _ wd_732) d_MO_forget_22 (fun H locs hP hS => ?_)
  refine lv_aload_n hx hb d_MO_forget_25 rfl (lv_at hl 0 rfl) ?_
  refine lv_iconst (v := (0 : Int32)) hx hb d_MO_forget_26 (by decide) ?_
  refine mput_33 hx hb hts hown E hP hS (hts _ wd_733) d_MO_forget_27 (fun H locs hP hS => ?_)
  have h9 := Option.some.inj h
  subst h9
  exact W.vret hx hb hr (fun t ht hW => ⟨⟨(), rfl, trivial, by show va_P D xcl _ t.heap; rw [ht]; exact hP⟩, hS.F ht⟩) hS.2.2 d_MO_forget_30
theorem c_MO_forget (l : Launch) (D : va_G) (lay : Nat → Nat) (cA : Nat → ClassId) (S : XS)  (r : XS) (h : f_MO_forget S  = some r) : Met l y_MO_forget (.code y_MO_forget b_MO_forget 1 ((Option.none : Option Jvm.ClassFile.FieldType)) :: xT) rm_MO_forget (mPc D lay cA S [.ref (lay 0)]) (mqv D lay cA r) 0 0 (mI lay) := by
  refine Met.ofW (cc := b_MO_forget) (maxL := 1) (ret := (Option.none : Option Jvm.ClassFile.FieldType)) (by decide +kernel) rfl ?_
  intro p e s m args below meth c s₁ B hml hv
  obtain ⟨rfl, hP, E⟩ := hv
  have C := xB_of B hml
  have hl := lv_entry ([.ref (lay 0)]) (n := 1) (Nat.le_of_ble_eq_true rfl)
  rw [lg_entry_eq]
  generalize (lg_sl ([.ref (lay 0)]) ++ List.replicate (1 - (lg_sl ([.ref (lay 0)])).length) Slot.unset).toArray = ls at hl ⊢
  exact k_MO_forget l C E S  r h s.heap [] ls hP va_S.rf hl
/-! ConfigTextsModel.load()I -/
def rm_MO_load : Room := { frames := 8, cells := 0, slots := 0, locals := 178 }
theorem d_MO_load_0 : decode b_MO_load 0 = .ok (.aload_n 0, 1) := by decide +kernel
theorem d_MO_load_1 : decode b_MO_load 1 = .ok (.invokevirtual 321, 3) := by decide +kernel
theorem d_MO_load_4 : decode b_MO_load 4 = .ok (.aload_n 0, 1) := by decide +kernel
theorem d_MO_load_5 : decode b_MO_load 5 = .ok (.iconst 0, 1) := by decide +kernel
theorem d_MO_load_6 : decode b_MO_load 6 = .ok (.putfield 164, 3) := by decide +kernel
theorem d_MO_load_9 : decode b_MO_load 9 = .ok (.aload_n 0, 1) := by decide +kernel
theorem d_MO_load_10 : decode b_MO_load 10 = .ok (.iconst (-1), 1) := by decide +kernel
theorem d_MO_load_11 : decode b_MO_load 11 = .ok (.putfield 89, 3) := by decide +kernel
theorem d_MO_load_14 : decode b_MO_load 14 = .ok (.aload_n 0, 1) := by decide +kernel
theorem d_MO_load_15 : decode b_MO_load 15 = .ok (.iconst 0, 1) := by decide +kernel
theorem d_MO_load_16 : decode b_MO_load 16 = .ok (.putfield 171, 3) := by decide +kernel
theorem d_MO_load_19 : decode b_MO_load 19 = .ok (.aload_n 0, 1) := by decide +kernel
theorem d_MO_load_20 : decode b_MO_load 20 = .ok (.invokevirtual 225, 3) := by decide +kernel
theorem d_MO_load_23 : decode b_MO_load 23 = .ok (.aload_n 0, 1) := by decide +kernel
theorem d_MO_load_24 : decode b_MO_load 24 = .ok (.invokevirtual 324, 3) := by decide +kernel
theorem d_MO_load_27 : decode b_MO_load 27 = .ok (.aload_n 0, 1) := by decide +kernel
theorem d_MO_load_28 : decode b_MO_load 28 = .ok (.iconst 0, 1) := by decide +kernel
theorem d_MO_load_29 : decode b_MO_load 29 = .ok (.invokevirtual 228, 3) := by decide +kernel
theorem d_MO_load_32 : decode b_MO_load 32 = .ok (.ifCond .eq 10, 3) := by decide +kernel
theorem d_MO_load_35 : decode b_MO_load 35 = .ok (.aload_n 0, 1) := by decide +kernel
theorem d_MO_load_36 : decode b_MO_load 36 = .ok (.invokevirtual 324, 3) := by decide +kernel
theorem d_MO_load_39 : decode b_MO_load 39 = .ok (.goto (-12), 3) := by decide +kernel
theorem d_MO_load_42 : decode b_MO_load 42 = .ok (.aload_n 0, 1) := by decide +kernel
theorem d_MO_load_43 : decode b_MO_load 43 = .ok (.bipush 17, 2) := by decide +kernel
theorem d_MO_load_45 : decode b_MO_load 45 = .ok (.invokevirtual 228, 3) := by decide +kernel
theorem d_MO_load_48 : decode b_MO_load 48 = .ok (.ifCond .eq 10, 3) := by decide +kernel
theorem d_MO_load_51 : decode b_MO_load 51 = .ok (.aload_n 0, 1) := by decide +kernel
theorem d_MO_load_52 : decode b_MO_load 52 = .ok (.invokevirtual 327, 3) := by decide +kernel
theorem d_MO_load_55 : decode b_MO_load 55 = .ok (.goto (-13), 3) := by decide +kernel
theorem d_MO_load_58 : decode b_MO_load 58 = .ok (.aload_n 0, 1) := by decide +kernel
theorem d_MO_load_59 : decode b_MO_load 59 = .ok (.invokevirtual 330, 3) := by decide +kernel
theorem d_MO_load_62 : decode b_MO_load 62 = .ok (.aload_n 0, 1) := by decide +kernel
theorem d_MO_load_63 : decode b_MO_load 63 = .ok (.invokevirtual 214, 3) := by decide +kernel
theorem d_MO_load_66 : decode b_MO_load 66 = .ok (.ifCond .eq 15, 3) := by decide +kernel
theorem d_MO_load_69 : decode b_MO_load 69 = .ok (.aload_n 0, 1) := by decide +kernel
theorem d_MO_load_70 : decode b_MO_load 70 = .ok (.getfield 197, 3) := by decide +kernel
theorem d_MO_load_73 : decode b_MO_load 73 = .ok (.ifCond .eq 8, 3) := by decide +kernel
theorem d_MO_load_76 : decode b_MO_load 76 = .ok (.aload_n 0, 1) := by decide +kernel
theorem d_MO_load_77 : decode b_MO_load 77 = .ok (.iconst 1, 1) := by decide +kernel
theorem d_MO_load_78 : decode b_MO_load 78 = .ok (.invokevirtual 221, 3) := by decide +kernel
theorem d_MO_load_81 : decode b_MO_load 81 = .ok (.aload_n 0, 1) := by decide +kernel
theorem d_MO_load_82 : decode b_MO_load 82 = .ok (.iconst 0, 1) := by decide +kernel
theorem d_MO_load_83 : decode b_MO_load 83 = .ok (.putfield 161, 3) := by decide +kernel
theorem d_MO_load_86 : decode b_MO_load 86 = .ok (.aload_n 0, 1) := by decide +kernel
theorem d_MO_load_87 : decode b_MO_load 87 = .ok (.aload_n 0, 1) := by decide +kernel
theorem d_MO_load_88 : decode b_MO_load 88 = .ok (.getfield 164, 3) := by decide +kernel
theorem d_MO_load_91 : decode b_MO_load 91 = .ok (.putfield 333, 3) := by decide +kernel
theorem d_MO_load_94 : decode b_MO_load 94 = .ok (.aload_n 0, 1) := by decide +kernel
theorem d_MO_load_95 : decode b_MO_load 95 = .ok (.aload_n 0, 1) := by decide +kernel
theorem d_MO_load_96 : decode b_MO_load 96 = .ok (.getfield 89, 3) := by decide +kernel
theorem d_MO_load_99 : decode b_MO_load 99 = .ok (.putfield 93, 3) := by decide +kernel
theorem d_MO_load_102 : decode b_MO_load 102 = .ok (.aload_n 0, 1) := by decide +kernel
theorem d_MO_load_103 : decode b_MO_load 103 = .ok (.aload_n 0, 1) := by decide +kernel
theorem d_MO_load_104 : decode b_MO_load 104 = .ok (.getfield 164, 3) := by decide +kernel
theorem d_MO_load_107 : decode b_MO_load 107 = .ok (.ifCond .le 7, 3) := by decide +kernel
theorem d_MO_load_110 : decode b_MO_load 110 = .ok (.iconst 1, 1) := by decide +kernel
theorem d_MO_load_111 : decode b_MO_load 111 = .ok (.goto 4, 3) := by decide +kernel
theorem d_MO_load_114 : decode b_MO_load 114 = .ok (.iconst 0, 1) := by decide +kernel
theorem d_MO_load_115 : decode b_MO_load 115 = .ok (.putfield 158, 3) := by decide +kernel
theorem d_MO_load_118 : decode b_MO_load 118 = .ok (.aload_n 0, 1) := by decide +kernel
theorem d_MO_load_119 : decode b_MO_load 119 = .ok (.getfield 164, 3) := by decide +kernel
theorem d_MO_load_122 : decode b_MO_load 122 = .ok (.ifCond .le 9, 3) := by decide +kernel
theorem d_MO_load_125 : decode b_MO_load 125 = .ok (.aload_n 0, 1) := by decide +kernel
theorem d_MO_load_126 : decode b_MO_load 126 = .ok (.invokevirtual 321, 3) := by decide +kernel
theorem d_MO_load_129 : decode b_MO_load 129 = .ok (.iconst 0, 1) := by decide +kernel
theorem d_MO_load_130 : decode b_MO_load 130 = .ok (.ireturn, 1) := by decide +kernel
theorem d_MO_load_131 : decode b_MO_load 131 = .ok (.aload_n 0, 1) := by decide +kernel
theorem d_MO_load_132 : decode b_MO_load 132 = .ok (.getfield 241, 3) := by decide +kernel
theorem d_MO_load_135 : decode b_MO_load 135 = .ok (.ireturn, 1) := by decide +kernel
def f_MO_load_115 (S : XS) (t0 : Int32) : Option (Int32 × XS) :=
  if (xgi (xpi S 0 0 t0) 0 11) ≤ 0 then (some (xgi (xpi S 0 0 t0) 0 15, xpi S 0 0 t0)) else ((f_MO_forget (xpi S 0 0 t0)).bind fun q27 => some ((0 : Int32), q27))
set_option maxHeartbeats 4000000 in
set_option maxRecDepth 100000 in
theorem k_MO_load_115 (l : Launch) {p : Program} {e : Env} {s : State} {m : MethodId} {args : Array Value} {below : List Frame} {meth : Method} {c : Code} {D : va_G} {lay : Nat → Nat} {cA : Nat → ClassId} (C : xB p s m args meth c R_MO b_MO_load ((Option.some Jvm.ClassFile.FieldType.int)) 1) (E : mE D lay cA s s.heap) : ∀ (S : XS) (t0 : Int32) (r : Int32 × XS) (_ : f_MO_load_115 S t0 = some r) (H : Heap) (locs : List Loc) (ls : Array Slot), va_P D xcl (mw lay cA S) H → va_S (mI lay) s.heap H locs → lv_has ls 1 [(0, .ref (lay 0))] → W p l e rm_MO_load s m args below meth c H locs 0 0 (MQ below (mqi D lay cA r.1 r.2) args s 0 0 (mI lay)) (F0 m 115 ls [.int t0, .ref (lay 0)]) := by
  obtain ⟨hx, hb, hr, hml, hown, hts, hlk, hnh⟩ := id C
  have hK := E.K
  intro S t0 r h H locs ls hP hS hl
  unfold f_MO_load_115 at h
  refine mput_0 hx hb hts hown E hP hS (hts _ wd_700) d_MO_load_115 (fun H locs hP hS => ?_)
  refine lv_aload_n hx hb d_MO_load_118 rfl (lv_at hl 0 rfl) ?_
  refine va_get (v := .int (xgi (xpi S 0 0 t0) 0 11)) (C := R_MO) (T := F_MO) (N := 41) hx hb hts i_MO hown hK hP 0 (mw_at (by decide) (mc_0 _ _ _ _)) rfl 11 (by decide) (hts _ wd_711) (fun _ h9 => h9) rfl d_MO_load_119 ?_
  refine lv_if_le (tgt := 131) hx hb d_MO_load_122 (by decide) (fun c_28 => ?_) (fun c_28 => ?_)
  · have h := xif_t c_28 h
    refine lv_aload_n hx hb d_MO_load_131 rfl (lv_at hl 0 rfl) ?_
    refine va_get (v := .int (xgi (xpi S 0 0 t0) 0 15)) (C := R_MO) (T := F_MO) (N := 41) hx hb hts i_MO hown hK hP 0 (mw_at (by decide) (mc_0 _ _ _ _)) rfl 15 (by decide) (hts _ wd_715) (fun _ h9 => h9) rfl d_MO_load_132 ?_
    have h9 := Option.some.inj h
    subst h9
    exact W.iret (v := xgi (xpi S 0 0 t0) 0 15) hx hb hr (fun t ht hW => ⟨⟨xgi (xpi S 0 0 t0) 0 15, (), rfl, rfl, by show va_P D xcl _ t.heap; rw [ht]; exact hP⟩, hS.F ht⟩) hS.2.2 d_MO_load_135
  · have h := xif_f c_28 h
    refine lv_aload_n hx hb d_MO_load_125 rfl (lv_at hl 0 rfl) ?_
    obtain ⟨q27, e26, h⟩ := xb h
    refine mc_v (va_runV (As := []) (rest := []) ⟨hx, hb, hml, hown, hts⟩ (c_MO_forget l D lay cA (xpi S 0 0 t0) q27 e26) (cwV 0 hts (xT_V wd_837 wd_839 wp_20 wd_7 wd_840) rfl rfl rfl (by decide +kernel) ⟨Nat.le_of_ble_eq_true rfl, Nat.le_of_ble_eq_true rfl⟩) (mpV E hP hS (by decide) (mc_0 _ _ _ _) rfl) rfl rfl hl.1 rfl (lv_room (Nat.le_of_ble_eq_true rfl)) d_MO_load_126 ⟨Nat.le_of_ble_eq_true rfl, Nat.le_of_ble_eq_true rfl⟩) hS (fun H locs hP hS => ?_)
    refine lv_iconst (v := (0 : Int32)) hx hb d_MO_load_129 (by decide) ?_
    have h9 := Option.some.inj h
    subst h9
    exact W.iret (v := (0 : Int32)) hx hb hr (fun t ht hW => ⟨⟨(0 : Int32), (), rfl, rfl, by show va_P D xcl _ t.heap; rw [ht]; exact hP⟩, hS.F ht⟩) hS.2.2 d_MO_load_130
def f_MO_load_81 (S : XS)  : Option (Int32 × XS) :=
  if (xgi (xpi (xpi (xpi S 0 5 (0 : Int32)) 0 13 (xgi (xpi S 0 5 (0 : Int32)) 0 11)) 0 14 (xgi (xpi (xpi S 0 5 (0 : Int32)) 0 13 (xgi (xpi S 0 5 (0 : Int32)) 0 11)) 0 12)) 0 11) ≤ 0 then (f_MO_load_115 (xpi (xpi (xpi S 0 5 (0 : Int32)) 0 13 (xgi (xpi S 0 5 (0 : Int32)) 0 11)) 0 14 (xgi (xpi (xpi S 0 5 (0 : Int32)) 0 13 (xgi (xpi S 0 5 (0 : Int32)) 0 11)) 0 12)) (0 : Int32)) else (f_MO_load_115 (xpi (xpi (xpi S 0 5 (0 : Int32)) 0 13 (xgi (xpi S 0 5 (0 : Int32)) 0 11)) 0 14 (xgi (xpi (xpi S 0 5 (0 : Int32)) 0 13 (xgi (xpi S 0 5 (0 : Int32)) 0 11)) 0 12)) (1 : Int32))
set_option maxHeartbeats 4000000 in
set_option maxRecDepth 100000 in
theorem k_MO_load_81 (l : Launch) {p : Program} {e : Env} {s : State} {m : MethodId} {args : Array Value} {below : List Frame} {meth : Method} {c : Code} {D : va_G} {lay : Nat → Nat} {cA : Nat → ClassId} (C : xB p s m args meth c R_MO b_MO_load ((Option.some Jvm.ClassFile.FieldType.int)) 1) (E : mE D lay cA s s.heap) : ∀ (S : XS)  (r : Int32 × XS) (_ : f_MO_load_81 S = some r) (H : Heap) (locs : List Loc) (ls : Array Slot), va_P D xcl (mw lay cA S) H → va_S (mI lay) s.heap H locs → lv_has ls 1 [(0, .ref (lay 0))] → W p l e rm_MO_load s m args below meth c H locs 0 0 (MQ below (mqi D lay cA r.1 r.2) args s 0 0 (mI lay)) (F0 m 81 ls []) := by
  obtain ⟨hx, hb, hr, hml, hown, hts, hlk, hnh⟩ := id C
  have hK := E.K
  intro S r h H locs ls hP hS hl
  unfold f_MO_load_81 at h
  refine lv_aload_n hx hb d_MO_load_81 rfl (lv_at hl 0 rfl) ?_
  refine lv_iconst (v := (0 : Int32)) hx hb d_MO_load_82 (by decide) ?_
  refine mput_5 hx hb hts hown E hP hS (hts _ wd_705) d_MO_load_83 (fun H locs hP hS => ?_)
  refine lv_aload_n hx hb d_MO_load_86 rfl (lv_at hl 0 rfl) ?_
  refine lv_aload_n hx hb d_MO_load_87 rfl (lv_at hl 0 rfl) ?_
  refine va_get (v := .int (xgi (xpi S 0 5 (0 : Int32)) 0 11)) (C := R_MO) (T := F_MO) (N := 41) hx hb hts i_MO hown hK hP 0 (mw_at (by decide) (mc_0 _ _ _ _)) rfl 11 (by decide) (hts _ wd_711) (fun _ h9 => h9) rfl d_MO_load_88 ?_
  refine mput_13 hx hb hts hown E hP hS (hts _ wd_713) d_MO_load_91 (fun H locs hP hS => ?_)
  refine lv_aload_n hx hb d_MO_load_94 rfl (lv_at hl 0 rfl) ?_
  refine lv_aload_n hx hb d_MO_load_95 rfl (lv_at hl 0 rfl) ?_
  refine va_get (v := .int (xgi (xpi (xpi S 0 5 (0 : Int32)) 0 13 (xgi (xpi S 0 5 (0 : Int32)) 0 11)) 0 12)) (C := R_MO) (T := F_MO) (N := 41) hx hb hts i_MO hown hK hP 0 (mw_at (by decide) (mc_0 _ _ _ _)) rfl 12 (by decide) (hts _ wd_712) (fun _ h9 => h9) rfl d_MO_load_96 ?_
  refine mput_14 hx hb hts hown E hP hS (hts _ wd_714) d_MO_load_99 (fun H locs hP hS => ?_)
  refine lv_aload_n hx hb d_MO_load_102 rfl (lv_at hl 0 rfl) ?_
  refine lv_aload_n hx hb d_MO_load_103 rfl (lv_at hl 0 rfl) ?_
  refine va_get (v := .int (xgi (xpi (xpi (xpi S 0 5 (0 : Int32)) 0 13 (xgi (xpi S 0 5 (0 : Int32)) 0 11)) 0 14 (xgi (xpi (xpi S 0 5 (0 : Int32)) 0 13 (xgi (xpi S 0 5 (0 : Int32)) 0 11)) 0 12)) 0 11)) (C := R_MO) (T := F_MO) (N := 41) hx hb hts i_MO hown hK hP 0 (mw_at (by decide) (mc_0 _ _ _ _)) rfl 11 (by decide) (hts _ wd_711) (fun _ h9 => h9) rfl d_MO_load_104 ?_
  refine lv_if_le (tgt := 114) hx hb d_MO_load_107 (by decide) (fun c_25 => ?_) (fun c_25 => ?_)
  · have h := xif_t c_25 h
    refine lv_iconst (v := (0 : Int32)) hx hb d_MO_load_114 (by decide) ?_
    exact k_MO_load_115 l C E (xpi (xpi (xpi S 0 5 (0 : Int32)) 0 13 (xgi (xpi S 0 5 (0 : Int32)) 0 11)) 0 14 (xgi (xpi (xpi S 0 5 (0 : Int32)) 0 13 (xgi (xpi S 0 5 (0 : Int32)) 0 11)) 0 12)) (0 : Int32) _ h H locs ls hP hS hl
  · have h := xif_f c_25 h
    refine lv_iconst (v := (1 : Int32)) hx hb d_MO_load_110 (by decide) ?_
    refine lv_goto (tgt := 115) hx hb d_MO_load_111 (by decide) ?_
    exact k_MO_load_115 l C E (xpi (xpi (xpi S 0 5 (0 : Int32)) 0 13 (xgi (xpi S 0 5 (0 : Int32)) 0 11)) 0 14 (xgi (xpi (xpi S 0 5 (0 : Int32)) 0 13 (xgi (xpi S 0 5 (0 : Int32)) 0 11)) 0 12)) (1 : Int32) _ h H locs ls hP hS hl
def f_MO_load_42 : Nat → XS → Option (Int32 × XS)
  | 0, _ => none
  | n + 1, S =>
    (f_MO_isWord S (17 : Int32)).bind fun q13 => if q13 = 0 then ((f_MO_frame S).bind fun q15 => (f_MO_good q15).bind fun q17 => if q17 = 0 then (f_MO_load_81 q15) else (if (xgi q15 0 8) = 0 then (f_MO_load_81 q15) else ((f_MO_bad q15 (1 : Int32)).bind fun q19 => f_MO_load_81 q19))) else ((f_MO_readChannel S).bind fun q23 => f_MO_load_42 n q23)
set_option maxHeartbeats 4000000 in
set_option maxRecDepth 100000 in
theorem k_MO_load_42 (l : Launch) {p : Program} {e : Env} {s : State} {m : MethodId} {args : Array Value} {below : List Frame} {meth : Method} {c : Code} {D : va_G} {lay : Nat → Nat} {cA : Nat → ClassId} (C : xB p s m args meth c R_MO b_MO_load ((Option.some Jvm.ClassFile.FieldType.int)) 1) (E : mE D lay cA s s.heap) : ∀ (n : Nat) (S : XS)  (r : Int32 × XS) (_ : f_MO_load_42 n S = some r) (H : Heap) (locs : List Loc) (ls : Array Slot), va_P D xcl (mw lay cA S) H → va_S (mI lay) s.heap H locs → lv_has ls 1 [(0, .ref (lay 0))] → W p l e rm_MO_load s m args below meth c H locs 0 0 (MQ below (mqi D lay cA r.1 r.2) args s 0 0 (mI lay)) (F0 m 42 ls []) := by
  obtain ⟨hx, hb, hr, hml, hown, hts, hlk, hnh⟩ := id C
  have hK := E.K
  intro n
  induction n with
  | zero => intro S r h; rw [f_MO_load_42] at h; cases h
  | succ n ih =>
    intro S r h H locs ls hP hS hl
    rw [f_MO_load_42] at h
    refine lv_aload_n hx hb d_MO_load_42 rfl (lv_at hl 0 rfl) ?_
    refine lv_bipush (v := (17 : Int32)) hx hb d_MO_load_43 (by decide) ?_
    obtain ⟨q13, e12, h⟩ := xb h
    refine mc_i (va_runV (As := [.int (17 : Int32)]) (rest := []) ⟨hx, hb, hml, hown, hts⟩ (c_MO_isWord l D lay cA S (17 : Int32) q13 e12) (cwV 1 hts (xT_V wd_878 wd_880 wp_28 wd_7 wd_881) rfl rfl rfl (by decide +kernel) ⟨Nat.le_of_ble_eq_true rfl, Nat.le_of_ble_eq_true rfl⟩) (mpV E hP hS (by decide) (mc_0 _ _ _ _) rfl) rfl rfl hl.1 rfl (lv_room (Nat.le_of_ble_eq_true rfl)) d_MO_load_45 ⟨Nat.le_of_ble_eq_true rfl, Nat.le_of_ble_eq_true rfl⟩) hS (fun H locs hP hS => ?_)
    refine lv_if_eq (tgt := 58) hx hb d_MO_load_48 (by decide) (fun c_24 => ?_) (fun c_24 => ?_)
    · have h := xif_t c_24 h
      refine lv_aload_n hx hb d_MO_load_58 rfl (lv_at hl 0 rfl) ?_
      obtain ⟨q15, e14, h⟩ := xb h
      refine mc_v (va_runV (As := []) (rest := []) ⟨hx, hb, hml, hown, hts⟩ (c_MO_frame l D lay cA S q15 e14) (cwV 0 hts (xT_V wd_982 wd_984 wp_53 wd_7 wd_985) rfl rfl rfl (by decide +kernel) ⟨Nat.le_of_ble_eq_true rfl, Nat.le_of_ble_eq_true rfl⟩) (mpV E hP hS (by decide) (mc_0 _ _ _ _) rfl) rfl rfl hl.1 rfl (lv_room (Nat.le_of_ble_eq_true rfl)) d_MO_load_59 ⟨Nat.le_of_ble_eq_true rfl, Nat.le_of_ble_eq_true rfl⟩) hS (fun H locs hP hS => ?_)
      refine lv_aload_n hx hb d_MO_load_62 rfl (lv_at hl 0 rfl) ?_
      obtain ⟨q17, e16, h⟩ := xb h
      refine mc_i (va_runV (As := []) (rest := []) ⟨hx, hb, hml, hown, hts⟩ (c_MO_good l D lay cA q15 q17 e16) (cwV 0 hts (xT_V wd_882 wd_884 wp_29 wd_7 wd_885) rfl rfl rfl (by decide +kernel) ⟨Nat.le_of_ble_eq_true rfl, Nat.le_of_ble_eq_true rfl⟩) (mpV E hP hS (by decide) (mc_0 _ _ _ _) rfl) rfl rfl hl.1 rfl (lv_room (Nat.le_of_ble_eq_true rfl)) d_MO_load_63 ⟨Nat.le_of_ble_eq_true rfl, Nat.le_of_ble_eq_true rfl⟩) hS (fun H locs hP hS => ?_)
      refine lv_if_eq (tgt := 81) hx hb d_MO_load_66 (by decide) (fun c_21 => ?_) (fun c_21 => ?_)
      · have h := xif_t c_21 h
        exact k_MO_load_81 l C E q15  _ h H locs ls hP hS hl
      · have h := xif_f c_21 h
        refine lv_aload_n hx hb d_MO_load_69 rfl (lv_at hl 0 rfl) ?_
        refine va_get (v := .int (xgi q15 0 8)) (C := R_MO) (T := F_MO) (N := 41) hx hb hts i_MO hown hK hP 0 (mw_at (by decide) (mc_0 _ _ _ _)) rfl 8 (by decide) (hts _ wd_708) (fun _ h9 => h9) rfl d_MO_load_70 ?_
        refine lv_if_eq (tgt := 81) hx hb d_MO_load_73 (by decide) (fun c_20 => ?_) (fun c_20 => ?_)
        · have h := xif_t c_20 h
          exact k_MO_load_81 l C E q15  _ h H locs ls hP hS hl
        · have h := xif_f c_20 h
          refine lv_aload_n hx hb d_MO_load_76 rfl (lv_at hl 0 rfl) ?_
          refine lv_iconst (v := (1 : Int32)) hx hb d_MO_load_77 (by decide) ?_
          obtain ⟨q19, e18, h⟩ := xb h
          refine mc_v (va_runV (As := [.int (1 : Int32)]) (rest := []) ⟨hx, hb, hml, hown, hts⟩ (c_MO_bad l D lay cA q15 (1 : Int32) q19 e18) (cwV 1 hts (xT_V wd_886 wd_888 wp_30 wd_7 wd_889) rfl rfl rfl (by decide +kernel) ⟨Nat.le_of_ble_eq_true rfl, Nat.le_of_ble_eq_true rfl⟩) (mpV E hP hS (by decide) (mc_0 _ _ _ _) rfl) rfl rfl hl.1 rfl (lv_room (Nat.le_of_ble_eq_true rfl)) d_MO_load_78 ⟨Nat.le_of_ble_eq_true rfl, Nat.le_of_ble_eq_true rfl⟩) hS (fun H locs hP hS => ?_)
          exact k_MO_load_81 l C E q19  _ h H locs ls hP hS hl
    · have h := xif_f c_24 h
      refine lv_aload_n hx hb d_MO_load_51 rfl (lv_at hl 0 rfl) ?_
      obtain ⟨q23, e22, h⟩ := xb h
      refine mc_v (va_runV (As := []) (rest := []) ⟨hx, hb, hml, hown, hts⟩ (c_MO_readChannel l D lay cA S q23 e22) (cwV 0 hts (xT_V wd_974 wd_976 wp_51 wd_7 wd_977) rfl rfl rfl (by decide +kernel) ⟨Nat.le_of_ble_eq_true rfl, Nat.le_of_ble_eq_true rfl⟩) (mpV E hP hS (by decide) (mc_0 _ _ _ _) rfl) rfl rfl hl.1 rfl (lv_room (Nat.le_of_ble_eq_true rfl)) d_MO_load_52 ⟨Nat.le_of_ble_eq_true rfl, Nat.le_of_ble_eq_true rfl⟩) hS (fun H locs hP hS => ?_)
      refine lv_goto (tgt := 42) hx hb d_MO_load_55 (by decide) ?_
      exact ih q23  _ h H locs ls hP hS hl
def f_MO_load_27 : Nat → XS → Option (Int32 × XS)
  | 0, _ => none
  | n + 1, S =>
    (f_MO_isWord S (0 : Int32)).bind fun q8 => if q8 = 0 then (f_MO_load_42 4096 S) else ((f_MO_readPartition S).bind fun q10 => f_MO_load_27 n q10)
set_option maxHeartbeats 4000000 in
set_option maxRecDepth 100000 in
theorem k_MO_load_27 (l : Launch) {p : Program} {e : Env} {s : State} {m : MethodId} {args : Array Value} {below : List Frame} {meth : Method} {c : Code} {D : va_G} {lay : Nat → Nat} {cA : Nat → ClassId} (C : xB p s m args meth c R_MO b_MO_load ((Option.some Jvm.ClassFile.FieldType.int)) 1) (E : mE D lay cA s s.heap) : ∀ (n : Nat) (S : XS)  (r : Int32 × XS) (_ : f_MO_load_27 n S = some r) (H : Heap) (locs : List Loc) (ls : Array Slot), va_P D xcl (mw lay cA S) H → va_S (mI lay) s.heap H locs → lv_has ls 1 [(0, .ref (lay 0))] → W p l e rm_MO_load s m args below meth c H locs 0 0 (MQ below (mqi D lay cA r.1 r.2) args s 0 0 (mI lay)) (F0 m 27 ls []) := by
  obtain ⟨hx, hb, hr, hml, hown, hts, hlk, hnh⟩ := id C
  have hK := E.K
  intro n
  induction n with
  | zero => intro S r h; rw [f_MO_load_27] at h; cases h
  | succ n ih =>
    intro S r h H locs ls hP hS hl
    rw [f_MO_load_27] at h
    refine lv_aload_n hx hb d_MO_load_27 rfl (lv_at hl 0 rfl) ?_
    refine lv_iconst (v := (0 : Int32)) hx hb d_MO_load_28 (by decide) ?_
    obtain ⟨q8, e7, h⟩ := xb h
    refine mc_i (va_runV (As := [.int (0 : Int32)]) (rest := []) ⟨hx, hb, hml, hown, hts⟩ (c_MO_isWord l D lay cA S (0 : Int32) q8 e7) (cwV 1 hts (xT_V wd_878 wd_880 wp_28 wd_7 wd_881) rfl rfl rfl (by decide +kernel) ⟨Nat.le_of_ble_eq_true rfl, Nat.le_of_ble_eq_true rfl⟩) (mpV E hP hS (by decide) (mc_0 _ _ _ _) rfl) rfl rfl hl.1 rfl (lv_room (Nat.le_of_ble_eq_true rfl)) d_MO_load_29 ⟨Nat.le_of_ble_eq_true rfl, Nat.le_of_ble_eq_true rfl⟩) hS (fun H locs hP hS => ?_)
    refine lv_if_eq (tgt := 42) hx hb d_MO_load_32 (by decide) (fun c_11 => ?_) (fun c_11 => ?_)
    · have h := xif_t c_11 h
      exact k_MO_load_42 l C E 4096 S  _ h H locs ls hP hS hl
    · have h := xif_f c_11 h
      refine lv_aload_n hx hb d_MO_load_35 rfl (lv_at hl 0 rfl) ?_
      obtain ⟨q10, e9, h⟩ := xb h
      refine mc_v (va_runV (As := []) (rest := []) ⟨hx, hb, hml, hown, hts⟩ (c_MO_readPartition l D lay cA S q10 e9) (cwV 0 hts (xT_V wd_870 wd_872 wp_26 wd_7 wd_873) rfl rfl rfl (by decide +kernel) ⟨Nat.le_of_ble_eq_true rfl, Nat.le_of_ble_eq_true rfl⟩) (mpV E hP hS (by decide) (mc_0 _ _ _ _) rfl) rfl rfl hl.1 rfl (lv_room (Nat.le_of_ble_eq_true rfl)) d_MO_load_36 ⟨Nat.le_of_ble_eq_true rfl, Nat.le_of_ble_eq_true rfl⟩) hS (fun H locs hP hS => ?_)
      refine lv_goto (tgt := 27) hx hb d_MO_load_39 (by decide) ?_
      exact ih q10  _ h H locs ls hP hS hl
def f_MO_load (S : XS)  : Option (Int32 × XS) :=
  (f_MO_forget S).bind fun q2 => (f_MO_next (xpi (xpi (xpi q2 0 11 (0 : Int32)) 0 12 (-1 : Int32)) 0 7 (0 : Int32))).bind fun q4 => (f_MO_readPartition q4).bind fun q6 => f_MO_load_27 4096 q6
set_option maxHeartbeats 4000000 in
set_option maxRecDepth 100000 in
theorem k_MO_load (l : Launch) {p : Program} {e : Env} {s : State} {m : MethodId} {args : Array Value} {below : List Frame} {meth : Method} {c : Code} {D : va_G} {lay : Nat → Nat} {cA : Nat → ClassId} (C : xB p s m args meth c R_MO b_MO_load ((Option.some Jvm.ClassFile.FieldType.int)) 1) (E : mE D lay cA s s.heap) : ∀ (S : XS)  (r : Int32 × XS) (_ : f_MO_load S = some r) (H : Heap) (locs : List Loc) (ls : Array Slot), va_P D xcl (mw lay cA S) H → va_S (mI lay) s.heap H locs → lv_has ls 1 [(0, .ref (lay 0))] → W p l e rm_MO_load s m args below meth c H locs 0 0 (MQ below (mqi D lay cA r.1 r.2) args s 0 0 (mI lay)) (F0 m 0 ls []) := by
  obtain ⟨hx, hb, hr, hml, hown, hts, hlk, hnh⟩ := id C
  have hK := E.K
  intro S r h H locs ls hP hS hl
  unfold f_MO_load at h
  refine lv_aload_n hx hb d_MO_load_0 rfl (lv_at hl 0 rfl) ?_
  obtain ⟨q2, e1, h⟩ := xb h
  refine mc_v (va_runV (As := []) (rest := []) ⟨hx, hb, hml, hown, hts⟩ (c_MO_forget l D lay cA S q2 e1) (cwV 0 hts (xT_V wd_837 wd_839 wp_20 wd_7 wd_840) rfl rfl rfl (by decide +kernel) ⟨Nat.le_of_ble_eq_true rfl, Nat.le_of_ble_eq_true rfl⟩) (mpV E hP hS (by decide) (mc_0 _ _ _ _) rfl) rfl rfl hl.1 rfl (lv_room (Nat.le_of_ble_eq_true rfl)) d_MO_load_1 ⟨Nat.le_of_ble_eq_true rfl, Nat.le_of_ble_eq_true rfl⟩) hS (fun H locs hP hS => ?_)
  refine lv_aload_n hx hb d_MO_load_4 rfl (lv_at hl 0 rfl) ?_
  refine lv_iconst (v := (0 : Int32)) hx hb d_MO_load_5 (by decide) ?_
  refine mput_11 hx hb hts hown E hP hS (hts _ wd_711) d_MO_load_6 (fun H locs hP hS => ?_)
  refine lv_aload_n hx hb d_MO_load_9 rfl (lv_at hl 0 rfl) ?_
  refine lv_iconst (v := (-1 : Int32)) hx hb d_MO_load_10 (by decide) ?_
  refine mput_12 hx hb hts hown E hP hS (hts _ wd_712) d_MO_load_11 (fun H locs hP hS => ?_)
  refine lv_aload_n hx hb d_MO_load_14 rfl (lv_at hl 0 rfl) ?_
  refine lv_iconst (v := (0 : Int32)) hx hb d_MO_load_15 (by decide) ?_
  refine mput_7 hx hb hts hown E hP hS (hts _ wd_707) d_MO_load_16 (fun H locs hP hS => ?_)
  refine lv_aload_n hx hb d_MO_load_19 rfl (lv_at hl 0 rfl) ?_
  obtain ⟨q4, e3, h⟩ := xb h
  refine mc_v (va_runV (As := []) (rest := []) ⟨hx, hb, hml, hown, hts⟩ (c_MO_next l D lay cA (xpi (xpi (xpi q2 0 11 (0 : Int32)) 0 12 (-1 : Int32)) 0 7 (0 : Int32)) q4 e3) (cwV 0 hts (xT_V wd_841 wd_843 wp_21 wd_7 wd_844) rfl rfl rfl (by decide +kernel) ⟨Nat.le_of_ble_eq_true rfl, Nat.le_of_ble_eq_true rfl⟩) (mpV E hP hS (by decide) (mc_0 _ _ _ _) rfl) rfl rfl hl.1 rfl (lv_room (Nat.le_of_ble_eq_true rfl)) d_MO_load_20 ⟨Nat.le_of_ble_eq_true rfl, Nat.le_of_ble_eq_true rfl⟩) hS (fun H locs hP hS => ?_)
  refine lv_aload_n hx hb d_MO_load_23 rfl (lv_at hl 0 rfl) ?_
  obtain ⟨q6, e5, h⟩ := xb h
  refine mc_v (va_runV (As := []) (rest := []) ⟨hx, hb, hml, hown, hts⟩ (c_MO_readPartition l D lay cA q4 q6 e5) (cwV 0 hts (xT_V wd_870 wd_872 wp_26 wd_7 wd_873) rfl rfl rfl (by decide +kernel) ⟨Nat.le_of_ble_eq_true rfl, Nat.le_of_ble_eq_true rfl⟩) (mpV E hP hS (by decide) (mc_0 _ _ _ _) rfl) rfl rfl hl.1 rfl (lv_room (Nat.le_of_ble_eq_true rfl)) d_MO_load_24 ⟨Nat.le_of_ble_eq_true rfl, Nat.le_of_ble_eq_true rfl⟩) hS (fun H locs hP hS => ?_)
  exact k_MO_load_27 l C E 4096 q6  _ h H locs ls hP hS hl
theorem c_MO_load (l : Launch) (D : va_G) (lay : Nat → Nat) (cA : Nat → ClassId) (S : XS)  (r : Int32 × XS) (h : f_MO_load S  = some r) : Met l y_MO_load (.code y_MO_load b_MO_load 1 ((Option.some Jvm.ClassFile.FieldType.int)) :: xT) rm_MO_load (mPc D lay cA S [.ref (lay 0)]) (mqi D lay cA r.1 r.2) 0 0 (mI lay) := by
  refine Met.ofW (cc := b_MO_load) (maxL := 1) (ret := (Option.some Jvm.ClassFile.FieldType.int)) (by decide +kernel) rfl ?_
  intro p e s m args below meth c s₁ B hml hv
  obtain ⟨rfl, hP, E⟩ := hv
  have C := xB_of B hml
  have hl := lv_entry ([.ref (lay 0)]) (n := 1) (Nat.le_of_ble_eq_true rfl)
  rw [lg_entry_eq]
  generalize (lg_sl ([.ref (lay 0)]) ++ List.replicate (1 - (lg_sl ([.ref (lay 0)])).length) Slot.unset).toArray = ls at hl ⊢
  exact k_MO_load l C E S  r h s.heap [] ls hP va_S.rf hl
/-! ConfigTextsModel.fault(I)I -/
def rm_MO_fault : Room := { frames := 0, cells := 0, slots := 0, locals := 0 }
theorem d_MO_fault_0 : decode b_MO_fault 0 = .ok (.aload_n 0, 1) := by decide +kernel
theorem d_MO_fault_1 : decode b_MO_fault 1 = .ok (.iconst 0, 1) := by decide +kernel
theorem d_MO_fault_2 : decode b_MO_fault 2 = .ok (.putfield 158, 3) := by decide +kernel
theorem d_MO_fault_5 : decode b_MO_fault 5 = .ok (.iload_n 1, 1) := by decide +kernel
theorem d_MO_fault_6 : decode b_MO_fault 6 = .ok (.ifCond .ne 10, 3) := by decide +kernel
theorem d_MO_fault_9 : decode b_MO_fault 9 = .ok (.aload_n 0, 1) := by decide +kernel
theorem d_MO_fault_10 : decode b_MO_fault 10 = .ok (.getfield 333, 3) := by decide +kernel
theorem d_MO_fault_13 : decode b_MO_fault 13 = .ok (.goto 16, 3) := by decide +kernel
theorem d_MO_fault_16 : decode b_MO_fault 16 = .ok (.iload_n 1, 1) := by decide +kernel
theorem d_MO_fault_17 : decode b_MO_fault 17 = .ok (.iconst 1, 1) := by decide +kernel
theorem d_MO_fault_18 : decode b_MO_fault 18 = .ok (.if_icmp .ne 10, 3) := by decide +kernel
theorem d_MO_fault_21 : decode b_MO_fault 21 = .ok (.aload_n 0, 1) := by decide +kernel
theorem d_MO_fault_22 : decode b_MO_fault 22 = .ok (.getfield 93, 3) := by decide +kernel
theorem d_MO_fault_25 : decode b_MO_fault 25 = .ok (.goto 4, 3) := by decide +kernel
theorem d_MO_fault_28 : decode b_MO_fault 28 = .ok (.iconst (-1), 1) := by decide +kernel
theorem d_MO_fault_29 : decode b_MO_fault 29 = .ok (.ireturn, 1) := by decide +kernel
def f_MO_fault (S : XS) (a1 : Int32) : Option (Int32 × XS) :=
  if a1 = 0 then (some (xgi (xpi S 0 0 (0 : Int32)) 0 13, xpi S 0 0 (0 : Int32))) else (if a1 = (1 : Int32) then (some (xgi (xpi S 0 0 (0 : Int32)) 0 14, xpi S 0 0 (0 : Int32))) else (some ((-1 : Int32), xpi S 0 0 (0 : Int32))))
set_option maxHeartbeats 4000000 in
set_option maxRecDepth 100000 in
theorem k_MO_fault (l : Launch) {p : Program} {e : Env} {s : State} {m : MethodId} {args : Array Value} {below : List Frame} {meth : Method} {c : Code} {D : va_G} {lay : Nat → Nat} {cA : Nat → ClassId} (C : xB p s m args meth c R_MO b_MO_fault ((Option.some Jvm.ClassFile.FieldType.int)) 2) (E : mE D lay cA s s.heap) : ∀ (S : XS) (a1 : Int32) (r : Int32 × XS) (_ : f_MO_fault S a1 = some r) (H : Heap) (locs : List Loc) (ls : Array Slot), va_P D xcl (mw lay cA S) H → va_S (mI lay) s.heap H locs → lv_has ls 2 [(0, .ref (lay 0)), (1, .int a1)] → W p l e rm_MO_fault s m args below meth c H locs 0 0 (MQ below (mqi D lay cA r.1 r.2) args s 0 0 (mI lay)) (F0 m 0 ls []) := by
  obtain ⟨hx, hb, hr, hml, hown, hts, hlk, hnh⟩ := id C
  have hK := E.K
  intro S a1 r h H locs ls hP hS hl
  unfold f_MO_fault at h
  refine lv_aload_n hx hb d_MO_fault_0 rfl (lv_at hl 0 rfl) ?_
  refine lv_iconst (v := (0 : Int32)) hx hb d_MO_fault_1 (by decide) ?_
  refine mput_0 hx hb hts hown E hP hS (hts _ wd_700) d_MO_fault_2 (fun H locs hP hS => ?_)
  refine lv_iload_n hx hb d_MO_fault_5 rfl (lv_at hl 1 rfl) ?_
  refine lv_if_ne (tgt := 16) hx hb d_MO_fault_6 (by decide) (fun c_2 => ?_) (fun c_2 => ?_)
  · have h := xif_f c_2 h
    refine lv_iload_n hx hb d_MO_fault_16 rfl (lv_at hl 1 rfl) ?_
    refine lv_iconst (v := (1 : Int32)) hx hb d_MO_fault_17 (by decide) ?_
    refine lv_icmp_ne (tgt := 28) hx hb d_MO_fault_18 (by decide) (fun c_1 => ?_) (fun c_1 => ?_)
    · have h := xif_f c_1 h
      refine lv_iconst (v := (-1 : Int32)) hx hb d_MO_fault_28 (by decide) ?_
      have h9 := Option.some.inj h
      subst h9
      exact W.iret (v := (-1 : Int32)) hx hb hr (fun t ht hW => ⟨⟨(-1 : Int32), (), rfl, rfl, by show va_P D xcl _ t.heap; rw [ht]; exact hP⟩, hS.F ht⟩) hS.2.2 d_MO_fault_29
    · have h := xif_t c_1 h
      refine lv_aload_n hx hb d_MO_fault_21 rfl (lv_at hl 0 rfl) ?_
      refine va_get (v := .int (xgi (xpi S 0 0 (0 : Int32)) 0 14)) (C := R_MO) (T := F_MO) (N := 41) hx hb hts i_MO hown hK hP 0 (mw_at (by decide) (mc_0 _ _ _ _)) rfl 14 (by decide) (hts _ wd_714) (fun _ h9 => h9) rfl d_MO_fault_22 ?_
      refine lv_goto (tgt := 29) hx hb d_MO_fault_25 (by decide) ?_
      have h9 := Option.some.inj h
      subst h9
      exact W.iret (v := xgi (xpi S 0 0 (0 : Int32)) 0 14) hx hb hr (fun t ht hW => ⟨⟨xgi (xpi S 0 0 (0 : Int32)) 0 14, (), rfl, rfl, by show va_P D xcl _ t.heap; rw [ht]; exact hP⟩, hS.F ht⟩) hS.2.2 d_MO_fault_29
  · have h := xif_t c_2 h
    refine lv_aload_n hx hb d_MO_fault_9 rfl (lv_at hl 0 rfl) ?_
    refine va_get (v := .int (xgi (xpi S 0 0 (0 : Int32)) 0 13)) (C := R_MO) (T := F_MO) (N := 41) hx hb hts i_MO hown hK hP 0 (mw_at (by decide) (mc_0 _ _ _ _)) rfl 13 (by decide) (hts _ wd_713) (fun _ h9 => h9) rfl d_MO_fault_10 ?_
    refine lv_goto (tgt := 29) hx hb d_MO_fault_13 (by decide) ?_
    have h9 := Option.some.inj h
    subst h9
    exact W.iret (v := xgi (xpi S 0 0 (0 : Int32)) 0 13) hx hb hr (fun t ht hW => ⟨⟨xgi (xpi S 0 0 (0 : Int32)) 0 13, (), rfl, rfl, by show va_P D xcl _ t.heap; rw [ht]; exact hP⟩, hS.F ht⟩) hS.2.2 d_MO_fault_29
theorem c_MO_fault (l : Launch) (D : va_G) (lay : Nat → Nat) (cA : Nat → ClassId) (S : XS) (a1 : Int32) (r : Int32 × XS) (h : f_MO_fault S a1 = some r) : Met l y_MO_fault (.code y_MO_fault b_MO_fault 2 ((Option.some Jvm.ClassFile.FieldType.int)) :: xT) rm_MO_fault (mPc D lay cA S [.ref (lay 0), .int a1]) (mqi D lay cA r.1 r.2) 0 0 (mI lay) := by
  refine Met.ofW (cc := b_MO_fault) (maxL := 2) (ret := (Option.some Jvm.ClassFile.FieldType.int)) (by decide +kernel) rfl ?_
  intro p e s m args below meth c s₁ B hml hv
  obtain ⟨rfl, hP, E⟩ := hv
  have C := xB_of B hml
  have hl := lv_entry ([.ref (lay 0), .int a1]) (n := 2) (Nat.le_of_ble_eq_true rfl)
  rw [lg_entry_eq]
  generalize (lg_sl ([.ref (lay 0), .int a1]) ++ List.replicate (2 - (lg_sl ([.ref (lay 0), .int a1])).length) Slot.unset).toArray = ls at hl ⊢
  exact k_MO_fault l C E S a1 r h s.heap [] ls hP va_S.rf hl
/-! ConfigTextsModel.size(I)I -/
def rm_MO_size : Room := { frames := 0, cells := 0, slots := 0, locals := 0 }
theorem d_MO_size_0 : decode b_MO_size 0 = .ok (.aload_n 0, 1) := by decide +kernel
theorem d_MO_size_1 : decode b_MO_size 1 = .ok (.iconst 0, 1) := by decide +kernel
theorem d_MO_size_2 : decode b_MO_size 2 = .ok (.putfield 158, 3) := by decide +kernel
theorem d_MO_size_5 : decode b_MO_size 5 = .ok (.iload_n 1, 1) := by decide +kernel
theorem d_MO_size_6 : decode b_MO_size 6 = .ok (.tableswitch 68 0 5 #[38, 43, 48, 53, 58, 63], 38) := by decide +kernel
theorem d_MO_size_44 : decode b_MO_size 44 = .ok (.aload_n 0, 1) := by decide +kernel
theorem d_MO_size_45 : decode b_MO_size 45 = .ok (.getfield 241, 3) := by decide +kernel
theorem d_MO_size_48 : decode b_MO_size 48 = .ok (.ireturn, 1) := by decide +kernel
theorem d_MO_size_49 : decode b_MO_size 49 = .ok (.aload_n 0, 1) := by decide +kernel
theorem d_MO_size_50 : decode b_MO_size 50 = .ok (.getfield 300, 3) := by decide +kernel
theorem d_MO_size_53 : decode b_MO_size 53 = .ok (.ireturn, 1) := by decide +kernel
theorem d_MO_size_54 : decode b_MO_size 54 = .ok (.aload_n 0, 1) := by decide +kernel
theorem d_MO_size_55 : decode b_MO_size 55 = .ok (.getfield 312, 3) := by decide +kernel
theorem d_MO_size_58 : decode b_MO_size 58 = .ok (.ireturn, 1) := by decide +kernel
theorem d_MO_size_59 : decode b_MO_size 59 = .ok (.aload_n 0, 1) := by decide +kernel
theorem d_MO_size_60 : decode b_MO_size 60 = .ok (.getfield 306, 3) := by decide +kernel
theorem d_MO_size_63 : decode b_MO_size 63 = .ok (.ireturn, 1) := by decide +kernel
theorem d_MO_size_64 : decode b_MO_size 64 = .ok (.aload_n 0, 1) := by decide +kernel
theorem d_MO_size_65 : decode b_MO_size 65 = .ok (.getfield 309, 3) := by decide +kernel
theorem d_MO_size_68 : decode b_MO_size 68 = .ok (.ireturn, 1) := by decide +kernel
theorem d_MO_size_69 : decode b_MO_size 69 = .ok (.aload_n 0, 1) := by decide +kernel
theorem d_MO_size_70 : decode b_MO_size 70 = .ok (.getfield 315, 3) := by decide +kernel
theorem d_MO_size_73 : decode b_MO_size 73 = .ok (.ireturn, 1) := by decide +kernel
theorem d_MO_size_74 : decode b_MO_size 74 = .ok (.iconst (-1), 1) := by decide +kernel
theorem d_MO_size_75 : decode b_MO_size 75 = .ok (.ireturn, 1) := by decide +kernel
def f_MO_size (S : XS) (a1 : Int32) : Option (Int32 × XS) :=
  if a1 = 0 then (some (xgi (xpi S 0 0 (0 : Int32)) 0 15, xpi S 0 0 (0 : Int32))) else (if a1 = 1 then (some (xgi (xpi S 0 0 (0 : Int32)) 0 29, xpi S 0 0 (0 : Int32))) else (if a1 = 2 then (some (xgi (xpi S 0 0 (0 : Int32)) 0 30, xpi S 0 0 (0 : Int32))) else (if a1 = 3 then (some (xgi (xpi S 0 0 (0 : Int32)) 0 32, xpi S 0 0 (0 : Int32))) else (if a1 = 4 then (some (xgi (xpi S 0 0 (0 : Int32)) 0 33, xpi S 0 0 (0 : Int32))) else (if a1 = 5 then (some (xgi (xpi S 0 0 (0 : Int32)) 0 31, xpi S 0 0 (0 : Int32))) else (some ((-1 : Int32), xpi S 0 0 (0 : Int32))))))))
set_option maxHeartbeats 4000000 in
set_option maxRecDepth 100000 in
theorem k_MO_size (l : Launch) {p : Program} {e : Env} {s : State} {m : MethodId} {args : Array Value} {below : List Frame} {meth : Method} {c : Code} {D : va_G} {lay : Nat → Nat} {cA : Nat → ClassId} (C : xB p s m args meth c R_MO b_MO_size ((Option.some Jvm.ClassFile.FieldType.int)) 2) (E : mE D lay cA s s.heap) : ∀ (S : XS) (a1 : Int32) (r : Int32 × XS) (_ : f_MO_size S a1 = some r) (H : Heap) (locs : List Loc) (ls : Array Slot), va_P D xcl (mw lay cA S) H → va_S (mI lay) s.heap H locs → lv_has ls 2 [(0, .ref (lay 0)), (1, .int a1)] → W p l e rm_MO_size s m args below meth c H locs 0 0 (MQ below (mqi D lay cA r.1 r.2) args s 0 0 (mI lay)) (F0 m 0 ls []) := by
  obtain ⟨hx, hb, hr, hml, hown, hts, hlk, hnh⟩ := id C
  have hK := E.K
  intro S a1 r h H locs ls hP hS hl
  unfold f_MO_size at h
  refine lv_aload_n hx hb d_MO_size_0 rfl (lv_at hl 0 rfl) ?_
  refine lv_iconst (v := (0 : Int32)) hx hb d_MO_size_1 (by decide) ?_
  refine mput_0 hx hb hts hown E hP hS (hts _ wd_700) d_MO_size_2 (fun H locs hP hS => ?_)
  refine lv_iload_n hx hb d_MO_size_5 rfl (lv_at hl 1 rfl) ?_
  by_cases c_1 : a1 = 0
  · have h := xif_t c_1 h
    refine lv_tableIn (off := 38) (tgt := 44) hx hb d_MO_size_6 (by rw [c_1]; decide) (by rw [c_1]; decide) (by rw [c_1]; decide) (by decide) ?_
    refine lv_aload_n hx hb d_MO_size_44 rfl (lv_at hl 0 rfl) ?_
    refine va_get (v := .int (xgi (xpi S 0 0 (0 : Int32)) 0 15)) (C := R_MO) (T := F_MO) (N := 41) hx hb hts i_MO hown hK hP 0 (mw_at (by decide) (mc_0 _ _ _ _)) rfl 15 (by decide) (hts _ wd_715) (fun _ h9 => h9) rfl d_MO_size_45 ?_
    have h9 := Option.some.inj h
    subst h9
    exact W.iret (v := xgi (xpi S 0 0 (0 : Int32)) 0 15) hx hb hr (fun t ht hW => ⟨⟨xgi (xpi S 0 0 (0 : Int32)) 0 15, (), rfl, rfl, by show va_P D xcl _ t.heap; rw [ht]; exact hP⟩, hS.F ht⟩) hS.2.2 d_MO_size_48
  · have h := xif_f c_1 h
    by_cases c_2 : a1 = 1
    · have h := xif_t c_2 h
      refine lv_tableIn (off := 43) (tgt := 49) hx hb d_MO_size_6 (by rw [c_2]; decide) (by rw [c_2]; decide) (by rw [c_2]; decide) (by decide) ?_
      refine lv_aload_n hx hb d_MO_size_49 rfl (lv_at hl 0 rfl) ?_
      refine va_get (v := .int (xgi (xpi S 0 0 (0 : Int32)) 0 29)) (C := R_MO) (T := F_MO) (N := 41) hx hb hts i_MO hown hK hP 0 (mw_at (by decide) (mc_0 _ _ _ _)) rfl 29 (by decide) (hts _ wd_729) (fun _ h9 => h9) rfl d_MO_size_50 ?_
      have h9 := Option.some.inj h
      subst h9
      exact W.iret (v := xgi (xpi S 0 0 (0 : Int32)) 0 29) hx hb hr (fun t ht hW => ⟨⟨xgi (xpi S 0 0 (0 : Int32)) 0 29, (), rfl, rfl, by show va_P D xcl _ t.heap; rw [ht]; exact hP⟩, hS.F ht⟩) hS.2.2 d_MO_size_53
    · have h := xif_f c_2 h
      by_cases c_3 : a1 = 2
      · have h := xif_t c_3 h
        refine lv_tableIn (off := 48) (tgt := 54) hx hb d_MO_size_6 (by rw [c_3]; decide) (by rw [c_3]; decide) (by rw [c_3]; decide) (by decide) ?_
        refine lv_aload_n hx hb d_MO_size_54 rfl (lv_at hl 0 rfl) ?_
        refine va_get (v := .int (xgi (xpi S 0 0 (0 : Int32)) 0 30)) (C := R_MO) (T := F_MO) (N := 41) hx hb hts i_MO hown hK hP 0 (mw_at (by decide) (mc_0 _ _ _ _)) rfl 30 (by decide) (hts _ wd_730) (fun _ h9 => h9) rfl d_MO_size_55 ?_
        have h9 := Option.some.inj h
        subst h9
        exact W.iret (v := xgi (xpi S 0 0 (0 : Int32)) 0 30) hx hb hr (fun t ht hW => ⟨⟨xgi (xpi S 0 0 (0 : Int32)) 0 30, (), rfl, rfl, by show va_P D xcl _ t.heap; rw [ht]; exact hP⟩, hS.F ht⟩) hS.2.2 d_MO_size_58
      · have h := xif_f c_3 h
        by_cases c_4 : a1 = 3
        · have h := xif_t c_4 h
          refine lv_tableIn (off := 53) (tgt := 59) hx hb d_MO_size_6 (by rw [c_4]; decide) (by rw [c_4]; decide) (by rw [c_4]; decide) (by decide) ?_
          refine lv_aload_n hx hb d_MO_size_59 rfl (lv_at hl 0 rfl) ?_
          refine va_get (v := .int (xgi (xpi S 0 0 (0 : Int32)) 0 32)) (C := R_MO) (T := F_MO) (N := 41) hx hb hts i_MO hown hK hP 0 (mw_at (by decide) (mc_0 _ _ _ _)) rfl 32 (by decide) (hts _ wd_732) (fun _ h9 => h9) rfl d_MO_size_60 ?_
          have h9 := Option.some.inj h
          subst h9
          exact W.iret (v := xgi (xpi S 0 0 (0 : Int32)) 0 32) hx hb hr (fun t ht hW => ⟨⟨xgi (xpi S 0 0 (0 : Int32)) 0 32, (), rfl, rfl, by show va_P D xcl _ t.heap; rw [ht]; exact hP⟩, hS.F ht⟩) hS.2.2 d_MO_size_63
        · have h := xif_f c_4 h
          by_cases c_5 : a1 = 4
          · have h := xif_t c_5 h
            refine lv_tableIn (off := 58) (tgt := 64) hx hb d_MO_size_6 (by rw [c_5]; decide) (by rw [c_5]; decide) (by rw [c_5]; decide) (by decide) ?_
            refine lv_aload_n hx hb d_MO_size_64 rfl (lv_at hl 0 rfl) ?_
            refine va_get (v := .int (xgi (xpi S 0 0 (0 : Int32)) 0 33)) (C := R_MO) (T := F_MO) (N := 41) hx hb hts i_MO hown hK hP 0 (mw_at (by decide) (mc_0 _ _ _ _)) rfl 33 (by decide) (hts _ wd_733) (fun _ h9 => h9) rfl d_MO_size_65 ?_
            have h9 := Option.some.inj h
            subst h9
            exact W.iret (v := xgi (xpi S 0 0 (0 : Int32)) 0 33) hx hb hr (fun t ht hW => ⟨⟨xgi (xpi S 0 0 (0 : Int32)) 0 33, (), rfl, rfl, by show va_P D xcl _ t.heap; rw [ht]; exact hP⟩, hS.F ht⟩) hS.2.2 d_MO_size_68
          · have h := xif_f c_5 h
            by_cases c_6 : a1 = 5
            · have h := xif_t c_6 h
              refine lv_tableIn (off := 63) (tgt := 69) hx hb d_MO_size_6 (by rw [c_6]; decide) (by rw [c_6]; decide) (by rw [c_6]; decide) (by decide) ?_
              refine lv_aload_n hx hb d_MO_size_69 rfl (lv_at hl 0 rfl) ?_
              refine va_get (v := .int (xgi (xpi S 0 0 (0 : Int32)) 0 31)) (C := R_MO) (T := F_MO) (N := 41) hx hb hts i_MO hown hK hP 0 (mw_at (by decide) (mc_0 _ _ _ _)) rfl 31 (by decide) (hts _ wd_731) (fun _ h9 => h9) rfl d_MO_size_70 ?_
              have h9 := Option.some.inj h
              subst h9
              exact W.iret (v := xgi (xpi S 0 0 (0 : Int32)) 0 31) hx hb hr (fun t ht hW => ⟨⟨xgi (xpi S 0 0 (0 : Int32)) 0 31, (), rfl, rfl, by show va_P D xcl _ t.heap; rw [ht]; exact hP⟩, hS.F ht⟩) hS.2.2 d_MO_size_73
            · have h := xif_f c_6 h
              have nc_1 := lv_neT (k := 0) (a := 0) c_1 (by decide)
              have nc_2 := lv_neT (k := 1) (a := 1) c_2 (by decide)
              have nc_3 := lv_neT (k := 2) (a := 2) c_3 (by decide)
              have nc_4 := lv_neT (k := 3) (a := 3) c_4 (by decide)
              have nc_5 := lv_neT (k := 4) (a := 4) c_5 (by decide)
              have nc_6 := lv_neT (k := 5) (a := 5) c_6 (by decide)
              refine lv_tableOut (tgt := 74) hx hb d_MO_size_6 (by omega) (by decide) ?_
              refine lv_iconst (v := (-1 : Int32)) hx hb d_MO_size_74 (by decide) ?_
              have h9 := Option.some.inj h
              subst h9
              exact W.iret (v := (-1 : Int32)) hx hb hr (fun t ht hW => ⟨⟨(-1 : Int32), (), rfl, rfl, by show va_P D xcl _ t.heap; rw [ht]; exact hP⟩, hS.F ht⟩) hS.2.2 d_MO_size_75
theorem c_MO_size (l : Launch) (D : va_G) (lay : Nat → Nat) (cA : Nat → ClassId) (S : XS) (a1 : Int32) (r : Int32 × XS) (h : f_MO_size S a1 = some r) : Met l y_MO_size (.code y_MO_size b_MO_size 2 ((Option.some Jvm.ClassFile.FieldType.int)) :: xT) rm_MO_size (mPc D lay cA S [.ref (lay 0), .int a1]) (mqi D lay cA r.1 r.2) 0 0 (mI lay) := by
  refine Met.ofW (cc := b_MO_size) (maxL := 2) (ret := (Option.some Jvm.ClassFile.FieldType.int)) (by decide +kernel) rfl ?_
  intro p e s m args below meth c s₁ B hml hv
  obtain ⟨rfl, hP, E⟩ := hv
  have C := xB_of B hml
  have hl := lv_entry ([.ref (lay 0), .int a1]) (n := 2) (Nat.le_of_ble_eq_true rfl)
  rw [lg_entry_eq]
  generalize (lg_sl ([.ref (lay 0), .int a1]) ++ List.replicate (2 - (lg_sl ([.ref (lay 0), .int a1])).length) Slot.unset).toArray = ls at hl ⊢
  exact k_MO_size l C E S a1 r h s.heap [] ls hP va_S.rf hl
/-! ConfigTextsModel.partition(II)I -/
def rm_MO_partition : Room := { frames := 0, cells := 0, slots := 0, locals := 0 }
theorem d_MO_partition_0 : decode b_MO_partition 0 = .ok (.aload_n 0, 1) := by decide +kernel
theorem d_MO_partition_1 : decode b_MO_partition 1 = .ok (.iconst 0, 1) := by decide +kernel
theorem d_MO_partition_2 : decode b_MO_partition 2 = .ok (.putfield 158, 3) := by decide +kernel
theorem d_MO_partition_5 : decode b_MO_partition 5 = .ok (.iload_n 1, 1) := by decide +kernel
theorem d_MO_partition_6 : decode b_MO_partition 6 = .ok (.ifCond .lt 21, 3) := by decide +kernel
theorem d_MO_partition_9 : decode b_MO_partition 9 = .ok (.iload_n 1, 1) := by decide +kernel
theorem d_MO_partition_10 : decode b_MO_partition 10 = .ok (.aload_n 0, 1) := by decide +kernel
theorem d_MO_partition_11 : decode b_MO_partition 11 = .ok (.getfield 241, 3) := by decide +kernel
theorem d_MO_partition_14 : decode b_MO_partition 14 = .ok (.if_icmp .ge 13, 3) := by decide +kernel
theorem d_MO_partition_17 : decode b_MO_partition 17 = .ok (.iload_n 2, 1) := by decide +kernel
theorem d_MO_partition_18 : decode b_MO_partition 18 = .ok (.ifCond .lt 9, 3) := by decide +kernel
theorem d_MO_partition_21 : decode b_MO_partition 21 = .ok (.iload_n 2, 1) := by decide +kernel
theorem d_MO_partition_22 : decode b_MO_partition 22 = .ok (.bipush 11, 2) := by decide +kernel
theorem d_MO_partition_24 : decode b_MO_partition 24 = .ok (.if_icmp .le 5, 3) := by decide +kernel
theorem d_MO_partition_27 : decode b_MO_partition 27 = .ok (.iconst (-1), 1) := by decide +kernel
theorem d_MO_partition_28 : decode b_MO_partition 28 = .ok (.ireturn, 1) := by decide +kernel
theorem d_MO_partition_29 : decode b_MO_partition 29 = .ok (.iload_n 2, 1) := by decide +kernel
theorem d_MO_partition_30 : decode b_MO_partition 30 = .ok (.ifCond .ne 12, 3) := by decide +kernel
theorem d_MO_partition_33 : decode b_MO_partition 33 = .ok (.aload_n 0, 1) := by decide +kernel
theorem d_MO_partition_34 : decode b_MO_partition 34 = .ok (.getfield 99, 3) := by decide +kernel
theorem d_MO_partition_37 : decode b_MO_partition 37 = .ok (.iload_n 1, 1) := by decide +kernel
theorem d_MO_partition_38 : decode b_MO_partition 38 = .ok (.iaload, 1) := by decide +kernel
theorem d_MO_partition_39 : decode b_MO_partition 39 = .ok (.goto 53, 3) := by decide +kernel
theorem d_MO_partition_42 : decode b_MO_partition 42 = .ok (.iload_n 2, 1) := by decide +kernel
theorem d_MO_partition_43 : decode b_MO_partition 43 = .ok (.bipush 7, 2) := by decide +kernel
theorem d_MO_partition_45 : decode b_MO_partition 45 = .ok (.if_icmp .ge 19, 3) := by decide +kernel
theorem d_MO_partition_48 : decode b_MO_partition 48 = .ok (.aload_n 0, 1) := by decide +kernel
theorem d_MO_partition_49 : decode b_MO_partition 49 = .ok (.getfield 112, 3) := by decide +kernel
theorem d_MO_partition_52 : decode b_MO_partition 52 = .ok (.bipush 6, 2) := by decide +kernel
theorem d_MO_partition_54 : decode b_MO_partition 54 = .ok (.iload_n 1, 1) := by decide +kernel
theorem d_MO_partition_55 : decode b_MO_partition 55 = .ok (.imul, 1) := by decide +kernel
theorem d_MO_partition_56 : decode b_MO_partition 56 = .ok (.iload_n 2, 1) := by decide +kernel
theorem d_MO_partition_57 : decode b_MO_partition 57 = .ok (.iadd, 1) := by decide +kernel
theorem d_MO_partition_58 : decode b_MO_partition 58 = .ok (.iconst 1, 1) := by decide +kernel
theorem d_MO_partition_59 : decode b_MO_partition 59 = .ok (.isub, 1) := by decide +kernel
theorem d_MO_partition_60 : decode b_MO_partition 60 = .ok (.iaload, 1) := by decide +kernel
theorem d_MO_partition_61 : decode b_MO_partition 61 = .ok (.goto 31, 3) := by decide +kernel
theorem d_MO_partition_64 : decode b_MO_partition 64 = .ok (.iload_n 2, 1) := by decide +kernel
theorem d_MO_partition_65 : decode b_MO_partition 65 = .ok (.bipush 7, 2) := by decide +kernel
theorem d_MO_partition_67 : decode b_MO_partition 67 = .ok (.if_icmp .ne 12, 3) := by decide +kernel
theorem d_MO_partition_70 : decode b_MO_partition 70 = .ok (.aload_n 0, 1) := by decide +kernel
theorem d_MO_partition_71 : decode b_MO_partition 71 = .ok (.getfield 103, 3) := by decide +kernel
theorem d_MO_partition_74 : decode b_MO_partition 74 = .ok (.iload_n 1, 1) := by decide +kernel
theorem d_MO_partition_75 : decode b_MO_partition 75 = .ok (.iaload, 1) := by decide +kernel
theorem d_MO_partition_76 : decode b_MO_partition 76 = .ok (.goto 16, 3) := by decide +kernel
theorem d_MO_partition_79 : decode b_MO_partition 79 = .ok (.aload_n 0, 1) := by decide +kernel
theorem d_MO_partition_80 : decode b_MO_partition 80 = .ok (.getfield 109, 3) := by decide +kernel
theorem d_MO_partition_83 : decode b_MO_partition 83 = .ok (.iconst 4, 1) := by decide +kernel
theorem d_MO_partition_84 : decode b_MO_partition 84 = .ok (.iload_n 1, 1) := by decide +kernel
theorem d_MO_partition_85 : decode b_MO_partition 85 = .ok (.imul, 1) := by decide +kernel
theorem d_MO_partition_86 : decode b_MO_partition 86 = .ok (.iload_n 2, 1) := by decide +kernel
theorem d_MO_partition_87 : decode b_MO_partition 87 = .ok (.iadd, 1) := by decide +kernel
theorem d_MO_partition_88 : decode b_MO_partition 88 = .ok (.bipush 8, 2) := by decide +kernel
theorem d_MO_partition_90 : decode b_MO_partition 90 = .ok (.isub, 1) := by decide +kernel
theorem d_MO_partition_91 : decode b_MO_partition 91 = .ok (.iaload, 1) := by decide +kernel
theorem d_MO_partition_92 : decode b_MO_partition 92 = .ok (.ireturn, 1) := by decide +kernel
def f_MO_partition (S : XS) (a1 : Int32) (a2 : Int32) : Option (Int32 × XS) :=
  if a1 < 0 then (some ((-1 : Int32), xpi S 0 0 (0 : Int32))) else (if (xgi (xpi S 0 0 (0 : Int32)) 0 15) ≤ a1 then (some ((-1 : Int32), xpi S 0 0 (0 : Int32))) else (if a2 < 0 then (some ((-1 : Int32), xpi S 0 0 (0 : Int32))) else (if a2 ≤ (11 : Int32) then (if a2 = 0 then (if ¬ (a1 < 0 ∨ 8 ≤ a1.toNatClampNeg) then (some (xgi (xpi S 0 0 (0 : Int32)) 6 a1.toNatClampNeg, xpi S 0 0 (0 : Int32))) else none) else (if (7 : Int32) ≤ a2 then (if a2 = (7 : Int32) then (if ¬ (a1 < 0 ∨ 8 ≤ a1.toNatClampNeg) then (some (xgi (xpi S 0 0 (0 : Int32)) 7 a1.toNatClampNeg, xpi S 0 0 (0 : Int32))) else none) else (if ¬ (((((4 : Int32) * a1) + a2) - (8 : Int32)) < 0 ∨ 32 ≤ ((((4 : Int32) * a1) + a2) - (8 : Int32)).toNatClampNeg) then (some (xgi (xpi S 0 0 (0 : Int32)) 9 ((((4 : Int32) * a1) + a2) - (8 : Int32)).toNatClampNeg, xpi S 0 0 (0 : Int32))) else none)) else (if ¬ (((((6 : Int32) * a1) + a2) - (1 : Int32)) < 0 ∨ 48 ≤ ((((6 : Int32) * a1) + a2) - (1 : Int32)).toNatClampNeg) then (some (xgi (xpi S 0 0 (0 : Int32)) 10 ((((6 : Int32) * a1) + a2) - (1 : Int32)).toNatClampNeg, xpi S 0 0 (0 : Int32))) else none))) else (some ((-1 : Int32), xpi S 0 0 (0 : Int32))))))
set_option maxHeartbeats 4000000 in
set_option maxRecDepth 100000 in
theorem k_MO_partition (l : Launch) {p : Program} {e : Env} {s : State} {m : MethodId} {args : Array Value} {below : List Frame} {meth : Method} {c : Code} {D : va_G} {lay : Nat → Nat} {cA : Nat → ClassId} (C : xB p s m args meth c R_MO b_MO_partition ((Option.some Jvm.ClassFile.FieldType.int)) 3) (E : mE D lay cA s s.heap) : ∀ (S : XS) (a1 : Int32) (a2 : Int32) (r : Int32 × XS) (_ : f_MO_partition S a1 a2 = some r) (H : Heap) (locs : List Loc) (ls : Array Slot), va_P D xcl (mw lay cA S) H → va_S (mI lay) s.heap H locs → lv_has ls 3 [(0, .ref (lay 0)), (1, .int a1), (2, .int a2)] → W p l e rm_MO_partition s m args below meth c H locs 0 0 (MQ below (mqi D lay cA r.1 r.2) args s 0 0 (mI lay)) (F0 m 0 ls []) := by
  obtain ⟨hx, hb, hr, hml, hown, hts, hlk, hnh⟩ := id C
  have hK := E.K
  intro S a1 a2 r h H locs ls hP hS hl
  unfold f_MO_partition at h
  refine lv_aload_n hx hb d_MO_partition_0 rfl (lv_at hl 0 rfl) ?_
  refine lv_iconst (v := (0 : Int32)) hx hb d_MO_partition_1 (by decide) ?_
  refine mput_0 hx hb hts hown E hP hS (hts _ wd_700) d_MO_partition_2 (fun H locs hP hS => ?_)
  refine lv_iload_n hx hb d_MO_partition_5 rfl (lv_at hl 1 rfl) ?_
  refine lv_if_lt (tgt := 27) hx hb d_MO_partition_6 (by decide) (fun c_11 => ?_) (fun c_11 => ?_)
  · have h := xif_t c_11 h
    refine lv_iconst (v := (-1 : Int32)) hx hb d_MO_partition_27 (by decide) ?_
    have h9 := Option.some.inj h
    subst h9
    exact W.iret (v := (-1 : Int32)) hx hb hr (fun t ht hW => ⟨⟨(-1 : Int32), (), rfl, rfl, by show va_P D xcl _ t.heap; rw [ht]; exact hP⟩, hS.F ht⟩) hS.2.2 d_MO_partition_28
  · have h := xif_f c_11 h
    refine lv_iload_n hx hb d_MO_partition_9 rfl (lv_at hl 1 rfl) ?_
    refine lv_aload_n hx hb d_MO_partition_10 rfl (lv_at hl 0 rfl) ?_
    refine va_get (v := .int (xgi (xpi S 0 0 (0 : Int32)) 0 15)) (C := R_MO) (T := F_MO) (N := 41) hx hb hts i_MO hown hK hP 0 (mw_at (by decide) (mc_0 _ _ _ _)) rfl 15 (by decide) (hts _ wd_715) (fun _ h9 => h9) rfl d_MO_partition_11 ?_
    refine lv_icmp_ge (tgt := 27) hx hb d_MO_partition_14 (by decide) (fun c_10 => ?_) (fun c_10 => ?_)
    · have h := xif_t c_10 h
      refine lv_iconst (v := (-1 : Int32)) hx hb d_MO_partition_27 (by decide) ?_
      have h9 := Option.some.inj h
      subst h9
      exact W.iret (v := (-1 : Int32)) hx hb hr (fun t ht hW => ⟨⟨(-1 : Int32), (), rfl, rfl, by show va_P D xcl _ t.heap; rw [ht]; exact hP⟩, hS.F ht⟩) hS.2.2 d_MO_partition_28
    · have h := xif_f c_10 h
      refine lv_iload_n hx hb d_MO_partition_17 rfl (lv_at hl 2 rfl) ?_
      refine lv_if_lt (tgt := 27) hx hb d_MO_partition_18 (by decide) (fun c_9 => ?_) (fun c_9 => ?_)
      · have h := xif_t c_9 h
        refine lv_iconst (v := (-1 : Int32)) hx hb d_MO_partition_27 (by decide) ?_
        have h9 := Option.some.inj h
        subst h9
        exact W.iret (v := (-1 : Int32)) hx hb hr (fun t ht hW => ⟨⟨(-1 : Int32), (), rfl, rfl, by show va_P D xcl _ t.heap; rw [ht]; exact hP⟩, hS.F ht⟩) hS.2.2 d_MO_partition_28
      · have h := xif_f c_9 h
        refine lv_iload_n hx hb d_MO_partition_21 rfl (lv_at hl 2 rfl) ?_
        refine lv_bipush (v := (11 : Int32)) hx hb d_MO_partition_22 (by decide) ?_
        refine lv_icmp_le (tgt := 29) hx hb d_MO_partition_24 (by decide) (fun c_8 => ?_) (fun c_8 => ?_)
        · have h := xif_t c_8 h
          refine lv_iload_n hx hb d_MO_partition_29 rfl (lv_at hl 2 rfl) ?_
          refine lv_if_ne (tgt := 42) hx hb d_MO_partition_30 (by decide) (fun c_7 => ?_) (fun c_7 => ?_)
          · have h := xif_f c_7 h
            refine lv_iload_n hx hb d_MO_partition_42 rfl (lv_at hl 2 rfl) ?_
            refine lv_bipush (v := (7 : Int32)) hx hb d_MO_partition_43 (by decide) ?_
            refine lv_icmp_ge (tgt := 64) hx hb d_MO_partition_45 (by decide) (fun c_5 => ?_) (fun c_5 => ?_)
            · have h := xif_t c_5 h
              refine lv_iload_n hx hb d_MO_partition_64 rfl (lv_at hl 2 rfl) ?_
              refine lv_bipush (v := (7 : Int32)) hx hb d_MO_partition_65 (by decide) ?_
              refine lv_icmp_ne (tgt := 79) hx hb d_MO_partition_67 (by decide) (fun c_3 => ?_) (fun c_3 => ?_)
              · have h := xif_f c_3 h
                refine lv_aload_n hx hb d_MO_partition_79 rfl (lv_at hl 0 rfl) ?_
                refine va_get (v := .ref (lay 9)) (C := R_MO) (T := F_MO) (N := 41) hx hb hts i_MO hown hK hP 0 (mw_at (by decide) (mc_0 _ _ _ _)) rfl 20 (by decide) (hts _ wd_720) (fun _ h9 => h9) rfl d_MO_partition_80 ?_
                refine lv_iconst (v := (4 : Int32)) hx hb d_MO_partition_83 (by decide) ?_
                refine lv_iload_n hx hb d_MO_partition_84 rfl (lv_at hl 1 rfl) ?_
                refine lv_imul hx hb d_MO_partition_85 ?_
                refine lv_iload_n hx hb d_MO_partition_86 rfl (lv_at hl 2 rfl) ?_
                refine lv_iadd hx hb d_MO_partition_87 ?_
                refine lv_bipush (v := (8 : Int32)) hx hb d_MO_partition_88 (by decide) ?_
                refine lv_isub hx hb d_MO_partition_90 ?_
                obtain ⟨hg1, h⟩ := xg h
                refine mal_9 hx hb E hP hg1 d_MO_partition_91 ?_
                have h9 := Option.some.inj h
                subst h9
                exact W.iret (v := xgi (xpi S 0 0 (0 : Int32)) 9 ((((4 : Int32) * a1) + a2) - (8 : Int32)).toNatClampNeg) hx hb hr (fun t ht hW => ⟨⟨xgi (xpi S 0 0 (0 : Int32)) 9 ((((4 : Int32) * a1) + a2) - (8 : Int32)).toNatClampNeg, (), rfl, rfl, by show va_P D xcl _ t.heap; rw [ht]; exact hP⟩, hS.F ht⟩) hS.2.2 d_MO_partition_92
              · have h := xif_t c_3 h
                refine lv_aload_n hx hb d_MO_partition_70 rfl (lv_at hl 0 rfl) ?_
                refine va_get (v := .ref (lay 7)) (C := R_MO) (T := F_MO) (N := 41) hx hb hts i_MO hown hK hP 0 (mw_at (by decide) (mc_0 _ _ _ _)) rfl 18 (by decide) (hts _ wd_718) (fun _ h9 => h9) rfl d_MO_partition_71 ?_
                refine lv_iload_n hx hb d_MO_partition_74 rfl (lv_at hl 1 rfl) ?_
                obtain ⟨hg2, h⟩ := xg h
                refine mal_7 hx hb E hP hg2 d_MO_partition_75 ?_
                refine lv_goto (tgt := 92) hx hb d_MO_partition_76 (by decide) ?_
                have h9 := Option.some.inj h
                subst h9
                exact W.iret (v := xgi (xpi S 0 0 (0 : Int32)) 7 a1.toNatClampNeg) hx hb hr (fun t ht hW => ⟨⟨xgi (xpi S 0 0 (0 : Int32)) 7 a1.toNatClampNeg, (), rfl, rfl, by show va_P D xcl _ t.heap; rw [ht]; exact hP⟩, hS.F ht⟩) hS.2.2 d_MO_partition_92
            · have h := xif_f c_5 h
              refine lv_aload_n hx hb d_MO_partition_48 rfl (lv_at hl 0 rfl) ?_
              refine va_get (v := .ref (lay 10)) (C := R_MO) (T := F_MO) (N := 41) hx hb hts i_MO hown hK hP 0 (mw_at (by decide) (mc_0 _ _ _ _)) rfl 21 (by decide) (hts _ wd_721) (fun _ h9 => h9) rfl d_MO_partition_49 ?_
              refine lv_bipush (v := (6 : Int32)) hx hb d_MO_partition_52 (by decide) ?_
              refine lv_iload_n hx hb d_MO_partition_54 rfl (lv_at hl 1 rfl) ?_
              refine lv_imul hx hb d_MO_partition_55 ?_
              refine lv_iload_n hx hb d_MO_partition_56 rfl (lv_at hl 2 rfl) ?_
              refine lv_iadd hx hb d_MO_partition_57 ?_
              refine lv_iconst (v := (1 : Int32)) hx hb d_MO_partition_58 (by decide) ?_
              refine lv_isub hx hb d_MO_partition_59 ?_
              obtain ⟨hg4, h⟩ := xg h
              refine mal_10 hx hb E hP hg4 d_MO_partition_60 ?_
              refine lv_goto (tgt := 92) hx hb d_MO_partition_61 (by decide) ?_
              have h9 := Option.some.inj h
              subst h9
              exact W.iret (v := xgi (xpi S 0 0 (0 : Int32)) 10 ((((6 : Int32) * a1) + a2) - (1 : Int32)).toNatClampNeg) hx hb hr (fun t ht hW => ⟨⟨xgi (xpi S 0 0 (0 : Int32)) 10 ((((6 : Int32) * a1) + a2) - (1 : Int32)).toNatClampNeg, (), rfl, rfl, by show va_P D xcl _ t.heap; rw [ht]; exact hP⟩, hS.F ht⟩) hS.2.2 d_MO_partition_92
          · have h := xif_t c_7 h
            refine lv_aload_n hx hb d_MO_partition_33 rfl (lv_at hl 0 rfl) ?_
            refine va_get (v := .ref (lay 6)) (C := R_MO) (T := F_MO) (N := 41) hx hb hts i_MO hown hK hP 0 (mw_at (by decide) (mc_0 _ _ _ _)) rfl 17 (by decide) (hts _ wd_717) (fun _ h9 => h9) rfl d_MO_partition_34 ?_
            refine lv_iload_n hx hb d_MO_partition_37 rfl (lv_at hl 1 rfl) ?_
            obtain ⟨hg6, h⟩ := xg h
            refine mal_6 hx hb E hP hg6 d_MO_partition_38 ?_
            refine lv_goto (tgt := 92) hx hb d_MO_partition_39 (by decide) ?_
            have h9 := Option.some.inj h
            subst h9
            exact W.iret (v := xgi (xpi S 0 0 (0 : Int32)) 6 a1.toNatClampNeg) hx hb hr (fun t ht hW => ⟨⟨xgi (xpi S 0 0 (0 : Int32)) 6 a1.toNatClampNeg, (), rfl, rfl, by show va_P D xcl _ t.heap; rw [ht]; exact hP⟩, hS.F ht⟩) hS.2.2 d_MO_partition_92
        · have h := xif_f c_8 h
          refine lv_iconst (v := (-1 : Int32)) hx hb d_MO_partition_27 (by decide) ?_
          have h9 := Option.some.inj h
          subst h9
          exact W.iret (v := (-1 : Int32)) hx hb hr (fun t ht hW => ⟨⟨(-1 : Int32), (), rfl, rfl, by show va_P D xcl _ t.heap; rw [ht]; exact hP⟩, hS.F ht⟩) hS.2.2 d_MO_partition_28
theorem c_MO_partition (l : Launch) (D : va_G) (lay : Nat → Nat) (cA : Nat → ClassId) (S : XS) (a1 : Int32) (a2 : Int32) (r : Int32 × XS) (h : f_MO_partition S a1 a2 = some r) : Met l y_MO_partition (.code y_MO_partition b_MO_partition 3 ((Option.some Jvm.ClassFile.FieldType.int)) :: xT) rm_MO_partition (mPc D lay cA S [.ref (lay 0), .int a1, .int a2]) (mqi D lay cA r.1 r.2) 0 0 (mI lay) := by
  refine Met.ofW (cc := b_MO_partition) (maxL := 3) (ret := (Option.some Jvm.ClassFile.FieldType.int)) (by decide +kernel) rfl ?_
  intro p e s m args below meth c s₁ B hml hv
  obtain ⟨rfl, hP, E⟩ := hv
  have C := xB_of B hml
  have hl := lv_entry ([.ref (lay 0), .int a1, .int a2]) (n := 3) (Nat.le_of_ble_eq_true rfl)
  rw [lg_entry_eq]
  generalize (lg_sl ([.ref (lay 0), .int a1, .int a2]) ++ List.replicate (3 - (lg_sl ([.ref (lay 0), .int a1, .int a2])).length) Slot.unset).toArray = ls at hl ⊢
  exact k_MO_partition l C E S a1 a2 r h s.heap [] ls hP va_S.rf hl
/-! ConfigTextsModel.valueOf(IIIII)I -/
def rm_MO_valueOf : Room := { frames := 0, cells := 0, slots := 0, locals := 0 }
theorem d_MO_valueOf_0 : decode b_MO_valueOf 0 = .ok (.iload_n 1, 1) := by decide +kernel
theorem d_MO_valueOf_1 : decode b_MO_valueOf 1 = .ok (.ifCond .lt 23, 3) := by decide +kernel
theorem d_MO_valueOf_4 : decode b_MO_valueOf 4 = .ok (.iload_n 1, 1) := by decide +kernel
theorem d_MO_valueOf_5 : decode b_MO_valueOf 5 = .ok (.aload_n 0, 1) := by decide +kernel
theorem d_MO_valueOf_6 : decode b_MO_valueOf 6 = .ok (.getfield 241, 3) := by decide +kernel
theorem d_MO_valueOf_9 : decode b_MO_valueOf 9 = .ok (.if_icmp .ge 15, 3) := by decide +kernel
theorem d_MO_valueOf_12 : decode b_MO_valueOf 12 = .ok (.iload 4, 2) := by decide +kernel
theorem d_MO_valueOf_14 : decode b_MO_valueOf 14 = .ok (.ifCond .lt 10, 3) := by decide +kernel
theorem d_MO_valueOf_17 : decode b_MO_valueOf 17 = .ok (.iload 4, 2) := by decide +kernel
theorem d_MO_valueOf_19 : decode b_MO_valueOf 19 = .ok (.iload 5, 2) := by decide +kernel
theorem d_MO_valueOf_21 : decode b_MO_valueOf 21 = .ok (.if_icmp .lt 5, 3) := by decide +kernel
theorem d_MO_valueOf_24 : decode b_MO_valueOf 24 = .ok (.iconst (-1), 1) := by decide +kernel
theorem d_MO_valueOf_25 : decode b_MO_valueOf 25 = .ok (.ireturn, 1) := by decide +kernel
theorem d_MO_valueOf_26 : decode b_MO_valueOf 26 = .ok (.bipush 40, 2) := by decide +kernel
theorem d_MO_valueOf_28 : decode b_MO_valueOf 28 = .ok (.iload_n 1, 1) := by decide +kernel
theorem d_MO_valueOf_29 : decode b_MO_valueOf 29 = .ok (.imul, 1) := by decide +kernel
theorem d_MO_valueOf_30 : decode b_MO_valueOf 30 = .ok (.istore 6, 2) := by decide +kernel
theorem d_MO_valueOf_32 : decode b_MO_valueOf 32 = .ok (.iload 6, 2) := by decide +kernel
theorem d_MO_valueOf_34 : decode b_MO_valueOf 34 = .ok (.bipush 40, 2) := by decide +kernel
theorem d_MO_valueOf_36 : decode b_MO_valueOf 36 = .ok (.iload_n 1, 1) := by decide +kernel
theorem d_MO_valueOf_37 : decode b_MO_valueOf 37 = .ok (.imul, 1) := by decide +kernel
theorem d_MO_valueOf_38 : decode b_MO_valueOf 38 = .ok (.aload_n 0, 1) := by decide +kernel
theorem d_MO_valueOf_39 : decode b_MO_valueOf 39 = .ok (.getfield 122, 3) := by decide +kernel
theorem d_MO_valueOf_42 : decode b_MO_valueOf 42 = .ok (.iload_n 1, 1) := by decide +kernel
theorem d_MO_valueOf_43 : decode b_MO_valueOf 43 = .ok (.iaload, 1) := by decide +kernel
theorem d_MO_valueOf_44 : decode b_MO_valueOf 44 = .ok (.iadd, 1) := by decide +kernel
theorem d_MO_valueOf_45 : decode b_MO_valueOf 45 = .ok (.if_icmp .ge 44, 3) := by decide +kernel
theorem d_MO_valueOf_48 : decode b_MO_valueOf 48 = .ok (.aload_n 0, 1) := by decide +kernel
theorem d_MO_valueOf_49 : decode b_MO_valueOf 49 = .ok (.getfield 125, 3) := by decide +kernel
theorem d_MO_valueOf_52 : decode b_MO_valueOf 52 = .ok (.iload 6, 2) := by decide +kernel
theorem d_MO_valueOf_54 : decode b_MO_valueOf 54 = .ok (.iaload, 1) := by decide +kernel
theorem d_MO_valueOf_55 : decode b_MO_valueOf 55 = .ok (.iload_n 2, 1) := by decide +kernel
theorem d_MO_valueOf_56 : decode b_MO_valueOf 56 = .ok (.if_icmp .ne 27, 3) := by decide +kernel
theorem d_MO_valueOf_59 : decode b_MO_valueOf 59 = .ok (.aload_n 0, 1) := by decide +kernel
theorem d_MO_valueOf_60 : decode b_MO_valueOf 60 = .ok (.getfield 128, 3) := by decide +kernel
theorem d_MO_valueOf_63 : decode b_MO_valueOf 63 = .ok (.iload 6, 2) := by decide +kernel
theorem d_MO_valueOf_65 : decode b_MO_valueOf 65 = .ok (.iaload, 1) := by decide +kernel
theorem d_MO_valueOf_66 : decode b_MO_valueOf 66 = .ok (.iload_n 3, 1) := by decide +kernel
theorem d_MO_valueOf_67 : decode b_MO_valueOf 67 = .ok (.if_icmp .ne 16, 3) := by decide +kernel
theorem d_MO_valueOf_70 : decode b_MO_valueOf 70 = .ok (.aload_n 0, 1) := by decide +kernel
theorem d_MO_valueOf_71 : decode b_MO_valueOf 71 = .ok (.getfield 131, 3) := by decide +kernel
theorem d_MO_valueOf_74 : decode b_MO_valueOf 74 = .ok (.iconst 5, 1) := by decide +kernel
theorem d_MO_valueOf_75 : decode b_MO_valueOf 75 = .ok (.iload 6, 2) := by decide +kernel
theorem d_MO_valueOf_77 : decode b_MO_valueOf 77 = .ok (.imul, 1) := by decide +kernel
theorem d_MO_valueOf_78 : decode b_MO_valueOf 78 = .ok (.iload 4, 2) := by decide +kernel
theorem d_MO_valueOf_80 : decode b_MO_valueOf 80 = .ok (.iadd, 1) := by decide +kernel
theorem d_MO_valueOf_81 : decode b_MO_valueOf 81 = .ok (.iaload, 1) := by decide +kernel
theorem d_MO_valueOf_82 : decode b_MO_valueOf 82 = .ok (.ireturn, 1) := by decide +kernel
theorem d_MO_valueOf_83 : decode b_MO_valueOf 83 = .ok (.iinc 6 1, 3) := by decide +kernel
theorem d_MO_valueOf_86 : decode b_MO_valueOf 86 = .ok (.goto (-54), 3) := by decide +kernel
theorem d_MO_valueOf_89 : decode b_MO_valueOf 89 = .ok (.iconst (-1), 1) := by decide +kernel
theorem d_MO_valueOf_90 : decode b_MO_valueOf 90 = .ok (.ireturn, 1) := by decide +kernel
def f_MO_valueOf_32 : Nat → XS → Int32 → Int32 → Int32 → Int32 → Int32 → Option (Int32)
  | 0, _, _, _, _, _, _ => none
  | n + 1, S, a1, a2, a3, a4, a6 =>
    if ¬ (a1 < 0 ∨ 8 ≤ a1.toNatClampNeg) then (if (((40 : Int32) * a1) + (xgi S 13 a1.toNatClampNeg)) ≤ a6 then (some (-1 : Int32)) else (if ¬ (a6 < 0 ∨ 320 ≤ a6.toNatClampNeg) then (if (xgi S 14 a6.toNatClampNeg) = a2 then (if ¬ (a6 < 0 ∨ 320 ≤ a6.toNatClampNeg) then (if (xgi S 15 a6.toNatClampNeg) = a3 then (if ¬ ((((5 : Int32) * a6) + a4) < 0 ∨ 1600 ≤ (((5 : Int32) * a6) + a4).toNatClampNeg) then (some (xgi S 16 (((5 : Int32) * a6) + a4).toNatClampNeg)) else none) else (f_MO_valueOf_32 n S a1 a2 a3 a4 (a6 + (1 : Int32)))) else none) else (f_MO_valueOf_32 n S a1 a2 a3 a4 (a6 + (1 : Int32)))) else none)) else none
set_option maxHeartbeats 4000000 in
set_option maxRecDepth 100000 in
theorem k_MO_valueOf_32 (l : Launch) {p : Program} {e : Env} {s : State} {m : MethodId} {args : Array Value} {below : List Frame} {meth : Method} {c : Code} {D : va_G} {lay : Nat → Nat} {cA : Nat → ClassId} (C : xB p s m args meth c R_MO b_MO_valueOf ((Option.some Jvm.ClassFile.FieldType.int)) 7) (E : mE D lay cA s s.heap) : ∀ (n : Nat) (S : XS) (a1 : Int32) (a2 : Int32) (a3 : Int32) (a4 : Int32) (a6 : Int32) (r : Int32) (_ : f_MO_valueOf_32 n S a1 a2 a3 a4 a6 = some r) (H : Heap) (locs : List Loc) (ls : Array Slot), va_P D xcl (mw lay cA S) H → va_S (mI lay) s.heap H locs → lv_has ls 7 [(0, .ref (lay 0)), (1, .int a1), (2, .int a2), (3, .int a3), (4, .int a4), (6, .int a6)] → W p l e rm_MO_valueOf s m args below meth c H locs 0 0 (MQ below (mqi D lay cA r S) args s 0 0 (mI lay)) (F0 m 32 ls []) := by
  obtain ⟨hx, hb, hr, hml, hown, hts, hlk, hnh⟩ := id C
  have hK := E.K
  intro n
  induction n with
  | zero => intro S a1 a2 a3 a4 a6 r h; rw [f_MO_valueOf_32] at h; cases h
  | succ n ih =>
    intro S a1 a2 a3 a4 a6 r h H locs ls hP hS hl
    rw [f_MO_valueOf_32] at h
    refine lv_iload hx hb d_MO_valueOf_32 (lv_at hl 5 rfl) ?_
    refine lv_bipush (v := (40 : Int32)) hx hb d_MO_valueOf_34 (by decide) ?_
    refine lv_iload_n hx hb d_MO_valueOf_36 rfl (lv_at hl 1 rfl) ?_
    refine lv_imul hx hb d_MO_valueOf_37 ?_
    refine lv_aload_n hx hb d_MO_valueOf_38 rfl (lv_at hl 0 rfl) ?_
    refine va_get (v := .ref (lay 13)) (C := R_MO) (T := F_MO) (N := 41) hx hb hts i_MO hown hK hP 0 (mw_at (by decide) (mc_0 _ _ _ _)) rfl 24 (by decide) (hts _ wd_724) (fun _ h9 => h9) rfl d_MO_valueOf_39 ?_
    refine lv_iload_n hx hb d_MO_valueOf_42 rfl (lv_at hl 1 rfl) ?_
    obtain ⟨hg5, h⟩ := xg h
    refine mal_13 hx hb E hP hg5 d_MO_valueOf_43 ?_
    refine lv_iadd hx hb d_MO_valueOf_44 ?_
    refine lv_icmp_ge (tgt := 89) hx hb d_MO_valueOf_45 (by decide) (fun c_11 => ?_) (fun c_11 => ?_)
    · have h := xif_t c_11 h
      refine lv_iconst (v := (-1 : Int32)) hx hb d_MO_valueOf_89 (by decide) ?_
      have h9 := Option.some.inj h
      subst h9
      exact W.iret (v := (-1 : Int32)) hx hb hr (fun t ht hW => ⟨⟨(-1 : Int32), (), rfl, rfl, by show va_P D xcl _ t.heap; rw [ht]; exact hP⟩, hS.F ht⟩) hS.2.2 d_MO_valueOf_90
    · have h := xif_f c_11 h
      refine lv_aload_n hx hb d_MO_valueOf_48 rfl (lv_at hl 0 rfl) ?_
      refine va_get (v := .ref (lay 14)) (C := R_MO) (T := F_MO) (N := 41) hx hb hts i_MO hown hK hP 0 (mw_at (by decide) (mc_0 _ _ _ _)) rfl 25 (by decide) (hts _ wd_725) (fun _ h9 => h9) rfl d_MO_valueOf_49 ?_
      refine lv_iload hx hb d_MO_valueOf_52 (lv_at hl 5 rfl) ?_
      obtain ⟨hg6, h⟩ := xg h
      refine mal_14 hx hb E hP hg6 d_MO_valueOf_54 ?_
      refine lv_iload_n hx hb d_MO_valueOf_55 rfl (lv_at hl 2 rfl) ?_
      refine lv_icmp_ne (tgt := 83) hx hb d_MO_valueOf_56 (by decide) (fun c_10 => ?_) (fun c_10 => ?_)
      · have h := xif_f c_10 h
        refine lv_iinc (v := a6 + (1 : Int32)) (lv' := [(6, .int (a6 + (1 : Int32))), (0, .ref (lay 0)), (1, .int a1), (2, .int a2), (3, .int a3), (4, .int a4)]) hx hb d_MO_valueOf_83 hl (k := 5) rfl (by rfl) (by decide) rfl (fun ls hl => ?_)
        refine lv_goto (tgt := 32) hx hb d_MO_valueOf_86 (by decide) ?_
        exact ih S a1 a2 a3 a4 (a6 + (1 : Int32)) _ h H locs ls hP hS (lv_sub hl [1, 2, 3, 4, 5, 0] rfl)
      · have h := xif_t c_10 h
        refine lv_aload_n hx hb d_MO_valueOf_59 rfl (lv_at hl 0 rfl) ?_
        refine va_get (v := .ref (lay 15)) (C := R_MO) (T := F_MO) (N := 41) hx hb hts i_MO hown hK hP 0 (mw_at (by decide) (mc_0 _ _ _ _)) rfl 26 (by decide) (hts _ wd_726) (fun _ h9 => h9) rfl d_MO_valueOf_60 ?_
        refine lv_iload hx hb d_MO_valueOf_63 (lv_at hl 5 rfl) ?_
        obtain ⟨hg7, h⟩ := xg h
        refine mal_15 hx hb E hP hg7 d_MO_valueOf_65 ?_
        refine lv_iload_n hx hb d_MO_valueOf_66 rfl (lv_at hl 3 rfl) ?_
        refine lv_icmp_ne (tgt := 83) hx hb d_MO_valueOf_67 (by decide) (fun c_9 => ?_) (fun c_9 => ?_)
        · have h := xif_f c_9 h
          refine lv_iinc (v := a6 + (1 : Int32)) (lv' := [(6, .int (a6 + (1 : Int32))), (0, .ref (lay 0)), (1, .int a1), (2, .int a2), (3, .int a3), (4, .int a4)]) hx hb d_MO_valueOf_83 hl (k := 5) rfl (by rfl) (by decide) rfl (fun ls hl => ?_)
          refine lv_goto (tgt := 32) hx hb d_MO_valueOf_86 (by decide) ?_
          exact ih S a1 a2 a3 a4 (a6 + (1 : Int32)) _ h H locs ls hP hS (lv_sub hl [1, 2, 3, 4, 5, 0] rfl)
        · have h := xif_t c_9 h
          refine lv_aload_n hx hb d_MO_valueOf_70 rfl (lv_at hl 0 rfl) ?_
          refine va_get (v := .ref (lay 16)) (C := R_MO) (T := F_MO) (N := 41) hx hb hts i_MO hown hK hP 0 (mw_at (by decide) (mc_0 _ _ _ _)) rfl 27 (by decide) (hts _ wd_727) (fun _ h9 => h9) rfl d_MO_valueOf_71 ?_
          refine lv_iconst (v := (5 : Int32)) hx hb d_MO_valueOf_74 (by decide) ?_
          refine lv_iload hx hb d_MO_valueOf_75 (lv_at hl 5 rfl) ?_
          refine lv_imul hx hb d_MO_valueOf_77 ?_
          refine lv_iload hx hb d_MO_valueOf_78 (lv_at hl 4 rfl) ?_
          refine lv_iadd hx hb d_MO_valueOf_80 ?_
          obtain ⟨hg8, h⟩ := xg h
          refine mal_16 hx hb E hP hg8 d_MO_valueOf_81 ?_
          have h9 := Option.some.inj h
          subst h9
          exact W.iret (v := xgi S 16 (((5 : Int32) * a6) + a4).toNatClampNeg) hx hb hr (fun t ht hW => ⟨⟨xgi S 16 (((5 : Int32) * a6) + a4).toNatClampNeg, (), rfl, rfl, by show va_P D xcl _ t.heap; rw [ht]; exact hP⟩, hS.F ht⟩) hS.2.2 d_MO_valueOf_82
def f_MO_valueOf (S : XS) (a1 : Int32) (a2 : Int32) (a3 : Int32) (a4 : Int32) (a5 : Int32) : Option (Int32) :=
  if a1 < 0 then (some (-1 : Int32)) else (if (xgi S 0 15) ≤ a1 then (some (-1 : Int32)) else (if a4 < 0 then (some (-1 : Int32)) else (if a4 < a5 then (f_MO_valueOf_32 4096 S a1 a2 a3 a4 ((40 : Int32) * a1)) else (some (-1 : Int32)))))
set_option maxHeartbeats 4000000 in
set_option maxRecDepth 100000 in
theorem k_MO_valueOf (l : Launch) {p : Program} {e : Env} {s : State} {m : MethodId} {args : Array Value} {below : List Frame} {meth : Method} {c : Code} {D : va_G} {lay : Nat → Nat} {cA : Nat → ClassId} (C : xB p s m args meth c R_MO b_MO_valueOf ((Option.some Jvm.ClassFile.FieldType.int)) 7) (E : mE D lay cA s s.heap) : ∀ (S : XS) (a1 : Int32) (a2 : Int32) (a3 : Int32) (a4 : Int32) (a5 : Int32) (r : Int32) (_ : f_MO_valueOf S a1 a2 a3 a4 a5 = some r) (H : Heap) (locs : List Loc) (ls : Array Slot), va_P D xcl (mw lay cA S) H → va_S (mI lay) s.heap H locs → lv_has ls 7 [(0, .ref (lay 0)), (1, .int a1), (2, .int a2), (3, .int a3), (4, .int a4), (5, .int a5)] → W p l e rm_MO_valueOf s m args below meth c H locs 0 0 (MQ below (mqi D lay cA r S) args s 0 0 (mI lay)) (F0 m 0 ls []) := by
  obtain ⟨hx, hb, hr, hml, hown, hts, hlk, hnh⟩ := id C
  have hK := E.K
  intro S a1 a2 a3 a4 a5 r h H locs ls hP hS hl
  unfold f_MO_valueOf at h
  refine lv_iload_n hx hb d_MO_valueOf_0 rfl (lv_at hl 1 rfl) ?_
  refine lv_if_lt (tgt := 24) hx hb d_MO_valueOf_1 (by decide) (fun c_4 => ?_) (fun c_4 => ?_)
  · have h := xif_t c_4 h
    refine lv_iconst (v := (-1 : Int32)) hx hb d_MO_valueOf_24 (by decide) ?_
    have h9 := Option.some.inj h
    subst h9
    exact W.iret (v := (-1 : Int32)) hx hb hr (fun t ht hW => ⟨⟨(-1 : Int32), (), rfl, rfl, by show va_P D xcl _ t.heap; rw [ht]; exact hP⟩, hS.F ht⟩) hS.2.2 d_MO_valueOf_25
  · have h := xif_f c_4 h
    refine lv_iload_n hx hb d_MO_valueOf_4 rfl (lv_at hl 1 rfl) ?_
    refine lv_aload_n hx hb d_MO_valueOf_5 rfl (lv_at hl 0 rfl) ?_
    refine va_get (v := .int (xgi S 0 15)) (C := R_MO) (T := F_MO) (N := 41) hx hb hts i_MO hown hK hP 0 (mw_at (by decide) (mc_0 _ _ _ _)) rfl 15 (by decide) (hts _ wd_715) (fun _ h9 => h9) rfl d_MO_valueOf_6 ?_
    refine lv_icmp_ge (tgt := 24) hx hb d_MO_valueOf_9 (by decide) (fun c_3 => ?_) (fun c_3 => ?_)
    · have h := xif_t c_3 h
      refine lv_iconst (v := (-1 : Int32)) hx hb d_MO_valueOf_24 (by decide) ?_
      have h9 := Option.some.inj h
      subst h9
      exact W.iret (v := (-1 : Int32)) hx hb hr (fun t ht hW => ⟨⟨(-1 : Int32), (), rfl, rfl, by show va_P D xcl _ t.heap; rw [ht]; exact hP⟩, hS.F ht⟩) hS.2.2 d_MO_valueOf_25
    · have h := xif_f c_3 h
      refine lv_iload hx hb d_MO_valueOf_12 (lv_at hl 4 rfl) ?_
      refine lv_if_lt (tgt := 24) hx hb d_MO_valueOf_14 (by decide) (fun c_2 => ?_) (fun c_2 => ?_)
      · have h := xif_t c_2 h
        refine lv_iconst (v := (-1 : Int32)) hx hb d_MO_valueOf_24 (by decide) ?_
        have h9 := Option.some.inj h
        subst h9
        exact W.iret (v := (-1 : Int32)) hx hb hr (fun t ht hW => ⟨⟨(-1 : Int32), (), rfl, rfl, by show va_P D xcl _ t.heap; rw [ht]; exact hP⟩, hS.F ht⟩) hS.2.2 d_MO_valueOf_25
      · have h := xif_f c_2 h
        refine lv_iload hx hb d_MO_valueOf_17 (lv_at hl 4 rfl) ?_
        refine lv_iload hx hb d_MO_valueOf_19 (lv_at hl 5 rfl) ?_
        refine lv_icmp_lt (tgt := 26) hx hb d_MO_valueOf_21 (by decide) (fun c_1 => ?_) (fun c_1 => ?_)
        · have h := xif_t c_1 h
          refine lv_bipush (v := (40 : Int32)) hx hb d_MO_valueOf_26 (by decide) ?_
          refine lv_iload_n hx hb d_MO_valueOf_28 rfl (lv_at hl 1 rfl) ?_
          refine lv_imul hx hb d_MO_valueOf_29 ?_
          refine lv_istore (lv' := [(6, .int ((40 : Int32) * a1)), (0, .ref (lay 0)), (1, .int a1), (2, .int a2), (3, .int a3), (4, .int a4), (5, .int a5)]) hx hb d_MO_valueOf_30 hl (by decide) rfl (fun ls hl => ?_)
          exact k_MO_valueOf_32 l C E 4096 S a1 a2 a3 a4 ((40 : Int32) * a1) _ h H locs ls hP hS (lv_sub hl [1, 2, 3, 4, 5, 0] rfl)
        · have h := xif_f c_1 h
          refine lv_iconst (v := (-1 : Int32)) hx hb d_MO_valueOf_24 (by decide) ?_
          have h9 := Option.some.inj h
          subst h9
          exact W.iret (v := (-1 : Int32)) hx hb hr (fun t ht hW => ⟨⟨(-1 : Int32), (), rfl, rfl, by show va_P D xcl _ t.heap; rw [ht]; exact hP⟩, hS.F ht⟩) hS.2.2 d_MO_valueOf_25
theorem c_MO_valueOf (l : Launch) (D : va_G) (lay : Nat → Nat) (cA : Nat → ClassId) (S : XS) (a1 : Int32) (a2 : Int32) (a3 : Int32) (a4 : Int32) (a5 : Int32) (r : Int32) (h : f_MO_valueOf S a1 a2 a3 a4 a5 = some r) : Met l y_MO_valueOf (.code y_MO_valueOf b_MO_valueOf 7 ((Option.some Jvm.ClassFile.FieldType.int)) :: xT) rm_MO_valueOf (mPc D lay cA S [.ref (lay 0), .int a1, .int a2, .int a3, .int a4, .int a5]) (mqi D lay cA r S) 0 0 (mI lay) := by
  refine Met.ofW (cc := b_MO_valueOf) (maxL := 7) (ret := (Option.some Jvm.ClassFile.FieldType.int)) (by decide +kernel) rfl ?_
  intro p e s m args below meth c s₁ B hml hv
  obtain ⟨rfl, hP, E⟩ := hv
  have C := xB_of B hml
  have hl := lv_entry ([.ref (lay 0), .int a1, .int a2, .int a3, .int a4, .int a5]) (n := 7) (Nat.le_of_ble_eq_true rfl)
  rw [lg_entry_eq]
  generalize (lg_sl ([.ref (lay 0), .int a1, .int a2, .int a3, .int a4, .int a5]) ++ List.replicate (7 - (lg_sl ([.ref (lay 0), .int a1, .int a2, .int a3, .int a4, .int a5])).length) Slot.unset).toArray = ls at hl ⊢
  exact k_MO_valueOf l C E S a1 a2 a3 a4 a5 r h s.heap [] ls hP va_S.rf hl
/-! ConfigTextsModel.process(III)I -/
def rm_MO_process : Room := { frames := 1, cells := 0, slots := 0, locals := 26 }
theorem d_MO_process_0 : decode b_MO_process 0 = .ok (.aload_n 0, 1) := by decide +kernel
theorem d_MO_process_1 : decode b_MO_process 1 = .ok (.iconst 0, 1) := by decide +kernel
theorem d_MO_process_2 : decode b_MO_process 2 = .ok (.putfield 158, 3) := by decide +kernel
theorem d_MO_process_5 : decode b_MO_process 5 = .ok (.aload_n 0, 1) := by decide +kernel
theorem d_MO_process_6 : decode b_MO_process 6 = .ok (.iload_n 1, 1) := by decide +kernel
theorem d_MO_process_7 : decode b_MO_process 7 = .ok (.iconst 0, 1) := by decide +kernel
theorem d_MO_process_8 : decode b_MO_process 8 = .ok (.iload_n 2, 1) := by decide +kernel
theorem d_MO_process_9 : decode b_MO_process 9 = .ok (.iload_n 3, 1) := by decide +kernel
theorem d_MO_process_10 : decode b_MO_process 10 = .ok (.iconst 5, 1) := by decide +kernel
theorem d_MO_process_11 : decode b_MO_process 11 = .ok (.invokevirtual 336, 3) := by decide +kernel
theorem d_MO_process_14 : decode b_MO_process 14 = .ok (.ireturn, 1) := by decide +kernel
def f_MO_process (S : XS) (a1 : Int32) (a2 : Int32) (a3 : Int32) : Option (Int32 × XS) :=
  (f_MO_valueOf (xpi S 0 0 (0 : Int32)) a1 (0 : Int32) a2 a3 (5 : Int32)).bind fun q2 => some (q2, xpi S 0 0 (0 : Int32))
set_option maxHeartbeats 4000000 in
set_option maxRecDepth 100000 in
theorem k_MO_process (l : Launch) {p : Program} {e : Env} {s : State} {m : MethodId} {args : Array Value} {below : List Frame} {meth : Method} {c : Code} {D : va_G} {lay : Nat → Nat} {cA : Nat → ClassId} (C : xB p s m args meth c R_MO b_MO_process ((Option.some Jvm.ClassFile.FieldType.int)) 4) (E : mE D lay cA s s.heap) : ∀ (S : XS) (a1 : Int32) (a2 : Int32) (a3 : Int32) (r : Int32 × XS) (_ : f_MO_process S a1 a2 a3 = some r) (H : Heap) (locs : List Loc) (ls : Array Slot), va_P D xcl (mw lay cA S) H → va_S (mI lay) s.heap H locs → lv_has ls 4 [(0, .ref (lay 0)), (1, .int a1), (2, .int a2), (3, .int a3)] → W p l e rm_MO_process s m args below meth c H locs 0 0 (MQ below (mqi D lay cA r.1 r.2) args s 0 0 (mI lay)) (F0 m 0 ls []) := by
  obtain ⟨hx, hb, hr, hml, hown, hts, hlk, hnh⟩ := id C
  have hK := E.K
  intro S a1 a2 a3 r h H locs ls hP hS hl
  unfold f_MO_process at h
  refine lv_aload_n hx hb d_MO_process_0 rfl (lv_at hl 0 rfl) ?_
  refine lv_iconst (v := (0 : Int32)) hx hb d_MO_process_1 (by decide) ?_
  refine mput_0 hx hb hts hown E hP hS (hts _ wd_700) d_MO_process_2 (fun H locs hP hS => ?_)
  refine lv_aload_n hx hb d_MO_process_5 rfl (lv_at hl 0 rfl) ?_
  refine lv_iload_n hx hb d_MO_process_6 rfl (lv_at hl 1 rfl) ?_
  refine lv_iconst (v := (0 : Int32)) hx hb d_MO_process_7 (by decide) ?_
  refine lv_iload_n hx hb d_MO_process_8 rfl (lv_at hl 2 rfl) ?_
  refine lv_iload_n hx hb d_MO_process_9 rfl (lv_at hl 3 rfl) ?_
  refine lv_iconst (v := (5 : Int32)) hx hb d_MO_process_10 (by decide) ?_
  obtain ⟨q2, e1, h⟩ := xb h
  refine mc_i (va_runV (As := [.int a1, .int (0 : Int32), .int a2, .int a3, .int (5 : Int32)]) (rest := []) ⟨hx, hb, hml, hown, hts⟩ (c_MO_valueOf l D lay cA (xpi S 0 0 (0 : Int32)) a1 (0 : Int32) a2 a3 (5 : Int32) q2 e1) (cwV 5 hts (xT_V wd_1006 wd_1008 wp_55 wd_7 wd_1009) rfl rfl rfl (by decide +kernel) ⟨Nat.le_of_ble_eq_true rfl, Nat.le_of_ble_eq_true rfl⟩) (mpV E hP hS (by decide) (mc_0 _ _ _ _) rfl) rfl rfl hl.1 rfl (lv_room (Nat.le_of_ble_eq_true rfl)) d_MO_process_11 ⟨Nat.le_of_ble_eq_true rfl, Nat.le_of_ble_eq_true rfl⟩) hS (fun H locs hP hS => ?_)
  have h9 := Option.some.inj h
  subst h9
  exact W.iret (v := q2) hx hb hr (fun t ht hW => ⟨⟨q2, (), rfl, rfl, by show va_P D xcl _ t.heap; rw [ht]; exact hP⟩, hS.F ht⟩) hS.2.2 d_MO_process_14
theorem c_MO_process (l : Launch) (D : va_G) (lay : Nat → Nat) (cA : Nat → ClassId) (S : XS) (a1 : Int32) (a2 : Int32) (a3 : Int32) (r : Int32 × XS) (h : f_MO_process S a1 a2 a3 = some r) : Met l y_MO_process (.code y_MO_process b_MO_process 4 ((Option.some Jvm.ClassFile.FieldType.int)) :: xT) rm_MO_process (mPc D lay cA S [.ref (lay 0), .int a1, .int a2, .int a3]) (mqi D lay cA r.1 r.2) 0 0 (mI lay) := by
  refine Met.ofW (cc := b_MO_process) (maxL := 4) (ret := (Option.some Jvm.ClassFile.FieldType.int)) (by decide +kernel) rfl ?_
  intro p e s m args below meth c s₁ B hml hv
  obtain ⟨rfl, hP, E⟩ := hv
  have C := xB_of B hml
  have hl := lv_entry ([.ref (lay 0), .int a1, .int a2, .int a3]) (n := 4) (Nat.le_of_ble_eq_true rfl)
  rw [lg_entry_eq]
  generalize (lg_sl ([.ref (lay 0), .int a1, .int a2, .int a3]) ++ List.replicate (4 - (lg_sl ([.ref (lay 0), .int a1, .int a2, .int a3])).length) Slot.unset).toArray = ls at hl ⊢
  exact k_MO_process l C E S a1 a2 a3 r h s.heap [] ls hP va_S.rf hl
/-! ConfigTextsModel.thing(IIII)I -/
def rm_MO_thing : Room := { frames := 1, cells := 0, slots := 0, locals := 26 }
theorem d_MO_thing_0 : decode b_MO_thing 0 = .ok (.aload_n 0, 1) := by decide +kernel
theorem d_MO_thing_1 : decode b_MO_thing 1 = .ok (.iconst 0, 1) := by decide +kernel
theorem d_MO_thing_2 : decode b_MO_thing 2 = .ok (.putfield 158, 3) := by decide +kernel
theorem d_MO_thing_5 : decode b_MO_thing 5 = .ok (.iload_n 2, 1) := by decide +kernel
theorem d_MO_thing_6 : decode b_MO_thing 6 = .ok (.tableswitch 59 0 2 #[26, 37, 48], 26) := by decide +kernel
theorem d_MO_thing_32 : decode b_MO_thing 32 = .ok (.aload_n 0, 1) := by decide +kernel
theorem d_MO_thing_33 : decode b_MO_thing 33 = .ok (.iload_n 1, 1) := by decide +kernel
theorem d_MO_thing_34 : decode b_MO_thing 34 = .ok (.iconst 1, 1) := by decide +kernel
theorem d_MO_thing_35 : decode b_MO_thing 35 = .ok (.iload_n 3, 1) := by decide +kernel
theorem d_MO_thing_36 : decode b_MO_thing 36 = .ok (.iload 4, 2) := by decide +kernel
theorem d_MO_thing_38 : decode b_MO_thing 38 = .ok (.iconst 2, 1) := by decide +kernel
theorem d_MO_thing_39 : decode b_MO_thing 39 = .ok (.invokevirtual 336, 3) := by decide +kernel
theorem d_MO_thing_42 : decode b_MO_thing 42 = .ok (.ireturn, 1) := by decide +kernel
theorem d_MO_thing_43 : decode b_MO_thing 43 = .ok (.aload_n 0, 1) := by decide +kernel
theorem d_MO_thing_44 : decode b_MO_thing 44 = .ok (.iload_n 1, 1) := by decide +kernel
theorem d_MO_thing_45 : decode b_MO_thing 45 = .ok (.iconst 3, 1) := by decide +kernel
theorem d_MO_thing_46 : decode b_MO_thing 46 = .ok (.iload_n 3, 1) := by decide +kernel
theorem d_MO_thing_47 : decode b_MO_thing 47 = .ok (.iload 4, 2) := by decide +kernel
theorem d_MO_thing_49 : decode b_MO_thing 49 = .ok (.iconst 1, 1) := by decide +kernel
theorem d_MO_thing_50 : decode b_MO_thing 50 = .ok (.invokevirtual 336, 3) := by decide +kernel
theorem d_MO_thing_53 : decode b_MO_thing 53 = .ok (.ireturn, 1) := by decide +kernel
theorem d_MO_thing_54 : decode b_MO_thing 54 = .ok (.aload_n 0, 1) := by decide +kernel
theorem d_MO_thing_55 : decode b_MO_thing 55 = .ok (.iload_n 1, 1) := by decide +kernel
theorem d_MO_thing_56 : decode b_MO_thing 56 = .ok (.iconst 5, 1) := by decide +kernel
theorem d_MO_thing_57 : decode b_MO_thing 57 = .ok (.iload_n 3, 1) := by decide +kernel
theorem d_MO_thing_58 : decode b_MO_thing 58 = .ok (.iload 4, 2) := by decide +kernel
theorem d_MO_thing_60 : decode b_MO_thing 60 = .ok (.iconst 3, 1) := by decide +kernel
theorem d_MO_thing_61 : decode b_MO_thing 61 = .ok (.invokevirtual 336, 3) := by decide +kernel
theorem d_MO_thing_64 : decode b_MO_thing 64 = .ok (.ireturn, 1) := by decide +kernel
theorem d_MO_thing_65 : decode b_MO_thing 65 = .ok (.iconst (-1), 1) := by decide +kernel
theorem d_MO_thing_66 : decode b_MO_thing 66 = .ok (.ireturn, 1) := by decide +kernel
def f_MO_thing (S : XS) (a1 : Int32) (a2 : Int32) (a3 : Int32) (a4 : Int32) : Option (Int32 × XS) :=
  if a2 = 0 then ((f_MO_valueOf (xpi S 0 0 (0 : Int32)) a1 (1 : Int32) a3 a4 (2 : Int32)).bind fun q2 => some (q2, xpi S 0 0 (0 : Int32))) else (if a2 = 1 then ((f_MO_valueOf (xpi S 0 0 (0 : Int32)) a1 (3 : Int32) a3 a4 (1 : Int32)).bind fun q5 => some (q5, xpi S 0 0 (0 : Int32))) else (if a2 = 2 then ((f_MO_valueOf (xpi S 0 0 (0 : Int32)) a1 (5 : Int32) a3 a4 (3 : Int32)).bind fun q8 => some (q8, xpi S 0 0 (0 : Int32))) else (some ((-1 : Int32), xpi S 0 0 (0 : Int32)))))
set_option maxHeartbeats 4000000 in
set_option maxRecDepth 100000 in
theorem k_MO_thing (l : Launch) {p : Program} {e : Env} {s : State} {m : MethodId} {args : Array Value} {below : List Frame} {meth : Method} {c : Code} {D : va_G} {lay : Nat → Nat} {cA : Nat → ClassId} (C : xB p s m args meth c R_MO b_MO_thing ((Option.some Jvm.ClassFile.FieldType.int)) 5) (E : mE D lay cA s s.heap) : ∀ (S : XS) (a1 : Int32) (a2 : Int32) (a3 : Int32) (a4 : Int32) (r : Int32 × XS) (_ : f_MO_thing S a1 a2 a3 a4 = some r) (H : Heap) (locs : List Loc) (ls : Array Slot), va_P D xcl (mw lay cA S) H → va_S (mI lay) s.heap H locs → lv_has ls 5 [(0, .ref (lay 0)), (1, .int a1), (2, .int a2), (3, .int a3), (4, .int a4)] → W p l e rm_MO_thing s m args below meth c H locs 0 0 (MQ below (mqi D lay cA r.1 r.2) args s 0 0 (mI lay)) (F0 m 0 ls []) := by
  obtain ⟨hx, hb, hr, hml, hown, hts, hlk, hnh⟩ := id C
  have hK := E.K
  intro S a1 a2 a3 a4 r h H locs ls hP hS hl
  unfold f_MO_thing at h
  refine lv_aload_n hx hb d_MO_thing_0 rfl (lv_at hl 0 rfl) ?_
  refine lv_iconst (v := (0 : Int32)) hx hb d_MO_thing_1 (by decide) ?_
  refine mput_0 hx hb hts hown E hP hS (hts _ wd_700) d_MO_thing_2 (fun H locs hP hS => ?_)
  refine lv_iload_n hx hb d_MO_thing_5 rfl (lv_at hl 2 rfl) ?_
  by_cases c_3 : a2 = 0
  · have h := xif_t c_3 h
    refine lv_tableIn (off := 26) (tgt := 32) hx hb d_MO_thing_6 (by rw [c_3]; decide) (by rw [c_3]; decide) (by rw [c_3]; decide) (by decide) ?_
    refine lv_aload_n hx hb d_MO_thing_32 rfl (lv_at hl 0 rfl) ?_
    refine lv_iload_n hx hb d_MO_thing_33 rfl (lv_at hl 1 rfl) ?_
    refine lv_iconst (v := (1 : Int32)) hx hb d_MO_thing_34 (by decide) ?_
    refine lv_iload_n hx hb d_MO_thing_35 rfl (lv_at hl 3 rfl) ?_
    refine lv_iload hx hb d_MO_thing_36 (lv_at hl 4 rfl) ?_
    refine lv_iconst (v := (2 : Int32)) hx hb d_MO_thing_38 (by decide) ?_
    obtain ⟨q2, e1, h⟩ := xb h
    refine mc_i (va_runV (As := [.int a1, .int (1 : Int32), .int a3, .int a4, .int (2 : Int32)]) (rest := []) ⟨hx, hb, hml, hown, hts⟩ (c_MO_valueOf l D lay cA (xpi S 0 0 (0 : Int32)) a1 (1 : Int32) a3 a4 (2 : Int32) q2 e1) (cwV 5 hts (xT_V wd_1006 wd_1008 wp_55 wd_7 wd_1009) rfl rfl rfl (by decide +kernel) ⟨Nat.le_of_ble_eq_true rfl, Nat.le_of_ble_eq_true rfl⟩) (mpV E hP hS (by decide) (mc_0 _ _ _ _) rfl) rfl rfl hl.1 rfl (lv_room (Nat.le_of_ble_eq_true rfl)) d_MO_thing_39 ⟨Nat.le_of_ble_eq_true rfl, Nat.le_of_ble_eq_true rfl⟩) hS (fun H locs hP hS => ?_)
    have h9 := Option.some.inj h
    subst h9
    exact W.iret (v := q2) hx hb hr (fun t ht hW => ⟨⟨q2, (), rfl, rfl, by show va_P D xcl _ t.heap; rw [ht]; exact hP⟩, hS.F ht⟩) hS.2.2 d_MO_thing_42
  · have h := xif_f c_3 h
    by_cases c_6 : a2 = 1
    · have h := xif_t c_6 h
      refine lv_tableIn (off := 37) (tgt := 43) hx hb d_MO_thing_6 (by rw [c_6]; decide) (by rw [c_6]; decide) (by rw [c_6]; decide) (by decide) ?_
      refine lv_aload_n hx hb d_MO_thing_43 rfl (lv_at hl 0 rfl) ?_
      refine lv_iload_n hx hb d_MO_thing_44 rfl (lv_at hl 1 rfl) ?_
      refine lv_iconst (v := (3 : Int32)) hx hb d_MO_thing_45 (by decide) ?_
      refine lv_iload_n hx hb d_MO_thing_46 rfl (lv_at hl 3 rfl) ?_
      refine lv_iload hx hb d_MO_thing_47 (lv_at hl 4 rfl) ?_
      refine lv_iconst (v := (1 : Int32)) hx hb d_MO_thing_49 (by decide) ?_
      obtain ⟨q5, e4, h⟩ := xb h
      refine mc_i (va_runV (As := [.int a1, .int (3 : Int32), .int a3, .int a4, .int (1 : Int32)]) (rest := []) ⟨hx, hb, hml, hown, hts⟩ (c_MO_valueOf l D lay cA (xpi S 0 0 (0 : Int32)) a1 (3 : Int32) a3 a4 (1 : Int32) q5 e4) (cwV 5 hts (xT_V wd_1006 wd_1008 wp_55 wd_7 wd_1009) rfl rfl rfl (by decide +kernel) ⟨Nat.le_of_ble_eq_true rfl, Nat.le_of_ble_eq_true rfl⟩) (mpV E hP hS (by decide) (mc_0 _ _ _ _) rfl) rfl rfl hl.1 rfl (lv_room (Nat.le_of_ble_eq_true rfl)) d_MO_thing_50 ⟨Nat.le_of_ble_eq_true rfl, Nat.le_of_ble_eq_true rfl⟩) hS (fun H locs hP hS => ?_)
      have h9 := Option.some.inj h
      subst h9
      exact W.iret (v := q5) hx hb hr (fun t ht hW => ⟨⟨q5, (), rfl, rfl, by show va_P D xcl _ t.heap; rw [ht]; exact hP⟩, hS.F ht⟩) hS.2.2 d_MO_thing_53
    · have h := xif_f c_6 h
      by_cases c_9 : a2 = 2
      · have h := xif_t c_9 h
        refine lv_tableIn (off := 48) (tgt := 54) hx hb d_MO_thing_6 (by rw [c_9]; decide) (by rw [c_9]; decide) (by rw [c_9]; decide) (by decide) ?_
        refine lv_aload_n hx hb d_MO_thing_54 rfl (lv_at hl 0 rfl) ?_
        refine lv_iload_n hx hb d_MO_thing_55 rfl (lv_at hl 1 rfl) ?_
        refine lv_iconst (v := (5 : Int32)) hx hb d_MO_thing_56 (by decide) ?_
        refine lv_iload_n hx hb d_MO_thing_57 rfl (lv_at hl 3 rfl) ?_
        refine lv_iload hx hb d_MO_thing_58 (lv_at hl 4 rfl) ?_
        refine lv_iconst (v := (3 : Int32)) hx hb d_MO_thing_60 (by decide) ?_
        obtain ⟨q8, e7, h⟩ := xb h
        refine mc_i (va_runV (As := [.int a1, .int (5 : Int32), .int a3, .int a4, .int (3 : Int32)]) (rest := []) ⟨hx, hb, hml, hown, hts⟩ (c_MO_valueOf l D lay cA (xpi S 0 0 (0 : Int32)) a1 (5 : Int32) a3 a4 (3 : Int32) q8 e7) (cwV 5 hts (xT_V wd_1006 wd_1008 wp_55 wd_7 wd_1009) rfl rfl rfl (by decide +kernel) ⟨Nat.le_of_ble_eq_true rfl, Nat.le_of_ble_eq_true rfl⟩) (mpV E hP hS (by decide) (mc_0 _ _ _ _) rfl) rfl rfl hl.1 rfl (lv_room (Nat.le_of_ble_eq_true rfl)) d_MO_thing_61 ⟨Nat.le_of_ble_eq_true rfl, Nat.le_of_ble_eq_true rfl⟩) hS (fun H locs hP hS => ?_)
        have h9 := Option.some.inj h
        subst h9
        exact W.iret (v := q8) hx hb hr (fun t ht hW => ⟨⟨q8, (), rfl, rfl, by show va_P D xcl _ t.heap; rw [ht]; exact hP⟩, hS.F ht⟩) hS.2.2 d_MO_thing_64
      · have h := xif_f c_9 h
        have nc_3 := lv_neT (k := 0) (a := 0) c_3 (by decide)
        have nc_6 := lv_neT (k := 1) (a := 1) c_6 (by decide)
        have nc_9 := lv_neT (k := 2) (a := 2) c_9 (by decide)
        refine lv_tableOut (tgt := 65) hx hb d_MO_thing_6 (by omega) (by decide) ?_
        refine lv_iconst (v := (-1 : Int32)) hx hb d_MO_thing_65 (by decide) ?_
        have h9 := Option.some.inj h
        subst h9
        exact W.iret (v := (-1 : Int32)) hx hb hr (fun t ht hW => ⟨⟨(-1 : Int32), (), rfl, rfl, by show va_P D xcl _ t.heap; rw [ht]; exact hP⟩, hS.F ht⟩) hS.2.2 d_MO_thing_66
theorem c_MO_thing (l : Launch) (D : va_G) (lay : Nat → Nat) (cA : Nat → ClassId) (S : XS) (a1 : Int32) (a2 : Int32) (a3 : Int32) (a4 : Int32) (r : Int32 × XS) (h : f_MO_thing S a1 a2 a3 a4 = some r) : Met l y_MO_thing (.code y_MO_thing b_MO_thing 5 ((Option.some Jvm.ClassFile.FieldType.int)) :: xT) rm_MO_thing (mPc D lay cA S [.ref (lay 0), .int a1, .int a2, .int a3, .int a4]) (mqi D lay cA r.1 r.2) 0 0 (mI lay) := by
  refine Met.ofW (cc := b_MO_thing) (maxL := 5) (ret := (Option.some Jvm.ClassFile.FieldType.int)) (by decide +kernel) rfl ?_
  intro p e s m args below meth c s₁ B hml hv
  obtain ⟨rfl, hP, E⟩ := hv
  have C := xB_of B hml
  have hl := lv_entry ([.ref (lay 0), .int a1, .int a2, .int a3, .int a4]) (n := 5) (Nat.le_of_ble_eq_true rfl)
  rw [lg_entry_eq]
  generalize (lg_sl ([.ref (lay 0), .int a1, .int a2, .int a3, .int a4]) ++ List.replicate (5 - (lg_sl ([.ref (lay 0), .int a1, .int a2, .int a3, .int a4])).length) Slot.unset).toArray = ls at hl ⊢
  exact k_MO_thing l C E S a1 a2 a3 a4 r h s.heap [] ls hP va_S.rf hl
/-! ConfigTextsModel.channel(II)I -/
def rm_MO_channel : Room := { frames := 0, cells := 0, slots := 0, locals := 0 }
theorem d_MO_channel_0 : decode b_MO_channel 0 = .ok (.aload_n 0, 1) := by decide +kernel
theorem d_MO_channel_1 : decode b_MO_channel 1 = .ok (.iconst 0, 1) := by decide +kernel
theorem d_MO_channel_2 : decode b_MO_channel 2 = .ok (.putfield 158, 3) := by decide +kernel
theorem d_MO_channel_5 : decode b_MO_channel 5 = .ok (.iload_n 1, 1) := by decide +kernel
theorem d_MO_channel_6 : decode b_MO_channel 6 = .ok (.ifCond .lt 11, 3) := by decide +kernel
theorem d_MO_channel_9 : decode b_MO_channel 9 = .ok (.iload_n 1, 1) := by decide +kernel
theorem d_MO_channel_10 : decode b_MO_channel 10 = .ok (.aload_n 0, 1) := by decide +kernel
theorem d_MO_channel_11 : decode b_MO_channel 11 = .ok (.getfield 300, 3) := by decide +kernel
theorem d_MO_channel_14 : decode b_MO_channel 14 = .ok (.if_icmp .lt 5, 3) := by decide +kernel
theorem d_MO_channel_17 : decode b_MO_channel 17 = .ok (.iconst (-1), 1) := by decide +kernel
theorem d_MO_channel_18 : decode b_MO_channel 18 = .ok (.ireturn, 1) := by decide +kernel
theorem d_MO_channel_19 : decode b_MO_channel 19 = .ok (.iload_n 2, 1) := by decide +kernel
theorem d_MO_channel_20 : decode b_MO_channel 20 = .ok (.tableswitch 60 0 3 #[32, 39, 46, 53], 32) := by decide +kernel
theorem d_MO_channel_52 : decode b_MO_channel 52 = .ok (.aload_n 0, 1) := by decide +kernel
theorem d_MO_channel_53 : decode b_MO_channel 53 = .ok (.getfield 137, 3) := by decide +kernel
theorem d_MO_channel_56 : decode b_MO_channel 56 = .ok (.iload_n 1, 1) := by decide +kernel
theorem d_MO_channel_57 : decode b_MO_channel 57 = .ok (.iaload, 1) := by decide +kernel
theorem d_MO_channel_58 : decode b_MO_channel 58 = .ok (.ireturn, 1) := by decide +kernel
theorem d_MO_channel_59 : decode b_MO_channel 59 = .ok (.aload_n 0, 1) := by decide +kernel
theorem d_MO_channel_60 : decode b_MO_channel 60 = .ok (.getfield 140, 3) := by decide +kernel
theorem d_MO_channel_63 : decode b_MO_channel 63 = .ok (.iload_n 1, 1) := by decide +kernel
theorem d_MO_channel_64 : decode b_MO_channel 64 = .ok (.iaload, 1) := by decide +kernel
theorem d_MO_channel_65 : decode b_MO_channel 65 = .ok (.ireturn, 1) := by decide +kernel
theorem d_MO_channel_66 : decode b_MO_channel 66 = .ok (.aload_n 0, 1) := by decide +kernel
theorem d_MO_channel_67 : decode b_MO_channel 67 = .ok (.getfield 143, 3) := by decide +kernel
theorem d_MO_channel_70 : decode b_MO_channel 70 = .ok (.iload_n 1, 1) := by decide +kernel
theorem d_MO_channel_71 : decode b_MO_channel 71 = .ok (.iaload, 1) := by decide +kernel
theorem d_MO_channel_72 : decode b_MO_channel 72 = .ok (.ireturn, 1) := by decide +kernel
theorem d_MO_channel_73 : decode b_MO_channel 73 = .ok (.aload_n 0, 1) := by decide +kernel
theorem d_MO_channel_74 : decode b_MO_channel 74 = .ok (.getfield 146, 3) := by decide +kernel
theorem d_MO_channel_77 : decode b_MO_channel 77 = .ok (.iload_n 1, 1) := by decide +kernel
theorem d_MO_channel_78 : decode b_MO_channel 78 = .ok (.iaload, 1) := by decide +kernel
theorem d_MO_channel_79 : decode b_MO_channel 79 = .ok (.ireturn, 1) := by decide +kernel
theorem d_MO_channel_80 : decode b_MO_channel 80 = .ok (.iload_n 2, 1) := by decide +kernel
theorem d_MO_channel_81 : decode b_MO_channel 81 = .ok (.iconst 4, 1) := by decide +kernel
theorem d_MO_channel_82 : decode b_MO_channel 82 = .ok (.if_icmp .lt 15, 3) := by decide +kernel
theorem d_MO_channel_85 : decode b_MO_channel 85 = .ok (.iload_n 2, 1) := by decide +kernel
theorem d_MO_channel_86 : decode b_MO_channel 86 = .ok (.iconst 4, 1) := by decide +kernel
theorem d_MO_channel_87 : decode b_MO_channel 87 = .ok (.isub, 1) := by decide +kernel
theorem d_MO_channel_88 : decode b_MO_channel 88 = .ok (.aload_n 0, 1) := by decide +kernel
theorem d_MO_channel_89 : decode b_MO_channel 89 = .ok (.getfield 146, 3) := by decide +kernel
theorem d_MO_channel_92 : decode b_MO_channel 92 = .ok (.iload_n 1, 1) := by decide +kernel
theorem d_MO_channel_93 : decode b_MO_channel 93 = .ok (.iaload, 1) := by decide +kernel
theorem d_MO_channel_94 : decode b_MO_channel 94 = .ok (.if_icmp .lt 7, 3) := by decide +kernel
theorem d_MO_channel_97 : decode b_MO_channel 97 = .ok (.iconst (-1), 1) := by decide +kernel
theorem d_MO_channel_98 : decode b_MO_channel 98 = .ok (.goto 15, 3) := by decide +kernel
theorem d_MO_channel_101 : decode b_MO_channel 101 = .ok (.aload_n 0, 1) := by decide +kernel
theorem d_MO_channel_102 : decode b_MO_channel 102 = .ok (.getfield 149, 3) := by decide +kernel
theorem d_MO_channel_105 : decode b_MO_channel 105 = .ok (.iconst 4, 1) := by decide +kernel
theorem d_MO_channel_106 : decode b_MO_channel 106 = .ok (.iload_n 1, 1) := by decide +kernel
theorem d_MO_channel_107 : decode b_MO_channel 107 = .ok (.imul, 1) := by decide +kernel
theorem d_MO_channel_108 : decode b_MO_channel 108 = .ok (.iload_n 2, 1) := by decide +kernel
theorem d_MO_channel_109 : decode b_MO_channel 109 = .ok (.iadd, 1) := by decide +kernel
theorem d_MO_channel_110 : decode b_MO_channel 110 = .ok (.iconst 4, 1) := by decide +kernel
theorem d_MO_channel_111 : decode b_MO_channel 111 = .ok (.isub, 1) := by decide +kernel
theorem d_MO_channel_112 : decode b_MO_channel 112 = .ok (.iaload, 1) := by decide +kernel
theorem d_MO_channel_113 : decode b_MO_channel 113 = .ok (.ireturn, 1) := by decide +kernel
def f_MO_channel (S : XS) (a1 : Int32) (a2 : Int32) : Option (Int32 × XS) :=
  if a1 < 0 then (some ((-1 : Int32), xpi S 0 0 (0 : Int32))) else (if a1 < (xgi (xpi S 0 0 (0 : Int32)) 0 29) then (if a2 = 0 then (if ¬ (a1 < 0 ∨ 16 ≤ a1.toNatClampNeg) then (some (xgi (xpi S 0 0 (0 : Int32)) 18 a1.toNatClampNeg, xpi S 0 0 (0 : Int32))) else none) else (if a2 = 1 then (if ¬ (a1 < 0 ∨ 16 ≤ a1.toNatClampNeg) then (some (xgi (xpi S 0 0 (0 : Int32)) 19 a1.toNatClampNeg, xpi S 0 0 (0 : Int32))) else none) else (if a2 = 2 then (if ¬ (a1 < 0 ∨ 16 ≤ a1.toNatClampNeg) then (some (xgi (xpi S 0 0 (0 : Int32)) 20 a1.toNatClampNeg, xpi S 0 0 (0 : Int32))) else none) else (if a2 = 3 then (if ¬ (a1 < 0 ∨ 16 ≤ a1.toNatClampNeg) then (some (xgi (xpi S 0 0 (0 : Int32)) 21 a1.toNatClampNeg, xpi S 0 0 (0 : Int32))) else none) else (if a2 < (4 : Int32) then (some ((-1 : Int32), xpi S 0 0 (0 : Int32))) else (if ¬ (a1 < 0 ∨ 16 ≤ a1.toNatClampNeg) then (if (a2 - (4 : Int32)) < (xgi (xpi S 0 0 (0 : Int32)) 21 a1.toNatClampNeg) then (if ¬ (((((4 : Int32) * a1) + a2) - (4 : Int32)) < 0 ∨ 64 ≤ ((((4 : Int32) * a1) + a2) - (4 : Int32)).toNatClampNeg) then (some (xgi (xpi S 0 0 (0 : Int32)) 22 ((((4 : Int32) * a1) + a2) - (4 : Int32)).toNatClampNeg, xpi S 0 0 (0 : Int32))) else none) else (some ((-1 : Int32), xpi S 0 0 (0 : Int32)))) else none)))))) else (some ((-1 : Int32), xpi S 0 0 (0 : Int32))))
set_option maxHeartbeats 4000000 in
set_option maxRecDepth 100000 in
theorem k_MO_channel (l : Launch) {p : Program} {e : Env} {s : State} {m : MethodId} {args : Array Value} {below : List Frame} {meth : Method} {c : Code} {D : va_G} {lay : Nat → Nat} {cA : Nat → ClassId} (C : xB p s m args meth c R_MO b_MO_channel ((Option.some Jvm.ClassFile.FieldType.int)) 3) (E : mE D lay cA s s.heap) : ∀ (S : XS) (a1 : Int32) (a2 : Int32) (r : Int32 × XS) (_ : f_MO_channel S a1 a2 = some r) (H : Heap) (locs : List Loc) (ls : Array Slot), va_P D xcl (mw lay cA S) H → va_S (mI lay) s.heap H locs → lv_has ls 3 [(0, .ref (lay 0)), (1, .int a1), (2, .int a2)] → W p l e rm_MO_channel s m args below meth c H locs 0 0 (MQ below (mqi D lay cA r.1 r.2) args s 0 0 (mI lay)) (F0 m 0 ls []) := by
  obtain ⟨hx, hb, hr, hml, hown, hts, hlk, hnh⟩ := id C
  have hK := E.K
  intro S a1 a2 r h H locs ls hP hS hl
  unfold f_MO_channel at h
  refine lv_aload_n hx hb d_MO_channel_0 rfl (lv_at hl 0 rfl) ?_
  refine lv_iconst (v := (0 : Int32)) hx hb d_MO_channel_1 (by decide) ?_
  refine mput_0 hx hb hts hown E hP hS (hts _ wd_700) d_MO_channel_2 (fun H locs hP hS => ?_)
  refine lv_iload_n hx hb d_MO_channel_5 rfl (lv_at hl 1 rfl) ?_
  refine lv_if_lt (tgt := 17) hx hb d_MO_channel_6 (by decide) (fun c_14 => ?_) (fun c_14 => ?_)
  · have h := xif_t c_14 h
    refine lv_iconst (v := (-1 : Int32)) hx hb d_MO_channel_17 (by decide) ?_
    have h9 := Option.some.inj h
    subst h9
    exact W.iret (v := (-1 : Int32)) hx hb hr (fun t ht hW => ⟨⟨(-1 : Int32), (), rfl, rfl, by show va_P D xcl _ t.heap; rw [ht]; exact hP⟩, hS.F ht⟩) hS.2.2 d_MO_channel_18
  · have h := xif_f c_14 h
    refine lv_iload_n hx hb d_MO_channel_9 rfl (lv_at hl 1 rfl) ?_
    refine lv_aload_n hx hb d_MO_channel_10 rfl (lv_at hl 0 rfl) ?_
    refine va_get (v := .int (xgi (xpi S 0 0 (0 : Int32)) 0 29)) (C := R_MO) (T := F_MO) (N := 41) hx hb hts i_MO hown hK hP 0 (mw_at (by decide) (mc_0 _ _ _ _)) rfl 29 (by decide) (hts _ wd_729) (fun _ h9 => h9) rfl d_MO_channel_11 ?_
    refine lv_icmp_lt (tgt := 19) hx hb d_MO_channel_14 (by decide) (fun c_13 => ?_) (fun c_13 => ?_)
    · have h := xif_t c_13 h
      refine lv_iload_n hx hb d_MO_channel_19 rfl (lv_at hl 2 rfl) ?_
      by_cases c_2 : a2 = 0
      · have h := xif_t c_2 h
        refine lv_tableIn (off := 32) (tgt := 52) hx hb d_MO_channel_20 (by rw [c_2]; decide) (by rw [c_2]; decide) (by rw [c_2]; decide) (by decide) ?_
        refine lv_aload_n hx hb d_MO_channel_52 rfl (lv_at hl 0 rfl) ?_
        refine va_get (v := .ref (lay 18)) (C := R_MO) (T := F_MO) (N := 41) hx hb hts i_MO hown hK hP 0 (mw_at (by decide) (mc_0 _ _ _ _)) rfl 34 (by decide) (hts _ wd_734) (fun _ h9 => h9) rfl d_MO_channel_53 ?_
        refine lv_iload_n hx hb d_MO_channel_56 rfl (lv_at hl 1 rfl) ?_
        obtain ⟨hg1, h⟩ := xg h
        refine mal_18 hx hb E hP hg1 d_MO_channel_57 ?_
        have h9 := Option.some.inj h
        subst h9
        exact W.iret (v := xgi (xpi S 0 0 (0 : Int32)) 18 a1.toNatClampNeg) hx hb hr (fun t ht hW => ⟨⟨xgi (xpi S 0 0 (0 : Int32)) 18 a1.toNatClampNeg, (), rfl, rfl, by show va_P D xcl _ t.heap; rw [ht]; exact hP⟩, hS.F ht⟩) hS.2.2 d_MO_channel_58
      · have h := xif_f c_2 h
        by_cases c_4 : a2 = 1
        · have h := xif_t c_4 h
          refine lv_tableIn (off := 39) (tgt := 59) hx hb d_MO_channel_20 (by rw [c_4]; decide) (by rw [c_4]; decide) (by rw [c_4]; decide) (by decide) ?_
          refine lv_aload_n hx hb d_MO_channel_59 rfl (lv_at hl 0 rfl) ?_
          refine va_get (v := .ref (lay 19)) (C := R_MO) (T := F_MO) (N := 41) hx hb hts i_MO hown hK hP 0 (mw_at (by decide) (mc_0 _ _ _ _)) rfl 35 (by decide) (hts _ wd_735) (fun _ h9 => h9) rfl d_MO_channel_60 ?_
          refine lv_iload_n hx hb d_MO_channel_63 rfl (lv_at hl 1 rfl) ?_
          obtain ⟨hg3, h⟩ := xg h
          refine mal_19 hx hb E hP hg3 d_MO_channel_64 ?_
          have h9 := Option.some.inj h
          subst h9
          exact W.iret (v := xgi (xpi S 0 0 (0 : Int32)) 19 a1.toNatClampNeg) hx hb hr (fun t ht hW => ⟨⟨xgi (xpi S 0 0 (0 : Int32)) 19 a1.toNatClampNeg, (), rfl, rfl, by show va_P D xcl _ t.heap; rw [ht]; exact hP⟩, hS.F ht⟩) hS.2.2 d_MO_channel_65
        · have h := xif_f c_4 h
          by_cases c_6 : a2 = 2
          · have h := xif_t c_6 h
            refine lv_tableIn (off := 46) (tgt := 66) hx hb d_MO_channel_20 (by rw [c_6]; decide) (by rw [c_6]; decide) (by rw [c_6]; decide) (by decide) ?_
            refine lv_aload_n hx hb d_MO_channel_66 rfl (lv_at hl 0 rfl) ?_
            refine va_get (v := .ref (lay 20)) (C := R_MO) (T := F_MO) (N := 41) hx hb hts i_MO hown hK hP 0 (mw_at (by decide) (mc_0 _ _ _ _)) rfl 36 (by decide) (hts _ wd_736) (fun _ h9 => h9) rfl d_MO_channel_67 ?_
            refine lv_iload_n hx hb d_MO_channel_70 rfl (lv_at hl 1 rfl) ?_
            obtain ⟨hg5, h⟩ := xg h
            refine mal_20 hx hb E hP hg5 d_MO_channel_71 ?_
            have h9 := Option.some.inj h
            subst h9
            exact W.iret (v := xgi (xpi S 0 0 (0 : Int32)) 20 a1.toNatClampNeg) hx hb hr (fun t ht hW => ⟨⟨xgi (xpi S 0 0 (0 : Int32)) 20 a1.toNatClampNeg, (), rfl, rfl, by show va_P D xcl _ t.heap; rw [ht]; exact hP⟩, hS.F ht⟩) hS.2.2 d_MO_channel_72
          · have h := xif_f c_6 h
            by_cases c_8 : a2 = 3
            · have h := xif_t c_8 h
              refine lv_tableIn (off := 53) (tgt := 73) hx hb d_MO_channel_20 (by rw [c_8]; decide) (by rw [c_8]; decide) (by rw [c_8]; decide) (by decide) ?_
              refine lv_aload_n hx hb d_MO_channel_73 rfl (lv_at hl 0 rfl) ?_
              refine va_get (v := .ref (lay 21)) (C := R_MO) (T := F_MO) (N := 41) hx hb hts i_MO hown hK hP 0 (mw_at (by decide) (mc_0 _ _ _ _)) rfl 37 (by decide) (hts _ wd_737) (fun _ h9 => h9) rfl d_MO_channel_74 ?_
              refine lv_iload_n hx hb d_MO_channel_77 rfl (lv_at hl 1 rfl) ?_
              obtain ⟨hg7, h⟩ := xg h
              refine mal_21 hx hb E hP hg7 d_MO_channel_78 ?_
              have h9 := Option.some.inj h
              subst h9
              exact W.iret (v := xgi (xpi S 0 0 (0 : Int32)) 21 a1.toNatClampNeg) hx hb hr (fun t ht hW => ⟨⟨xgi (xpi S 0 0 (0 : Int32)) 21 a1.toNatClampNeg, (), rfl, rfl, by show va_P D xcl _ t.heap; rw [ht]; exact hP⟩, hS.F ht⟩) hS.2.2 d_MO_channel_79
            · have h := xif_f c_8 h
              have nc_2 := lv_neT (k := 0) (a := 0) c_2 (by decide)
              have nc_4 := lv_neT (k := 1) (a := 1) c_4 (by decide)
              have nc_6 := lv_neT (k := 2) (a := 2) c_6 (by decide)
              have nc_8 := lv_neT (k := 3) (a := 3) c_8 (by decide)
              refine lv_tableOut (tgt := 80) hx hb d_MO_channel_20 (by omega) (by decide) ?_
              refine lv_iload_n hx hb d_MO_channel_80 rfl (lv_at hl 2 rfl) ?_
              refine lv_iconst (v := (4 : Int32)) hx hb d_MO_channel_81 (by decide) ?_
              refine lv_icmp_lt (tgt := 97) hx hb d_MO_channel_82 (by decide) (fun c_12 => ?_) (fun c_12 => ?_)
              · have h := xif_t c_12 h
                refine lv_iconst (v := (-1 : Int32)) hx hb d_MO_channel_97 (by decide) ?_
                refine lv_goto (tgt := 113) hx hb d_MO_channel_98 (by decide) ?_
                have h9 := Option.some.inj h
                subst h9
                exact W.iret (v := (-1 : Int32)) hx hb hr (fun t ht hW => ⟨⟨(-1 : Int32), (), rfl, rfl, by show va_P D xcl _ t.heap; rw [ht]; exact hP⟩, hS.F ht⟩) hS.2.2 d_MO_channel_113
              · have h := xif_f c_12 h
                refine lv_iload_n hx hb d_MO_channel_85 rfl (lv_at hl 2 rfl) ?_
                refine lv_iconst (v := (4 : Int32)) hx hb d_MO_channel_86 (by decide) ?_
                refine lv_isub hx hb d_MO_channel_87 ?_
                refine lv_aload_n hx hb d_MO_channel_88 rfl (lv_at hl 0 rfl) ?_
                refine va_get (v := .ref (lay 21)) (C := R_MO) (T := F_MO) (N := 41) hx hb hts i_MO hown hK hP 0 (mw_at (by decide) (mc_0 _ _ _ _)) rfl 37 (by decide) (hts _ wd_737) (fun _ h9 => h9) rfl d_MO_channel_89 ?_
                refine lv_iload_n hx hb d_MO_channel_92 rfl (lv_at hl 1 rfl) ?_
                obtain ⟨hg9, h⟩ := xg h
                refine mal_21 hx hb E hP hg9 d_MO_channel_93 ?_
                refine lv_icmp_lt (tgt := 101) hx hb d_MO_channel_94 (by decide) (fun c_11 => ?_) (fun c_11 => ?_)
                · have h := xif_t c_11 h
                  refine lv_aload_n hx hb d_MO_channel_101 rfl (lv_at hl 0 rfl) ?_
                  refine va_get (v := .ref (lay 22)) (C := R_MO) (T := F_MO) (N := 41) hx hb hts i_MO hown hK hP 0 (mw_at (by decide) (mc_0 _ _ _ _)) rfl 38 (by decide) (hts _ wd_738) (fun _ h9 => h9) rfl d_MO_channel_102 ?_
                  refine lv_iconst (v := (4 : Int32)) hx hb d_MO_channel_105 (by decide) ?_
                  refine lv_iload_n hx hb d_MO_channel_106 rfl (lv_at hl 1 rfl) ?_
                  refine lv_imul hx hb d_MO_channel_107 ?_
                  refine lv_iload_n hx hb d_MO_channel_108 rfl (lv_at hl 2 rfl) ?_
                  refine lv_iadd hx hb d_MO_channel_109 ?_
                  refine lv_iconst (v := (4 : Int32)) hx hb d_MO_channel_110 (by decide) ?_
                  refine lv_isub hx hb d_MO_channel_111 ?_
                  obtain ⟨hg10, h⟩ := xg h
                  refine mal_22 hx hb E hP hg10 d_MO_channel_112 ?_
                  have h9 := Option.some.inj h
                  subst h9
                  exact W.iret (v := xgi (xpi S 0 0 (0 : Int32)) 22 ((((4 : Int32) * a1) + a2) - (4 : Int32)).toNatClampNeg) hx hb hr (fun t ht hW => ⟨⟨xgi (xpi S 0 0 (0 : Int32)) 22 ((((4 : Int32) * a1) + a2) - (4 : Int32)).toNatClampNeg, (), rfl, rfl, by show va_P D xcl _ t.heap; rw [ht]; exact hP⟩, hS.F ht⟩) hS.2.2 d_MO_channel_113
                · have h := xif_f c_11 h
                  refine lv_iconst (v := (-1 : Int32)) hx hb d_MO_channel_97 (by decide) ?_
                  refine lv_goto (tgt := 113) hx hb d_MO_channel_98 (by decide) ?_
                  have h9 := Option.some.inj h
                  subst h9
                  exact W.iret (v := (-1 : Int32)) hx hb hr (fun t ht hW => ⟨⟨(-1 : Int32), (), rfl, rfl, by show va_P D xcl _ t.heap; rw [ht]; exact hP⟩, hS.F ht⟩) hS.2.2 d_MO_channel_113
    · have h := xif_f c_13 h
      refine lv_iconst (v := (-1 : Int32)) hx hb d_MO_channel_17 (by decide) ?_
      have h9 := Option.some.inj h
      subst h9
      exact W.iret (v := (-1 : Int32)) hx hb hr (fun t ht hW => ⟨⟨(-1 : Int32), (), rfl, rfl, by show va_P D xcl _ t.heap; rw [ht]; exact hP⟩, hS.F ht⟩) hS.2.2 d_MO_channel_18
theorem c_MO_channel (l : Launch) (D : va_G) (lay : Nat → Nat) (cA : Nat → ClassId) (S : XS) (a1 : Int32) (a2 : Int32) (r : Int32 × XS) (h : f_MO_channel S a1 a2 = some r) : Met l y_MO_channel (.code y_MO_channel b_MO_channel 3 ((Option.some Jvm.ClassFile.FieldType.int)) :: xT) rm_MO_channel (mPc D lay cA S [.ref (lay 0), .int a1, .int a2]) (mqi D lay cA r.1 r.2) 0 0 (mI lay) := by
  refine Met.ofW (cc := b_MO_channel) (maxL := 3) (ret := (Option.some Jvm.ClassFile.FieldType.int)) (by decide +kernel) rfl ?_
  intro p e s m args below meth c s₁ B hml hv
  obtain ⟨rfl, hP, E⟩ := hv
  have C := xB_of B hml
  have hl := lv_entry ([.ref (lay 0), .int a1, .int a2]) (n := 3) (Nat.le_of_ble_eq_true rfl)
  rw [lg_entry_eq]
  generalize (lg_sl ([.ref (lay 0), .int a1, .int a2]) ++ List.replicate (3 - (lg_sl ([.ref (lay 0), .int a1, .int a2])).length) Slot.unset).toArray = ls at hl ⊢
  exact k_MO_channel l C E S a1 a2 r h s.heap [] ls hP va_S.rf hl
/-! ConfigTextsModel.window(II)I -/
def rm_MO_window : Room := { frames := 0, cells := 0, slots := 0, locals := 0 }
theorem d_MO_window_0 : decode b_MO_window 0 = .ok (.aload_n 0, 1) := by decide +kernel
theorem d_MO_window_1 : decode b_MO_window 1 = .ok (.iconst 0, 1) := by decide +kernel
theorem d_MO_window_2 : decode b_MO_window 2 = .ok (.putfield 158, 3) := by decide +kernel
theorem d_MO_window_5 : decode b_MO_window 5 = .ok (.iload_n 1, 1) := by decide +kernel
theorem d_MO_window_6 : decode b_MO_window 6 = .ok (.ifCond .lt 11, 3) := by decide +kernel
theorem d_MO_window_9 : decode b_MO_window 9 = .ok (.iload_n 1, 1) := by decide +kernel
theorem d_MO_window_10 : decode b_MO_window 10 = .ok (.aload_n 0, 1) := by decide +kernel
theorem d_MO_window_11 : decode b_MO_window 11 = .ok (.getfield 312, 3) := by decide +kernel
theorem d_MO_window_14 : decode b_MO_window 14 = .ok (.if_icmp .lt 5, 3) := by decide +kernel
theorem d_MO_window_17 : decode b_MO_window 17 = .ok (.iconst (-1), 1) := by decide +kernel
theorem d_MO_window_18 : decode b_MO_window 18 = .ok (.ireturn, 1) := by decide +kernel
theorem d_MO_window_19 : decode b_MO_window 19 = .ok (.iload_n 2, 1) := by decide +kernel
theorem d_MO_window_20 : decode b_MO_window 20 = .ok (.ifCond .ne 12, 3) := by decide +kernel
theorem d_MO_window_23 : decode b_MO_window 23 = .ok (.aload_n 0, 1) := by decide +kernel
theorem d_MO_window_24 : decode b_MO_window 24 = .ok (.getfield 152, 3) := by decide +kernel
theorem d_MO_window_27 : decode b_MO_window 27 = .ok (.iload_n 1, 1) := by decide +kernel
theorem d_MO_window_28 : decode b_MO_window 28 = .ok (.iaload, 1) := by decide +kernel
theorem d_MO_window_29 : decode b_MO_window 29 = .ok (.goto 18, 3) := by decide +kernel
theorem d_MO_window_32 : decode b_MO_window 32 = .ok (.iload_n 2, 1) := by decide +kernel
theorem d_MO_window_33 : decode b_MO_window 33 = .ok (.iconst 1, 1) := by decide +kernel
theorem d_MO_window_34 : decode b_MO_window 34 = .ok (.if_icmp .ne 12, 3) := by decide +kernel
theorem d_MO_window_37 : decode b_MO_window 37 = .ok (.aload_n 0, 1) := by decide +kernel
theorem d_MO_window_38 : decode b_MO_window 38 = .ok (.getfield 155, 3) := by decide +kernel
theorem d_MO_window_41 : decode b_MO_window 41 = .ok (.iload_n 1, 1) := by decide +kernel
theorem d_MO_window_42 : decode b_MO_window 42 = .ok (.iaload, 1) := by decide +kernel
theorem d_MO_window_43 : decode b_MO_window 43 = .ok (.goto 4, 3) := by decide +kernel
theorem d_MO_window_46 : decode b_MO_window 46 = .ok (.iconst (-1), 1) := by decide +kernel
theorem d_MO_window_47 : decode b_MO_window 47 = .ok (.ireturn, 1) := by decide +kernel
def f_MO_window (S : XS) (a1 : Int32) (a2 : Int32) : Option (Int32 × XS) :=
  if a1 < 0 then (some ((-1 : Int32), xpi S 0 0 (0 : Int32))) else (if a1 < (xgi (xpi S 0 0 (0 : Int32)) 0 30) then (if a2 = 0 then (if ¬ (a1 < 0 ∨ 16 ≤ a1.toNatClampNeg) then (some (xgi (xpi S 0 0 (0 : Int32)) 23 a1.toNatClampNeg, xpi S 0 0 (0 : Int32))) else none) else (if a2 = (1 : Int32) then (if ¬ (a1 < 0 ∨ 16 ≤ a1.toNatClampNeg) then (some (xgi (xpi S 0 0 (0 : Int32)) 24 a1.toNatClampNeg, xpi S 0 0 (0 : Int32))) else none) else (some ((-1 : Int32), xpi S 0 0 (0 : Int32))))) else (some ((-1 : Int32), xpi S 0 0 (0 : Int32))))
set_option maxHeartbeats 4000000 in
set_option maxRecDepth 100000 in
theorem k_MO_window (l : Launch) {p : Program} {e : Env} {s : State} {m : MethodId} {args : Array Value} {below : List Frame} {meth : Method} {c : Code} {D : va_G} {lay : Nat → Nat} {cA : Nat → ClassId} (C : xB p s m args meth c R_MO b_MO_window ((Option.some Jvm.ClassFile.FieldType.int)) 3) (E : mE D lay cA s s.heap) : ∀ (S : XS) (a1 : Int32) (a2 : Int32) (r : Int32 × XS) (_ : f_MO_window S a1 a2 = some r) (H : Heap) (locs : List Loc) (ls : Array Slot), va_P D xcl (mw lay cA S) H → va_S (mI lay) s.heap H locs → lv_has ls 3 [(0, .ref (lay 0)), (1, .int a1), (2, .int a2)] → W p l e rm_MO_window s m args below meth c H locs 0 0 (MQ below (mqi D lay cA r.1 r.2) args s 0 0 (mI lay)) (F0 m 0 ls []) := by
  obtain ⟨hx, hb, hr, hml, hown, hts, hlk, hnh⟩ := id C
  have hK := E.K
  intro S a1 a2 r h H locs ls hP hS hl
  unfold f_MO_window at h
  refine lv_aload_n hx hb d_MO_window_0 rfl (lv_at hl 0 rfl) ?_
  refine lv_iconst (v := (0 : Int32)) hx hb d_MO_window_1 (by decide) ?_
  refine mput_0 hx hb hts hown E hP hS (hts _ wd_700) d_MO_window_2 (fun H locs hP hS => ?_)
  refine lv_iload_n hx hb d_MO_window_5 rfl (lv_at hl 1 rfl) ?_
  refine lv_if_lt (tgt := 17) hx hb d_MO_window_6 (by decide) (fun c_6 => ?_) (fun c_6 => ?_)
  · have h := xif_t c_6 h
    refine lv_iconst (v := (-1 : Int32)) hx hb d_MO_window_17 (by decide) ?_
    have h9 := Option.some.inj h
    subst h9
    exact W.iret (v := (-1 : Int32)) hx hb hr (fun t ht hW => ⟨⟨(-1 : Int32), (), rfl, rfl, by show va_P D xcl _ t.heap; rw [ht]; exact hP⟩, hS.F ht⟩) hS.2.2 d_MO_window_18
  · have h := xif_f c_6 h
    refine lv_iload_n hx hb d_MO_window_9 rfl (lv_at hl 1 rfl) ?_
    refine lv_aload_n hx hb d_MO_window_10 rfl (lv_at hl 0 rfl) ?_
    refine va_get (v := .int (xgi (xpi S 0 0 (0 : Int32)) 0 30)) (C := R_MO) (T := F_MO) (N := 41) hx hb hts i_MO hown hK hP 0 (mw_at (by decide) (mc_0 _ _ _ _)) rfl 30 (by decide) (hts _ wd_730) (fun _ h9 => h9) rfl d_MO_window_11 ?_
    refine lv_icmp_lt (tgt := 19) hx hb d_MO_window_14 (by decide) (fun c_5 => ?_) (fun c_5 => ?_)
    · have h := xif_t c_5 h
      refine lv_iload_n hx hb d_MO_window_19 rfl (lv_at hl 2 rfl) ?_
      refine lv_if_ne (tgt := 32) hx hb d_MO_window_20 (by decide) (fun c_4 => ?_) (fun c_4 => ?_)
      · have h := xif_f c_4 h
        refine lv_iload_n hx hb d_MO_window_32 rfl (lv_at hl 2 rfl) ?_
        refine lv_iconst (v := (1 : Int32)) hx hb d_MO_window_33 (by decide) ?_
        refine lv_icmp_ne (tgt := 46) hx hb d_MO_window_34 (by decide) (fun c_2 => ?_) (fun c_2 => ?_)
        · have h := xif_f c_2 h
          refine lv_iconst (v := (-1 : Int32)) hx hb d_MO_window_46 (by decide) ?_
          have h9 := Option.some.inj h
          subst h9
          exact W.iret (v := (-1 : Int32)) hx hb hr (fun t ht hW => ⟨⟨(-1 : Int32), (), rfl, rfl, by show va_P D xcl _ t.heap; rw [ht]; exact hP⟩, hS.F ht⟩) hS.2.2 d_MO_window_47
        · have h := xif_t c_2 h
          refine lv_aload_n hx hb d_MO_window_37 rfl (lv_at hl 0 rfl) ?_
          refine va_get (v := .ref (lay 24)) (C := R_MO) (T := F_MO) (N := 41) hx hb hts i_MO hown hK hP 0 (mw_at (by decide) (mc_0 _ _ _ _)) rfl 40 (by decide) (hts _ wd_740) (fun _ h9 => h9) rfl d_MO_window_38 ?_
          refine lv_iload_n hx hb d_MO_window_41 rfl (lv_at hl 1 rfl) ?_
          obtain ⟨hg1, h⟩ := xg h
          refine mal_24 hx hb E hP hg1 d_MO_window_42 ?_
          refine lv_goto (tgt := 47) hx hb d_MO_window_43 (by decide) ?_
          have h9 := Option.some.inj h
          subst h9
          exact W.iret (v := xgi (xpi S 0 0 (0 : Int32)) 24 a1.toNatClampNeg) hx hb hr (fun t ht hW => ⟨⟨xgi (xpi S 0 0 (0 : Int32)) 24 a1.toNatClampNeg, (), rfl, rfl, by show va_P D xcl _ t.heap; rw [ht]; exact hP⟩, hS.F ht⟩) hS.2.2 d_MO_window_47
      · have h := xif_t c_4 h
        refine lv_aload_n hx hb d_MO_window_23 rfl (lv_at hl 0 rfl) ?_
        refine va_get (v := .ref (lay 23)) (C := R_MO) (T := F_MO) (N := 41) hx hb hts i_MO hown hK hP 0 (mw_at (by decide) (mc_0 _ _ _ _)) rfl 39 (by decide) (hts _ wd_739) (fun _ h9 => h9) rfl d_MO_window_24 ?_
        refine lv_iload_n hx hb d_MO_window_27 rfl (lv_at hl 1 rfl) ?_
        obtain ⟨hg3, h⟩ := xg h
        refine mal_23 hx hb E hP hg3 d_MO_window_28 ?_
        refine lv_goto (tgt := 47) hx hb d_MO_window_29 (by decide) ?_
        have h9 := Option.some.inj h
        subst h9
        exact W.iret (v := xgi (xpi S 0 0 (0 : Int32)) 23 a1.toNatClampNeg) hx hb hr (fun t ht hW => ⟨⟨xgi (xpi S 0 0 (0 : Int32)) 23 a1.toNatClampNeg, (), rfl, rfl, by show va_P D xcl _ t.heap; rw [ht]; exact hP⟩, hS.F ht⟩) hS.2.2 d_MO_window_47
    · have h := xif_f c_5 h
      refine lv_iconst (v := (-1 : Int32)) hx hb d_MO_window_17 (by decide) ?_
      have h9 := Option.some.inj h
      subst h9
      exact W.iret (v := (-1 : Int32)) hx hb hr (fun t ht hW => ⟨⟨(-1 : Int32), (), rfl, rfl, by show va_P D xcl _ t.heap; rw [ht]; exact hP⟩, hS.F ht⟩) hS.2.2 d_MO_window_18
theorem c_MO_window (l : Launch) (D : va_G) (lay : Nat → Nat) (cA : Nat → ClassId) (S : XS) (a1 : Int32) (a2 : Int32) (r : Int32 × XS) (h : f_MO_window S a1 a2 = some r) : Met l y_MO_window (.code y_MO_window b_MO_window 3 ((Option.some Jvm.ClassFile.FieldType.int)) :: xT) rm_MO_window (mPc D lay cA S [.ref (lay 0), .int a1, .int a2]) (mqi D lay cA r.1 r.2) 0 0 (mI lay) := by
  refine Met.ofW (cc := b_MO_window) (maxL := 3) (ret := (Option.some Jvm.ClassFile.FieldType.int)) (by decide +kernel) rfl ?_
  intro p e s m args below meth c s₁ B hml hv
  obtain ⟨rfl, hP, E⟩ := hv
  have C := xB_of B hml
  have hl := lv_entry ([.ref (lay 0), .int a1, .int a2]) (n := 3) (Nat.le_of_ble_eq_true rfl)
  rw [lg_entry_eq]
  generalize (lg_sl ([.ref (lay 0), .int a1, .int a2]) ++ List.replicate (3 - (lg_sl ([.ref (lay 0), .int a1, .int a2])).length) Slot.unset).toArray = ls at hl ⊢
  exact k_MO_window l C E S a1 a2 r h s.heap [] ls hP va_S.rf hl
