/-! ConfigTexts$Reader.openPartition()V -/
def rm_RD_openPartition : Room := { frames := 9, cells := 1, slots := 6, locals := 162 }
theorem d_RD_openPartition_0 : decode b_RD_openPartition 0 = .ok (.aload_n 0, 1) := by decide +kernel
theorem d_RD_openPartition_1 : decode b_RD_openPartition 1 = .ok (.iconst 0, 1) := by decide +kernel
theorem d_RD_openPartition_2 : decode b_RD_openPartition 2 = .ok (.putfield 19, 3) := by decide +kernel
theorem d_RD_openPartition_5 : decode b_RD_openPartition 5 = .ok (.aload_n 0, 1) := by decide +kernel
theorem d_RD_openPartition_6 : decode b_RD_openPartition 6 = .ok (.iconst (-1), 1) := by decide +kernel
theorem d_RD_openPartition_7 : decode b_RD_openPartition 7 = .ok (.putfield 23, 3) := by decide +kernel
theorem d_RD_openPartition_10 : decode b_RD_openPartition 10 = .ok (.aload_n 0, 1) := by decide +kernel
theorem d_RD_openPartition_11 : decode b_RD_openPartition 11 = .ok (.getfield 9, 3) := by decide +kernel
theorem d_RD_openPartition_14 : decode b_RD_openPartition 14 = .ok (.ldc 92, 2) := by decide +kernel
theorem d_RD_openPartition_16 : decode b_RD_openPartition 16 = .ok (.invokevirtual 82, 3) := by decide +kernel
theorem d_RD_openPartition_19 : decode b_RD_openPartition 19 = .ok (.aload_n 0, 1) := by decide +kernel
theorem d_RD_openPartition_20 : decode b_RD_openPartition 20 = .ok (.getfield 15, 3) := by decide +kernel
theorem d_RD_openPartition_23 : decode b_RD_openPartition 23 = .ok (.invokevirtual 94, 3) := by decide +kernel
theorem d_RD_openPartition_26 : decode b_RD_openPartition 26 = .ok (.ifCond .eq 11, 3) := by decide +kernel
theorem d_RD_openPartition_29 : decode b_RD_openPartition 29 = .ok (.aload_n 0, 1) := by decide +kernel
theorem d_RD_openPartition_30 : decode b_RD_openPartition 30 = .ok (.getfield 9, 3) := by decide +kernel
theorem d_RD_openPartition_33 : decode b_RD_openPartition 33 = .ok (.iconst 4, 1) := by decide +kernel
theorem d_RD_openPartition_34 : decode b_RD_openPartition 34 = .ok (.invokevirtual 98, 3) := by decide +kernel
theorem d_RD_openPartition_37 : decode b_RD_openPartition 37 = .ok (.aload_n 0, 1) := by decide +kernel
theorem d_RD_openPartition_38 : decode b_RD_openPartition 38 = .ok (.getfield 9, 3) := by decide +kernel
theorem d_RD_openPartition_41 : decode b_RD_openPartition 41 = .ok (.invokevirtual 102, 3) := by decide +kernel
theorem d_RD_openPartition_44 : decode b_RD_openPartition 44 = .ok (.lstore_n 1, 1) := by decide +kernel
theorem d_RD_openPartition_45 : decode b_RD_openPartition 45 = .ok (.aload_n 0, 1) := by decide +kernel
theorem d_RD_openPartition_46 : decode b_RD_openPartition 46 = .ok (.getfield 15, 3) := by decide +kernel
theorem d_RD_openPartition_49 : decode b_RD_openPartition 49 = .ok (.lload_n 1, 1) := by decide +kernel
theorem d_RD_openPartition_50 : decode b_RD_openPartition 50 = .ok (.invokevirtual 106, 3) := by decide +kernel
theorem d_RD_openPartition_53 : decode b_RD_openPartition 53 = .ok (.iconst (-1), 1) := by decide +kernel
theorem d_RD_openPartition_54 : decode b_RD_openPartition 54 = .ok (.if_icmp .eq 11, 3) := by decide +kernel
theorem d_RD_openPartition_57 : decode b_RD_openPartition 57 = .ok (.aload_n 0, 1) := by decide +kernel
theorem d_RD_openPartition_58 : decode b_RD_openPartition 58 = .ok (.getfield 9, 3) := by decide +kernel
theorem d_RD_openPartition_61 : decode b_RD_openPartition 61 = .ok (.iconst 3, 1) := by decide +kernel
theorem d_RD_openPartition_62 : decode b_RD_openPartition 62 = .ok (.invokevirtual 98, 3) := by decide +kernel
theorem d_RD_openPartition_65 : decode b_RD_openPartition 65 = .ok (.aload_n 0, 1) := by decide +kernel
theorem d_RD_openPartition_66 : decode b_RD_openPartition 66 = .ok (.getfield 15, 3) := by decide +kernel
theorem d_RD_openPartition_69 : decode b_RD_openPartition 69 = .ok (.lload_n 1, 1) := by decide +kernel
theorem d_RD_openPartition_70 : decode b_RD_openPartition 70 = .ok (.invokevirtual 110, 3) := by decide +kernel
theorem d_RD_openPartition_73 : decode b_RD_openPartition 73 = .ok (.aload_n 0, 1) := by decide +kernel
theorem d_RD_openPartition_74 : decode b_RD_openPartition 74 = .ok (.getfield 9, 3) := by decide +kernel
theorem d_RD_openPartition_77 : decode b_RD_openPartition 77 = .ok (.invokevirtual 114, 3) := by decide +kernel
theorem d_RD_openPartition_80 : decode b_RD_openPartition 80 = .ok (.aload_n 0, 1) := by decide +kernel
theorem d_RD_openPartition_81 : decode b_RD_openPartition 81 = .ok (.getfield 9, 3) := by decide +kernel
theorem d_RD_openPartition_84 : decode b_RD_openPartition 84 = .ok (.ldc 117, 2) := by decide +kernel
theorem d_RD_openPartition_86 : decode b_RD_openPartition 86 = .ok (.invokevirtual 82, 3) := by decide +kernel
theorem d_RD_openPartition_89 : decode b_RD_openPartition 89 = .ok (.return_, 1) := by decide +kernel
def f_RD_openPartition_65 (S : XS) (a1 : Int64) : Option ((Unit × XS) ⊕ XS) :=
  (f_CF_addPartition S a1).bind fun q28 => (f_WO_next q28).bind (xT2 fun _ S32 => (f_WO_expect S32 4).bind (xT2 fun _ S37 => some (.inl ((), S37))))
set_option maxHeartbeats 4000000 in
set_option maxRecDepth 100000 in
theorem k_RD_openPartition_65 (l : Launch) (hq : l.stackTraces = false) {p : Program} {e : Env} {s : State} {m : MethodId} {args : Array Value} {below : List Frame} {meth : Method} {c : Code} {D : va_G} {lay : Nat → Nat} {cA : Nat → ClassId} {adK adV : Nat → Nat} {s0 : State} (C : xB p s m args meth c R_RD b_RD_openPartition ((Option.none : Option Jvm.ClassFile.FieldType)) 3) (E : xE D lay cA adK adV s0 s s.heap) : ∀ (S : XS) (a1 : Int64) (r : (Unit × XS) ⊕ XS) (_ : f_RD_openPartition_65 S a1 = some r) (H : Heap) (locs : List Loc) (ls : Array Slot), va_P D xcl (xw lay cA S) H → va_S (xI lay) s.heap H locs → lv_has ls 3 [(0, .ref (lay 179)), (1, .long a1)] → W p l e rm_RD_openPartition s m args below meth c H locs 0 0 (XF below (xrv D lay cA r) (xrt D lay cA r) s 0 0 1 6 (xI lay)) (F0 m 65 ls []) := by
  obtain ⟨hx, hb, hr, hml, hown, hts, hlk, hnh⟩ := id C
  have hK := E.K
  intro S a1 r h H locs ls hP hS hl
  unfold f_RD_openPartition_65 at h
  refine lv_aload_n hx hb d_RD_openPartition_65 rfl (lv_at hl 0 rfl) ?_
  refine va_get (v := .ref (lay 3)) (C := R_RD) (T := F_RD) (N := 4) hx hb hts i_RD hown hK hP 179 (xw_at (by decide) (xc_179 _ _ _ _)) rfl 1 (by decide) (hts _ wd_170) (fun _ h9 => h9) rfl d_RD_openPartition_66 ?_
  refine lv_lload_n hx hb d_RD_openPartition_69 rfl (lv_at hl 1 rfl) ?_
  obtain ⟨q28, e27, h⟩ := xb h
  refine xc_v (va_runV (As := [.long a1]) (rest := []) ⟨hx, hb, hml, hown, hts⟩ (c_CF_addPartition l D lay cA adK adV s0 S a1 q28 e27) (cwV 1 hts (xT_V wd_512 wd_513 wd_514 wd_3 wd_515) rfl rfl rfl (by decide +kernel) ⟨Nat.le_of_ble_eq_true rfl, Nat.le_of_ble_eq_true rfl⟩) (xpV E hP hS (by decide) (xc_3 _ _ _ _) rfl) rfl rfl hl.1 rfl (lv_room (Nat.le_of_ble_eq_true rfl)) d_RD_openPartition_70 ⟨Nat.le_of_ble_eq_true rfl, Nat.le_of_ble_eq_true rfl⟩) hS (fun H locs hP hS => ?_)
  refine lv_aload_n hx hb d_RD_openPartition_73 rfl (lv_at hl 0 rfl) ?_
  refine va_get (v := .ref (lay 2)) (C := R_RD) (T := F_RD) (N := 4) hx hb hts i_RD hown hK hP 179 (xw_at (by decide) (xc_179 _ _ _ _)) rfl 0 (by decide) (hts _ wd_169) (fun _ h9 => h9) rfl d_RD_openPartition_74 ?_
  obtain ⟨q30, e29, h⟩ := xb h
  refine xk_v (xrunV (As := []) (rest := []) ⟨hx, hb, hml, hown, hts⟩ (c_WO_next l hq D lay cA adK adV s0 q28 q30 e29) (cwV 0 hts (xT_V wd_522 wd_285 wd_286 wd_2 wd_287) rfl rfl rfl (by decide +kernel) ⟨Nat.le_of_ble_eq_true rfl, Nat.le_of_ble_eq_true rfl⟩) (xpV E hP hS (by decide) (xc_2 _ _ _ _) rfl) rfl rfl hl.1 rfl (lv_room (Nat.le_of_ble_eq_true rfl)) d_RD_openPartition_77 ⟨Nat.le_of_ble_eq_true rfl, Nat.le_of_ble_eq_true rfl⟩) hS hnh hlk (fun S9 e9 => by subst e9; exact (Option.some.inj h).symm) (fun v31 S32 w33 H locs hP hS => ?_)
  subst w33
  dsimp only [xT2] at h
  refine lv_aload_n hx hb d_RD_openPartition_80 rfl (lv_at hl 0 rfl) ?_
  refine va_get (v := .ref (lay 2)) (C := R_RD) (T := F_RD) (N := 4) hx hb hts i_RD hown hK hP 179 (xw_at (by decide) (xc_179 _ _ _ _)) rfl 0 (by decide) (hts _ wd_169) (fun _ h9 => h9) rfl d_RD_openPartition_81 ?_
  refine va_ldcS hx hb hown (E.lit (List.mem_of_getElem? (i := 5) rfl : ("ConfigTexts$Reader", 117, "{", 4) ∈ xlits)) d_RD_openPartition_84 ?_
  obtain ⟨q35, e34, h⟩ := xb h
  refine xk_v (xrunV (As := [.ref (adK 4)]) (rest := []) ⟨hx, hb, hml, hown, hts⟩ (c_WO_expect l hq D lay cA adK adV s0 S32 4 q35 e34) (cwV 1 hts (xT_V wd_493 wd_494 wd_495 wd_2 wd_496) rfl rfl rfl (by decide +kernel) ⟨Nat.le_of_ble_eq_true rfl, Nat.le_of_ble_eq_true rfl⟩) (xpV E hP hS (by decide) (xc_2 _ _ _ _) rfl) rfl rfl hl.1 rfl (lv_room (Nat.le_of_ble_eq_true rfl)) d_RD_openPartition_86 ⟨Nat.le_of_ble_eq_true rfl, Nat.le_of_ble_eq_true rfl⟩) hS hnh hlk (fun S9 e9 => by subst e9; exact (Option.some.inj h).symm) (fun v36 S37 w38 H locs hP hS => ?_)
  subst w38
  dsimp only [xT2] at h
  have h9 := Option.some.inj h
  subst h9
  exact xret (W.vret hx hb hr (fun t ht hW => ⟨_, rfl, ⟨⟨(), S37, rfl, rfl, by show va_P D xcl _ t.heap; rw [ht]; exact hP⟩, hS.F ht⟩⟩) hS.2.2 d_RD_openPartition_89)
def f_RD_openPartition_37 (S : XS)  : Option ((Unit × XS) ⊕ XS) :=
  (f_WO_expectName S).bind (xT2 fun v16 S17 => (f_CF_findPartition S17 v16).bind fun q20 => if q20 = (-1 : Int32) then (f_RD_openPartition_65 S17 v16) else ((f_WO_fail S17 (3 : Int32)).bind (xT2 fun _ S24 => f_RD_openPartition_65 S24 v16)))
set_option maxHeartbeats 4000000 in
set_option maxRecDepth 100000 in
theorem k_RD_openPartition_37 (l : Launch) (hq : l.stackTraces = false) {p : Program} {e : Env} {s : State} {m : MethodId} {args : Array Value} {below : List Frame} {meth : Method} {c : Code} {D : va_G} {lay : Nat → Nat} {cA : Nat → ClassId} {adK adV : Nat → Nat} {s0 : State} (C : xB p s m args meth c R_RD b_RD_openPartition ((Option.none : Option Jvm.ClassFile.FieldType)) 3) (E : xE D lay cA adK adV s0 s s.heap) : ∀ (S : XS)  (r : (Unit × XS) ⊕ XS) (_ : f_RD_openPartition_37 S = some r) (H : Heap) (locs : List Loc) (ls : Array Slot), va_P D xcl (xw lay cA S) H → va_S (xI lay) s.heap H locs → lv_has ls 3 [(0, .ref (lay 179))] → W p l e rm_RD_openPartition s m args below meth c H locs 0 0 (XF below (xrv D lay cA r) (xrt D lay cA r) s 0 0 1 6 (xI lay)) (F0 m 37 ls []) := by
  obtain ⟨hx, hb, hr, hml, hown, hts, hlk, hnh⟩ := id C
  have hK := E.K
  intro S r h H locs ls hP hS hl
  unfold f_RD_openPartition_37 at h
  refine lv_aload_n hx hb d_RD_openPartition_37 rfl (lv_at hl 0 rfl) ?_
  refine va_get (v := .ref (lay 2)) (C := R_RD) (T := F_RD) (N := 4) hx hb hts i_RD hown hK hP 179 (xw_at (by decide) (xc_179 _ _ _ _)) rfl 0 (by decide) (hts _ wd_169) (fun _ h9 => h9) rfl d_RD_openPartition_38 ?_
  obtain ⟨q15, e14, h⟩ := xb h
  refine xk_l (xrunV (As := []) (rest := []) ⟨hx, hb, hml, hown, hts⟩ (c_WO_expectName l hq D lay cA adK adV s0 S q15 e14) (cwV 0 hts (xT_V wd_503 wd_504 wd_505 wd_2 wd_506) rfl rfl rfl (by decide +kernel) ⟨Nat.le_of_ble_eq_true rfl, Nat.le_of_ble_eq_true rfl⟩) (xpV E hP hS (by decide) (xc_2 _ _ _ _) rfl) rfl rfl hl.1 rfl (lv_room (Nat.le_of_ble_eq_true rfl)) d_RD_openPartition_41 ⟨Nat.le_of_ble_eq_true rfl, Nat.le_of_ble_eq_true rfl⟩) hS hnh hlk (fun S9 e9 => by subst e9; exact (Option.some.inj h).symm) (fun v16 S17 w18 H locs hP hS => ?_)
  subst w18
  dsimp only [xT2] at h
  refine lv_lstore_n (lv' := [(1, .long v16), (0, .ref (lay 179))]) hx hb d_RD_openPartition_44 rfl hl (by decide) rfl (fun ls hl => ?_)
  refine lv_aload_n hx hb d_RD_openPartition_45 rfl (lv_at hl 1 rfl) ?_
  refine va_get (v := .ref (lay 3)) (C := R_RD) (T := F_RD) (N := 4) hx hb hts i_RD hown hK hP 179 (xw_at (by decide) (xc_179 _ _ _ _)) rfl 1 (by decide) (hts _ wd_170) (fun _ h9 => h9) rfl d_RD_openPartition_46 ?_
  refine lv_lload_n hx hb d_RD_openPartition_49 rfl (lv_at hl 0 rfl) ?_
  obtain ⟨q20, e19, h⟩ := xb h
  refine xc_i (va_runV (As := [.long v16]) (rest := []) ⟨hx, hb, hml, hown, hts⟩ (c_CF_findPartition l D lay cA adK adV s0 S17 v16 q20 e19) (cwV 1 hts (xT_V wd_508 wd_509 wd_510 wd_3 wd_511) rfl rfl rfl (by decide +kernel) ⟨Nat.le_of_ble_eq_true rfl, Nat.le_of_ble_eq_true rfl⟩) (xpV E hP hS (by decide) (xc_3 _ _ _ _) rfl) rfl rfl hl.1 rfl (lv_room (Nat.le_of_ble_eq_true rfl)) d_RD_openPartition_50 ⟨Nat.le_of_ble_eq_true rfl, Nat.le_of_ble_eq_true rfl⟩) hS (fun H locs hP hS => ?_)
  refine lv_iconst (v := (-1 : Int32)) hx hb d_RD_openPartition_53 (by decide) ?_
  refine lv_icmp_eq (tgt := 65) hx hb d_RD_openPartition_54 (by decide) (fun c_26 => ?_) (fun c_26 => ?_)
  · have h := xif_t c_26 h
    exact k_RD_openPartition_65 l hq C E S17 v16 _ h H locs ls hP hS (lv_sub hl [1, 0] rfl)
  · have h := xif_f c_26 h
    refine lv_aload_n hx hb d_RD_openPartition_57 rfl (lv_at hl 1 rfl) ?_
    refine va_get (v := .ref (lay 2)) (C := R_RD) (T := F_RD) (N := 4) hx hb hts i_RD hown hK hP 179 (xw_at (by decide) (xc_179 _ _ _ _)) rfl 0 (by decide) (hts _ wd_169) (fun _ h9 => h9) rfl d_RD_openPartition_58 ?_
    refine lv_iconst (v := (3 : Int32)) hx hb d_RD_openPartition_61 (by decide) ?_
    obtain ⟨q22, e21, h⟩ := xb h
    refine xk_v (xrunV (As := [.int (3 : Int32)]) (rest := []) ⟨hx, hb, hml, hown, hts⟩ (c_WO_fail l hq D lay cA adK adV s0 S17 (3 : Int32) q22 e21) (cwV 1 hts (xT_V wd_502 wd_386 wd_387 wd_2 wd_388) rfl rfl rfl (by decide +kernel) ⟨Nat.le_of_ble_eq_true rfl, Nat.le_of_ble_eq_true rfl⟩) (xpV E hP hS (by decide) (xc_2 _ _ _ _) rfl) rfl rfl hl.1 rfl (lv_room (Nat.le_of_ble_eq_true rfl)) d_RD_openPartition_62 ⟨Nat.le_of_ble_eq_true rfl, Nat.le_of_ble_eq_true rfl⟩) hS hnh hlk (fun S9 e9 => by subst e9; exact (Option.some.inj h).symm) (fun v23 S24 w25 H locs hP hS => ?_)
    subst w25
    dsimp only [xT2] at h
    exact k_RD_openPartition_65 l hq C E S24 v16 _ h H locs ls hP hS (lv_sub hl [1, 0] rfl)
def f_RD_openPartition (S : XS)  : Option ((Unit × XS) ⊕ XS) :=
  (f_WO_expect (xpi (xpi S 179 2 (0 : Int32)) 179 3 (-1 : Int32)) 2).bind (xT2 fun _ S4 => (f_CF_isFull S4).bind fun q7 => if q7 = 0 then (f_RD_openPartition_37 S4) else ((f_WO_fail S4 (4 : Int32)).bind (xT2 fun _ S11 => f_RD_openPartition_37 S11)))
set_option maxHeartbeats 4000000 in
set_option maxRecDepth 100000 in
theorem k_RD_openPartition (l : Launch) (hq : l.stackTraces = false) {p : Program} {e : Env} {s : State} {m : MethodId} {args : Array Value} {below : List Frame} {meth : Method} {c : Code} {D : va_G} {lay : Nat → Nat} {cA : Nat → ClassId} {adK adV : Nat → Nat} {s0 : State} (C : xB p s m args meth c R_RD b_RD_openPartition ((Option.none : Option Jvm.ClassFile.FieldType)) 3) (E : xE D lay cA adK adV s0 s s.heap) : ∀ (S : XS)  (r : (Unit × XS) ⊕ XS) (_ : f_RD_openPartition S = some r) (H : Heap) (locs : List Loc) (ls : Array Slot), va_P D xcl (xw lay cA S) H → va_S (xI lay) s.heap H locs → lv_has ls 3 [(0, .ref (lay 179))] → W p l e rm_RD_openPartition s m args below meth c H locs 0 0 (XF below (xrv D lay cA r) (xrt D lay cA r) s 0 0 1 6 (xI lay)) (F0 m 0 ls []) := by
  obtain ⟨hx, hb, hr, hml, hown, hts, hlk, hnh⟩ := id C
  have hK := E.K
  intro S r h H locs ls hP hS hl
  unfold f_RD_openPartition at h
  refine lv_aload_n hx hb d_RD_openPartition_0 rfl (lv_at hl 0 rfl) ?_
  refine lv_iconst (v := (0 : Int32)) hx hb d_RD_openPartition_1 (by decide) ?_
  refine xput_RD_2 hx hb hts hown E hP hS (hts _ wd_171) d_RD_openPartition_2 (by decide) (by decide) (fun H locs hP hS => ?_)
  refine lv_aload_n hx hb d_RD_openPartition_5 rfl (lv_at hl 0 rfl) ?_
  refine lv_iconst (v := (-1 : Int32)) hx hb d_RD_openPartition_6 (by decide) ?_
  refine xput_RD_3 hx hb hts hown E hP hS (hts _ wd_172) d_RD_openPartition_7 (fun H locs hP hS => ?_)
  refine lv_aload_n hx hb d_RD_openPartition_10 rfl (lv_at hl 0 rfl) ?_
  refine va_get (v := .ref (lay 2)) (C := R_RD) (T := F_RD) (N := 4) hx hb hts i_RD hown hK hP 179 (xw_at (by decide) (xc_179 _ _ _ _)) rfl 0 (by decide) (hts _ wd_169) (fun _ h9 => h9) rfl d_RD_openPartition_11 ?_
  refine va_ldcS hx hb hown (E.lit (List.mem_of_getElem? (i := 3) rfl : ("ConfigTexts$Reader", 92, "partition", 2) ∈ xlits)) d_RD_openPartition_14 ?_
  obtain ⟨q2, e1, h⟩ := xb h
  refine xk_v (xrunV (As := [.ref (adK 2)]) (rest := []) ⟨hx, hb, hml, hown, hts⟩ (c_WO_expect l hq D lay cA adK adV s0 (xpi (xpi S 179 2 (0 : Int32)) 179 3 (-1 : Int32)) 2 q2 e1) (cwV 1 hts (xT_V wd_493 wd_494 wd_495 wd_2 wd_496) rfl rfl rfl (by decide +kernel) ⟨Nat.le_of_ble_eq_true rfl, Nat.le_of_ble_eq_true rfl⟩) (xpV E hP hS (by decide) (xc_2 _ _ _ _) rfl) rfl rfl hl.1 rfl (lv_room (Nat.le_of_ble_eq_true rfl)) d_RD_openPartition_16 ⟨Nat.le_of_ble_eq_true rfl, Nat.le_of_ble_eq_true rfl⟩) hS hnh hlk (fun S9 e9 => by subst e9; exact (Option.some.inj h).symm) (fun v3 S4 w5 H locs hP hS => ?_)
  subst w5
  dsimp only [xT2] at h
  refine lv_aload_n hx hb d_RD_openPartition_19 rfl (lv_at hl 0 rfl) ?_
  refine va_get (v := .ref (lay 3)) (C := R_RD) (T := F_RD) (N := 4) hx hb hts i_RD hown hK hP 179 (xw_at (by decide) (xc_179 _ _ _ _)) rfl 1 (by decide) (hts _ wd_170) (fun _ h9 => h9) rfl d_RD_openPartition_20 ?_
  obtain ⟨q7, e6, h⟩ := xb h
  refine xc_i (va_runV (As := []) (rest := []) ⟨hx, hb, hml, hown, hts⟩ (c_CF_isFull l D lay cA adK adV s0 S4 q7 e6) (cwV 0 hts (xT_V wd_498 wd_499 wd_500 wd_3 wd_501) rfl rfl rfl (by decide +kernel) ⟨Nat.le_of_ble_eq_true rfl, Nat.le_of_ble_eq_true rfl⟩) (xpV E hP hS (by decide) (xc_3 _ _ _ _) rfl) rfl rfl hl.1 rfl (lv_room (Nat.le_of_ble_eq_true rfl)) d_RD_openPartition_23 ⟨Nat.le_of_ble_eq_true rfl, Nat.le_of_ble_eq_true rfl⟩) hS (fun H locs hP hS => ?_)
  refine lv_if_eq (tgt := 37) hx hb d_RD_openPartition_26 (by decide) (fun c_13 => ?_) (fun c_13 => ?_)
  · have h := xif_t c_13 h
    exact k_RD_openPartition_37 l hq C E S4  _ h H locs ls hP hS hl
  · have h := xif_f c_13 h
    refine lv_aload_n hx hb d_RD_openPartition_29 rfl (lv_at hl 0 rfl) ?_
    refine va_get (v := .ref (lay 2)) (C := R_RD) (T := F_RD) (N := 4) hx hb hts i_RD hown hK hP 179 (xw_at (by decide) (xc_179 _ _ _ _)) rfl 0 (by decide) (hts _ wd_169) (fun _ h9 => h9) rfl d_RD_openPartition_30 ?_
    refine lv_iconst (v := (4 : Int32)) hx hb d_RD_openPartition_33 (by decide) ?_
    obtain ⟨q9, e8, h⟩ := xb h
    refine xk_v (xrunV (As := [.int (4 : Int32)]) (rest := []) ⟨hx, hb, hml, hown, hts⟩ (c_WO_fail l hq D lay cA adK adV s0 S4 (4 : Int32) q9 e8) (cwV 1 hts (xT_V wd_502 wd_386 wd_387 wd_2 wd_388) rfl rfl rfl (by decide +kernel) ⟨Nat.le_of_ble_eq_true rfl, Nat.le_of_ble_eq_true rfl⟩) (xpV E hP hS (by decide) (xc_2 _ _ _ _) rfl) rfl rfl hl.1 rfl (lv_room (Nat.le_of_ble_eq_true rfl)) d_RD_openPartition_34 ⟨Nat.le_of_ble_eq_true rfl, Nat.le_of_ble_eq_true rfl⟩) hS hnh hlk (fun S9 e9 => by subst e9; exact (Option.some.inj h).symm) (fun v10 S11 w12 H locs hP hS => ?_)
    subst w12
    dsimp only [xT2] at h
    exact k_RD_openPartition_37 l hq C E S11  _ h H locs ls hP hS hl
theorem c_RD_openPartition (l : Launch) (hq : l.stackTraces = false) (D : va_G) (lay : Nat → Nat) (cA : Nat → ClassId) (adK adV : Nat → Nat) (s0 : State) (S : XS)  (r : (Unit × XS) ⊕ XS) (h : f_RD_openPartition S  = some r) : MetX l y_RD_openPartition (.code y_RD_openPartition b_RD_openPartition 3 ((Option.none : Option Jvm.ClassFile.FieldType)) :: xT) rm_RD_openPartition (xPc D lay cA adK adV s0 S [.ref (lay 179)]) (xrv D lay cA r) (xrt D lay cA r) 0 0 1 6 (xI lay) := by
  refine MetX.ofW (cc := b_RD_openPartition) (maxL := 3) (ret := (Option.none : Option Jvm.ClassFile.FieldType)) (by decide +kernel) rfl ?_
  intro p e s m args below meth c s₁ B hml hv
  obtain ⟨rfl, hP, E⟩ := hv
  have C := xB_of B hml
  have hl := lv_entry ([.ref (lay 179)]) (n := 3) (Nat.le_of_ble_eq_true rfl)
  rw [lg_entry_eq]
  generalize (lg_sl ([.ref (lay 179)]) ++ List.replicate (3 - (lg_sl ([.ref (lay 179)])).length) Slot.unset).toArray = ls at hl ⊢
  exact k_RD_openPartition l hq C E S  r h s.heap [] ls hP va_S.rf hl
/-! ConfigTexts$Reader.readSetting(Ljava/lang/String;III)I -/
def rm_RD_readSetting : Room := { frames := 9, cells := 1, slots := 6, locals := 165 }
theorem d_RD_readSetting_0 : decode b_RD_readSetting 0 = .ok (.aload_n 0, 1) := by decide +kernel
theorem d_RD_readSetting_1 : decode b_RD_readSetting 1 = .ok (.getfield 9, 3) := by decide +kernel
theorem d_RD_readSetting_4 : decode b_RD_readSetting 4 = .ok (.aload_n 1, 1) := by decide +kernel
theorem d_RD_readSetting_5 : decode b_RD_readSetting 5 = .ok (.invokevirtual 82, 3) := by decide +kernel
theorem d_RD_readSetting_8 : decode b_RD_readSetting 8 = .ok (.aload_n 0, 1) := by decide +kernel
theorem d_RD_readSetting_9 : decode b_RD_readSetting 9 = .ok (.getfield 9, 3) := by decide +kernel
theorem d_RD_readSetting_12 : decode b_RD_readSetting 12 = .ok (.iload_n 2, 1) := by decide +kernel
theorem d_RD_readSetting_13 : decode b_RD_readSetting 13 = .ok (.iload_n 3, 1) := by decide +kernel
theorem d_RD_readSetting_14 : decode b_RD_readSetting 14 = .ok (.iload 4, 2) := by decide +kernel
theorem d_RD_readSetting_16 : decode b_RD_readSetting 16 = .ok (.invokevirtual 141, 3) := by decide +kernel
theorem d_RD_readSetting_19 : decode b_RD_readSetting 19 = .ok (.istore 5, 2) := by decide +kernel
theorem d_RD_readSetting_21 : decode b_RD_readSetting 21 = .ok (.aload_n 0, 1) := by decide +kernel
theorem d_RD_readSetting_22 : decode b_RD_readSetting 22 = .ok (.getfield 9, 3) := by decide +kernel
theorem d_RD_readSetting_25 : decode b_RD_readSetting 25 = .ok (.ldc 80, 2) := by decide +kernel
theorem d_RD_readSetting_27 : decode b_RD_readSetting 27 = .ok (.invokevirtual 82, 3) := by decide +kernel
theorem d_RD_readSetting_30 : decode b_RD_readSetting 30 = .ok (.iload 5, 2) := by decide +kernel
theorem d_RD_readSetting_32 : decode b_RD_readSetting 32 = .ok (.ireturn, 1) := by decide +kernel
def f_RD_readSetting (S : XS) (a1 : Nat) (a2 : Int32) (a3 : Int32) (a4 : Int32) : Option ((Int32 × XS) ⊕ XS) :=
  (f_WO_expect S a1).bind (xT2 fun _ S4 => (f_WO_expectNumber S4 a2 a3 a4).bind (xT2 fun v8 S9 => (f_WO_expect S9 6).bind (xT2 fun _ S14 => some (.inl (v8, S14)))))
set_option maxHeartbeats 4000000 in
set_option maxRecDepth 100000 in
theorem k_RD_readSetting (l : Launch) (hq : l.stackTraces = false) {p : Program} {e : Env} {s : State} {m : MethodId} {args : Array Value} {below : List Frame} {meth : Method} {c : Code} {D : va_G} {lay : Nat → Nat} {cA : Nat → ClassId} {adK adV : Nat → Nat} {s0 : State} (C : xB p s m args meth c R_RD b_RD_readSetting ((Option.some Jvm.ClassFile.FieldType.int)) 6) (E : xE D lay cA adK adV s0 s s.heap) : ∀ (S : XS) (a1 : Nat) (a2 : Int32) (a3 : Int32) (a4 : Int32) (r : (Int32 × XS) ⊕ XS) (_ : f_RD_readSetting S a1 a2 a3 a4 = some r) (H : Heap) (locs : List Loc) (ls : Array Slot), va_P D xcl (xw lay cA S) H → va_S (xI lay) s.heap H locs → lv_has ls 6 [(0, .ref (lay 179)), (1, .ref (adK a1)), (2, .int a2), (3, .int a3), (4, .int a4)] → W p l e rm_RD_readSetting s m args below meth c H locs 0 0 (XF below (xri D lay cA r) (xrt D lay cA r) s 0 0 1 6 (xI lay)) (F0 m 0 ls []) := by
  obtain ⟨hx, hb, hr, hml, hown, hts, hlk, hnh⟩ := id C
  have hK := E.K
  intro S a1 a2 a3 a4 r h H locs ls hP hS hl
  unfold f_RD_readSetting at h
  refine lv_aload_n hx hb d_RD_readSetting_0 rfl (lv_at hl 0 rfl) ?_
  refine va_get (v := .ref (lay 2)) (C := R_RD) (T := F_RD) (N := 4) hx hb hts i_RD hown hK hP 179 (xw_at (by decide) (xc_179 _ _ _ _)) rfl 0 (by decide) (hts _ wd_169) (fun _ h9 => h9) rfl d_RD_readSetting_1 ?_
  refine lv_aload_n hx hb d_RD_readSetting_4 rfl (lv_at hl 1 rfl) ?_
  obtain ⟨q2, e1, h⟩ := xb h
  refine xk_v (xrunV (As := [.ref (adK a1)]) (rest := []) ⟨hx, hb, hml, hown, hts⟩ (c_WO_expect l hq D lay cA adK adV s0 S a1 q2 e1) (cwV 1 hts (xT_V wd_493 wd_494 wd_495 wd_2 wd_496) rfl rfl rfl (by decide +kernel) ⟨Nat.le_of_ble_eq_true rfl, Nat.le_of_ble_eq_true rfl⟩) (xpV E hP hS (by decide) (xc_2 _ _ _ _) rfl) rfl rfl hl.1 rfl (lv_room (Nat.le_of_ble_eq_true rfl)) d_RD_readSetting_5 ⟨Nat.le_of_ble_eq_true rfl, Nat.le_of_ble_eq_true rfl⟩) hS hnh hlk (fun S9 e9 => by subst e9; exact (Option.some.inj h).symm) (fun v3 S4 w5 H locs hP hS => ?_)
  subst w5
  dsimp only [xT2] at h
  refine lv_aload_n hx hb d_RD_readSetting_8 rfl (lv_at hl 0 rfl) ?_
  refine va_get (v := .ref (lay 2)) (C := R_RD) (T := F_RD) (N := 4) hx hb hts i_RD hown hK hP 179 (xw_at (by decide) (xc_179 _ _ _ _)) rfl 0 (by decide) (hts _ wd_169) (fun _ h9 => h9) rfl d_RD_readSetting_9 ?_
  refine lv_iload_n hx hb d_RD_readSetting_12 rfl (lv_at hl 2 rfl) ?_
  refine lv_iload_n hx hb d_RD_readSetting_13 rfl (lv_at hl 3 rfl) ?_
  refine lv_iload hx hb d_RD_readSetting_14 (lv_at hl 4 rfl) ?_
  obtain ⟨q7, e6, h⟩ := xb h
  refine xk_i (xrunV (As := [.int a2, .int a3, .int a4]) (rest := []) ⟨hx, hb, hml, hown, hts⟩ (c_WO_expectNumber l hq D lay cA adK adV s0 S4 a2 a3 a4 q7 e6) (cwV 3 hts (xT_V wd_530 wd_531 wd_532 wd_2 wd_533) rfl rfl rfl (by decide +kernel) ⟨Nat.le_of_ble_eq_true rfl, Nat.le_of_ble_eq_true rfl⟩) (xpV E hP hS (by decide) (xc_2 _ _ _ _) rfl) rfl rfl hl.1 rfl (lv_room (Nat.le_of_ble_eq_true rfl)) d_RD_readSetting_16 ⟨Nat.le_of_ble_eq_true rfl, Nat.le_of_ble_eq_true rfl⟩) hS hnh hlk (fun S9 e9 => by subst e9; exact (Option.some.inj h).symm) (fun v8 S9 w10 H locs hP hS => ?_)
  subst w10
  dsimp only [xT2] at h
  refine lv_istore (lv' := [(5, .int v8), (0, .ref (lay 179)), (1, .ref (adK a1)), (2, .int a2), (3, .int a3), (4, .int a4)]) hx hb d_RD_readSetting_19 hl (by decide) rfl (fun ls hl => ?_)
  refine lv_aload_n hx hb d_RD_readSetting_21 rfl (lv_at hl 1 rfl) ?_
  refine va_get (v := .ref (lay 2)) (C := R_RD) (T := F_RD) (N := 4) hx hb hts i_RD hown hK hP 179 (xw_at (by decide) (xc_179 _ _ _ _)) rfl 0 (by decide) (hts _ wd_169) (fun _ h9 => h9) rfl d_RD_readSetting_22 ?_
  refine va_ldcS hx hb hown (E.lit (List.mem_of_getElem? (i := 7) rfl : ("ConfigTexts$Reader", 80, ";", 6) ∈ xlits)) d_RD_readSetting_25 ?_
  obtain ⟨q12, e11, h⟩ := xb h
  refine xk_v (xrunV (As := [.ref (adK 6)]) (rest := []) ⟨hx, hb, hml, hown, hts⟩ (c_WO_expect l hq D lay cA adK adV s0 S9 6 q12 e11) (cwV 1 hts (xT_V wd_493 wd_494 wd_495 wd_2 wd_496) rfl rfl rfl (by decide +kernel) ⟨Nat.le_of_ble_eq_true rfl, Nat.le_of_ble_eq_true rfl⟩) (xpV E hP hS (by decide) (xc_2 _ _ _ _) rfl) rfl rfl hl.1 rfl (lv_room (Nat.le_of_ble_eq_true rfl)) d_RD_readSetting_27 ⟨Nat.le_of_ble_eq_true rfl, Nat.le_of_ble_eq_true rfl⟩) hS hnh hlk (fun S9 e9 => by subst e9; exact (Option.some.inj h).symm) (fun v13 S14 w15 H locs hP hS => ?_)
  subst w15
  dsimp only [xT2] at h
  refine lv_iload hx hb d_RD_readSetting_30 (lv_at hl 0 rfl) ?_
  have h9 := Option.some.inj h
  subst h9
  exact xret (W.iret (v := v8) hx hb hr (fun t ht hW => ⟨_, rfl, ⟨⟨v8, S14, rfl, rfl, by show va_P D xcl _ t.heap; rw [ht]; exact hP⟩, hS.F ht⟩⟩) hS.2.2 d_RD_readSetting_32)
theorem c_RD_readSetting (l : Launch) (hq : l.stackTraces = false) (D : va_G) (lay : Nat → Nat) (cA : Nat → ClassId) (adK adV : Nat → Nat) (s0 : State) (S : XS) (a1 : Nat) (a2 : Int32) (a3 : Int32) (a4 : Int32) (r : (Int32 × XS) ⊕ XS) (h : f_RD_readSetting S a1 a2 a3 a4 = some r) : MetX l y_RD_readSetting (.code y_RD_readSetting b_RD_readSetting 6 ((Option.some Jvm.ClassFile.FieldType.int)) :: xT) rm_RD_readSetting (xPc D lay cA adK adV s0 S [.ref (lay 179), .ref (adK a1), .int a2, .int a3, .int a4]) (xri D lay cA r) (xrt D lay cA r) 0 0 1 6 (xI lay) := by
  refine MetX.ofW (cc := b_RD_readSetting) (maxL := 6) (ret := (Option.some Jvm.ClassFile.FieldType.int)) (by decide +kernel) rfl ?_
  intro p e s m args below meth c s₁ B hml hv
  obtain ⟨rfl, hP, E⟩ := hv
  have C := xB_of B hml
  have hl := lv_entry ([.ref (lay 179), .ref (adK a1), .int a2, .int a3, .int a4]) (n := 6) (Nat.le_of_ble_eq_true rfl)
  rw [lg_entry_eq]
  generalize (lg_sl ([.ref (lay 179), .ref (adK a1), .int a2, .int a3, .int a4]) ++ List.replicate (6 - (lg_sl ([.ref (lay 179), .ref (adK a1), .int a2, .int a3, .int a4])).length) Slot.unset).toArray = ls at hl ⊢
  exact k_RD_readSetting l hq C E S a1 a2 a3 a4 r h s.heap [] ls hP va_S.rf hl
/-! ConfigTexts$Reader.nameThing(LConfigTexts$Partition;I)LConfigTexts$Rows; -/
def rm_RD_nameThing : Room := { frames := 8, cells := 1, slots := 6, locals := 141 }
theorem d_RD_nameThing_0 : decode b_RD_nameThing 0 = .ok (.aload_n 1, 1) := by decide +kernel
theorem d_RD_nameThing_1 : decode b_RD_nameThing 1 = .ok (.getfield 126, 3) := by decide +kernel
theorem d_RD_nameThing_4 : decode b_RD_nameThing 4 = .ok (.iload_n 2, 1) := by decide +kernel
theorem d_RD_nameThing_5 : decode b_RD_nameThing 5 = .ok (.aaload, 1) := by decide +kernel
theorem d_RD_nameThing_6 : decode b_RD_nameThing 6 = .ok (.astore_n 3, 1) := by decide +kernel
theorem d_RD_nameThing_7 : decode b_RD_nameThing 7 = .ok (.aload_n 0, 1) := by decide +kernel
theorem d_RD_nameThing_8 : decode b_RD_nameThing 8 = .ok (.getfield 9, 3) := by decide +kernel
theorem d_RD_nameThing_11 : decode b_RD_nameThing 11 = .ok (.invokevirtual 114, 3) := by decide +kernel
theorem d_RD_nameThing_14 : decode b_RD_nameThing 14 = .ok (.aload_n 3, 1) := by decide +kernel
theorem d_RD_nameThing_15 : decode b_RD_nameThing 15 = .ok (.invokevirtual 130, 3) := by decide +kernel
theorem d_RD_nameThing_18 : decode b_RD_nameThing 18 = .ok (.ifCond .eq 11, 3) := by decide +kernel
theorem d_RD_nameThing_21 : decode b_RD_nameThing 21 = .ok (.aload_n 0, 1) := by decide +kernel
theorem d_RD_nameThing_22 : decode b_RD_nameThing 22 = .ok (.getfield 9, 3) := by decide +kernel
theorem d_RD_nameThing_25 : decode b_RD_nameThing 25 = .ok (.iconst 4, 1) := by decide +kernel
theorem d_RD_nameThing_26 : decode b_RD_nameThing 26 = .ok (.invokevirtual 98, 3) := by decide +kernel
theorem d_RD_nameThing_29 : decode b_RD_nameThing 29 = .ok (.aload_n 0, 1) := by decide +kernel
theorem d_RD_nameThing_30 : decode b_RD_nameThing 30 = .ok (.getfield 9, 3) := by decide +kernel
theorem d_RD_nameThing_33 : decode b_RD_nameThing 33 = .ok (.invokevirtual 102, 3) := by decide +kernel
theorem d_RD_nameThing_36 : decode b_RD_nameThing 36 = .ok (.lstore 4, 2) := by decide +kernel
theorem d_RD_nameThing_38 : decode b_RD_nameThing 38 = .ok (.aload_n 1, 1) := by decide +kernel
theorem d_RD_nameThing_39 : decode b_RD_nameThing 39 = .ok (.lload 4, 2) := by decide +kernel
theorem d_RD_nameThing_41 : decode b_RD_nameThing 41 = .ok (.invokevirtual 133, 3) := by decide +kernel
theorem d_RD_nameThing_44 : decode b_RD_nameThing 44 = .ok (.ifCond .eq 11, 3) := by decide +kernel
theorem d_RD_nameThing_47 : decode b_RD_nameThing 47 = .ok (.aload_n 0, 1) := by decide +kernel
theorem d_RD_nameThing_48 : decode b_RD_nameThing 48 = .ok (.getfield 9, 3) := by decide +kernel
theorem d_RD_nameThing_51 : decode b_RD_nameThing 51 = .ok (.iconst 3, 1) := by decide +kernel
theorem d_RD_nameThing_52 : decode b_RD_nameThing 52 = .ok (.invokevirtual 98, 3) := by decide +kernel
theorem d_RD_nameThing_55 : decode b_RD_nameThing 55 = .ok (.aload_n 3, 1) := by decide +kernel
theorem d_RD_nameThing_56 : decode b_RD_nameThing 56 = .ok (.lload 4, 2) := by decide +kernel
theorem d_RD_nameThing_58 : decode b_RD_nameThing 58 = .ok (.iconst 0, 1) := by decide +kernel
theorem d_RD_nameThing_59 : decode b_RD_nameThing 59 = .ok (.invokevirtual 137, 3) := by decide +kernel
theorem d_RD_nameThing_62 : decode b_RD_nameThing 62 = .ok (.aload_n 0, 1) := by decide +kernel
theorem d_RD_nameThing_63 : decode b_RD_nameThing 63 = .ok (.getfield 9, 3) := by decide +kernel
theorem d_RD_nameThing_66 : decode b_RD_nameThing 66 = .ok (.invokevirtual 114, 3) := by decide +kernel
theorem d_RD_nameThing_69 : decode b_RD_nameThing 69 = .ok (.aload_n 3, 1) := by decide +kernel
theorem d_RD_nameThing_70 : decode b_RD_nameThing 70 = .ok (.areturn, 1) := by decide +kernel
def f_RD_nameThing_55 (S : XS) (a3 : Nat) (a4 : Int64) : Option ((Nat × XS) ⊕ XS) :=
  if xR a3 then ((f_RO_add S a3 a4 (0 : Int32)).bind fun q33 => (f_WO_next q33).bind (xT2 fun _ S37 => some (.inl (a3, S37)))) else none
set_option maxHeartbeats 4000000 in
set_option maxRecDepth 100000 in
theorem k_RD_nameThing_55 (l : Launch) (hq : l.stackTraces = false) {p : Program} {e : Env} {s : State} {m : MethodId} {args : Array Value} {below : List Frame} {meth : Method} {c : Code} {D : va_G} {lay : Nat → Nat} {cA : Nat → ClassId} {adK adV : Nat → Nat} {s0 : State} (C : xB p s m args meth c R_RD b_RD_nameThing ((Option.some (Jvm.ClassFile.FieldType.object "ConfigTexts$Rows"))) 6) (E : xE D lay cA adK adV s0 s s.heap) : ∀ (S : XS) (a3 : Nat) (a4 : Int64) (r : (Nat × XS) ⊕ XS) (_ : f_RD_nameThing_55 S a3 a4 = some r) (H : Heap) (locs : List Loc) (ls : Array Slot), va_P D xcl (xw lay cA S) H → va_S (xI lay) s.heap H locs → lv_has ls 6 [(0, .ref (lay 179)), (3, .ref (lay a3)), (4, .long a4)] → W p l e rm_RD_nameThing s m args below meth c H locs 0 0 (XF below (xrr D lay cA r) (xrt D lay cA r) s 0 0 1 6 (xI lay)) (F0 m 55 ls []) := by
  obtain ⟨hx, hb, hr, hml, hown, hts, hlk, hnh⟩ := id C
  have hK := E.K
  intro S a3 a4 r h H locs ls hP hS hl
  unfold f_RD_nameThing_55 at h
  refine lv_aload_n hx hb d_RD_nameThing_55 rfl (lv_at hl 1 rfl) ?_
  refine lv_lload hx hb d_RD_nameThing_56 (lv_at hl 2 rfl) ?_
  refine lv_iconst (v := (0 : Int32)) hx hb d_RD_nameThing_58 (by decide) ?_
  obtain ⟨hk31, h⟩ := xg h
  obtain ⟨q33, e32, h⟩ := xb h
  refine xc_v (va_runV (As := [.long a4, .int (0 : Int32)]) (rest := []) ⟨hx, hb, hml, hown, hts⟩ (c_RO_add l D lay cA adK adV s0 S a3 a4 (0 : Int32) q33 e32) (cwV 2 hts (xT_V wd_559 wd_560 wd_561 wd_5 wd_562) rfl rfl rfl (by decide +kernel) ⟨Nat.le_of_ble_eq_true rfl, Nat.le_of_ble_eq_true rfl⟩) (xpV E hP hS (xR_lt hk31).1 (xc_RO _ _ _ _ hk31) rfl) rfl rfl hl.1 rfl (lv_room (Nat.le_of_ble_eq_true rfl)) d_RD_nameThing_59 ⟨Nat.le_of_ble_eq_true rfl, Nat.le_of_ble_eq_true rfl⟩) hS (fun H locs hP hS => ?_)
  refine lv_aload_n hx hb d_RD_nameThing_62 rfl (lv_at hl 0 rfl) ?_
  refine va_get (v := .ref (lay 2)) (C := R_RD) (T := F_RD) (N := 4) hx hb hts i_RD hown hK hP 179 (xw_at (by decide) (xc_179 _ _ _ _)) rfl 0 (by decide) (hts _ wd_169) (fun _ h9 => h9) rfl d_RD_nameThing_63 ?_
  obtain ⟨q35, e34, h⟩ := xb h
  refine xk_v (xrunV (As := []) (rest := []) ⟨hx, hb, hml, hown, hts⟩ (c_WO_next l hq D lay cA adK adV s0 q33 q35 e34) (cwV 0 hts (xT_V wd_522 wd_285 wd_286 wd_2 wd_287) rfl rfl rfl (by decide +kernel) ⟨Nat.le_of_ble_eq_true rfl, Nat.le_of_ble_eq_true rfl⟩) (xpV E hP hS (by decide) (xc_2 _ _ _ _) rfl) rfl rfl hl.1 rfl (lv_room (Nat.le_of_ble_eq_true rfl)) d_RD_nameThing_66 ⟨Nat.le_of_ble_eq_true rfl, Nat.le_of_ble_eq_true rfl⟩) hS hnh hlk (fun S9 e9 => by subst e9; exact (Option.some.inj h).symm) (fun v36 S37 w38 H locs hP hS => ?_)
  subst w38
  dsimp only [xT2] at h
  refine lv_aload_n hx hb d_RD_nameThing_69 rfl (lv_at hl 1 rfl) ?_
  have h9 := Option.some.inj h
  subst h9
  exact xret (W.aret (v := .ref (lay a3)) hx hb hr (Or.inl ⟨_, rfl⟩) (Or.inr ⟨_, rfl⟩) (fun t ht hW => ⟨_, rfl, ⟨⟨a3, S37, rfl, rfl, by show va_P D xcl _ t.heap; rw [ht]; exact hP⟩, hS.F ht⟩⟩) hS.2.2 d_RD_nameThing_70)
def f_RD_nameThing_29 (S : XS) (a1 : Nat) (a3 : Nat) : Option ((Nat × XS) ⊕ XS) :=
  (f_WO_expectName S).bind (xT2 fun v19 S20 => if xP a1 then ((f_PA_hasThing S20 a1 v19).bind fun q24 => if q24 = 0 then (f_RD_nameThing_55 S20 a3 v19) else ((f_WO_fail S20 (3 : Int32)).bind (xT2 fun _ S28 => f_RD_nameThing_55 S28 a3 v19))) else none)
set_option maxHeartbeats 4000000 in
set_option maxRecDepth 100000 in
theorem k_RD_nameThing_29 (l : Launch) (hq : l.stackTraces = false) {p : Program} {e : Env} {s : State} {m : MethodId} {args : Array Value} {below : List Frame} {meth : Method} {c : Code} {D : va_G} {lay : Nat → Nat} {cA : Nat → ClassId} {adK adV : Nat → Nat} {s0 : State} (C : xB p s m args meth c R_RD b_RD_nameThing ((Option.some (Jvm.ClassFile.FieldType.object "ConfigTexts$Rows"))) 6) (E : xE D lay cA adK adV s0 s s.heap) : ∀ (S : XS) (a1 : Nat) (a3 : Nat) (r : (Nat × XS) ⊕ XS) (_ : f_RD_nameThing_29 S a1 a3 = some r) (H : Heap) (locs : List Loc) (ls : Array Slot), va_P D xcl (xw lay cA S) H → va_S (xI lay) s.heap H locs → lv_has ls 6 [(0, .ref (lay 179)), (1, .ref (lay a1)), (3, .ref (lay a3))] → W p l e rm_RD_nameThing s m args below meth c H locs 0 0 (XF below (xrr D lay cA r) (xrt D lay cA r) s 0 0 1 6 (xI lay)) (F0 m 29 ls []) := by
  obtain ⟨hx, hb, hr, hml, hown, hts, hlk, hnh⟩ := id C
  have hK := E.K
  intro S a1 a3 r h H locs ls hP hS hl
  unfold f_RD_nameThing_29 at h
  refine lv_aload_n hx hb d_RD_nameThing_29 rfl (lv_at hl 0 rfl) ?_
  refine va_get (v := .ref (lay 2)) (C := R_RD) (T := F_RD) (N := 4) hx hb hts i_RD hown hK hP 179 (xw_at (by decide) (xc_179 _ _ _ _)) rfl 0 (by decide) (hts _ wd_169) (fun _ h9 => h9) rfl d_RD_nameThing_30 ?_
  obtain ⟨q18, e17, h⟩ := xb h
  refine xk_l (xrunV (As := []) (rest := []) ⟨hx, hb, hml, hown, hts⟩ (c_WO_expectName l hq D lay cA adK adV s0 S q18 e17) (cwV 0 hts (xT_V wd_503 wd_504 wd_505 wd_2 wd_506) rfl rfl rfl (by decide +kernel) ⟨Nat.le_of_ble_eq_true rfl, Nat.le_of_ble_eq_true rfl⟩) (xpV E hP hS (by decide) (xc_2 _ _ _ _) rfl) rfl rfl hl.1 rfl (lv_room (Nat.le_of_ble_eq_true rfl)) d_RD_nameThing_33 ⟨Nat.le_of_ble_eq_true rfl, Nat.le_of_ble_eq_true rfl⟩) hS hnh hlk (fun S9 e9 => by subst e9; exact (Option.some.inj h).symm) (fun v19 S20 w21 H locs hP hS => ?_)
  subst w21
  dsimp only [xT2] at h
  refine lv_lstore (lv' := [(4, .long v19), (0, .ref (lay 179)), (1, .ref (lay a1)), (3, .ref (lay a3))]) hx hb d_RD_nameThing_36 hl (by decide) rfl (fun ls hl => ?_)
  refine lv_aload_n hx hb d_RD_nameThing_38 rfl (lv_at hl 2 rfl) ?_
  refine lv_lload hx hb d_RD_nameThing_39 (lv_at hl 0 rfl) ?_
  obtain ⟨hk22, h⟩ := xg h
  obtain ⟨q24, e23, h⟩ := xb h
  refine xc_i (va_runV (As := [.long v19]) (rest := []) ⟨hx, hb, hml, hown, hts⟩ (c_PA_hasThing l D lay cA adK adV s0 S20 a1 v19 q24 e23) (cwV 1 hts (xT_V wd_551 wd_552 wd_553 wd_4 wd_554) rfl rfl rfl (by decide +kernel) ⟨Nat.le_of_ble_eq_true rfl, Nat.le_of_ble_eq_true rfl⟩) (xpV E hP hS (xP_lt hk22).1 (xc_PA _ _ _ _ hk22) rfl) rfl rfl hl.1 rfl (lv_room (Nat.le_of_ble_eq_true rfl)) d_RD_nameThing_41 ⟨Nat.le_of_ble_eq_true rfl, Nat.le_of_ble_eq_true rfl⟩) hS (fun H locs hP hS => ?_)
  refine lv_if_eq (tgt := 55) hx hb d_RD_nameThing_44 (by decide) (fun c_30 => ?_) (fun c_30 => ?_)
  · have h := xif_t c_30 h
    exact k_RD_nameThing_55 l hq C E S20 a3 v19 _ h H locs ls hP hS (lv_sub hl [1, 3, 0] rfl)
  · have h := xif_f c_30 h
    refine lv_aload_n hx hb d_RD_nameThing_47 rfl (lv_at hl 1 rfl) ?_
    refine va_get (v := .ref (lay 2)) (C := R_RD) (T := F_RD) (N := 4) hx hb hts i_RD hown hK hP 179 (xw_at (by decide) (xc_179 _ _ _ _)) rfl 0 (by decide) (hts _ wd_169) (fun _ h9 => h9) rfl d_RD_nameThing_48 ?_
    refine lv_iconst (v := (3 : Int32)) hx hb d_RD_nameThing_51 (by decide) ?_
    obtain ⟨q26, e25, h⟩ := xb h
    refine xk_v (xrunV (As := [.int (3 : Int32)]) (rest := []) ⟨hx, hb, hml, hown, hts⟩ (c_WO_fail l hq D lay cA adK adV s0 S20 (3 : Int32) q26 e25) (cwV 1 hts (xT_V wd_502 wd_386 wd_387 wd_2 wd_388) rfl rfl rfl (by decide +kernel) ⟨Nat.le_of_ble_eq_true rfl, Nat.le_of_ble_eq_true rfl⟩) (xpV E hP hS (by decide) (xc_2 _ _ _ _) rfl) rfl rfl hl.1 rfl (lv_room (Nat.le_of_ble_eq_true rfl)) d_RD_nameThing_52 ⟨Nat.le_of_ble_eq_true rfl, Nat.le_of_ble_eq_true rfl⟩) hS hnh hlk (fun S9 e9 => by subst e9; exact (Option.some.inj h).symm) (fun v27 S28 w29 H locs hP hS => ?_)
    subst w29
    dsimp only [xT2] at h
    exact k_RD_nameThing_55 l hq C E S28 a3 v19 _ h H locs ls hP hS (lv_sub hl [1, 3, 0] rfl)
def f_RD_nameThing (S : XS) (a1 : Nat) (a2 : Int32) : Option ((Nat × XS) ⊕ XS) :=
  if xP a1 then (if ¬ (a2 < 0 ∨ 6 ≤ a2.toNatClampNeg) then ((f_WO_next S).bind (xT2 fun _ S6 => if xR (a1 + 2 + 1 + 3 * a2.toNatClampNeg) then ((f_RO_isFull S6 (a1 + 2 + 1 + 3 * a2.toNatClampNeg)).bind fun q10 => if q10 = 0 then (f_RD_nameThing_29 S6 a1 (a1 + 2 + 1 + 3 * a2.toNatClampNeg)) else ((f_WO_fail S6 (4 : Int32)).bind (xT2 fun _ S14 => f_RD_nameThing_29 S14 a1 (a1 + 2 + 1 + 3 * a2.toNatClampNeg)))) else none)) else none) else none
set_option maxHeartbeats 4000000 in
set_option maxRecDepth 100000 in
theorem k_RD_nameThing (l : Launch) (hq : l.stackTraces = false) {p : Program} {e : Env} {s : State} {m : MethodId} {args : Array Value} {below : List Frame} {meth : Method} {c : Code} {D : va_G} {lay : Nat → Nat} {cA : Nat → ClassId} {adK adV : Nat → Nat} {s0 : State} (C : xB p s m args meth c R_RD b_RD_nameThing ((Option.some (Jvm.ClassFile.FieldType.object "ConfigTexts$Rows"))) 6) (E : xE D lay cA adK adV s0 s s.heap) : ∀ (S : XS) (a1 : Nat) (a2 : Int32) (r : (Nat × XS) ⊕ XS) (_ : f_RD_nameThing S a1 a2 = some r) (H : Heap) (locs : List Loc) (ls : Array Slot), va_P D xcl (xw lay cA S) H → va_S (xI lay) s.heap H locs → lv_has ls 6 [(0, .ref (lay 179)), (1, .ref (lay a1)), (2, .int a2)] → W p l e rm_RD_nameThing s m args below meth c H locs 0 0 (XF below (xrr D lay cA r) (xrt D lay cA r) s 0 0 1 6 (xI lay)) (F0 m 0 ls []) := by
  obtain ⟨hx, hb, hr, hml, hown, hts, hlk, hnh⟩ := id C
  have hK := E.K
  intro S a1 a2 r h H locs ls hP hS hl
  unfold f_RD_nameThing at h
  refine lv_aload_n hx hb d_RD_nameThing_0 rfl (lv_at hl 1 rfl) ?_
  obtain ⟨hk1, h⟩ := xg h
  refine va_getN (v := .ref (lay (a1 + 2))) (C := R_PA) (T := F_PA) (N := 5) hx hb hts i_PA hown hK hP a1 (xw_at (xP_lt hk1).1 (xc_PA _ _ _ _ hk1)) rfl 4 (by decide) (E.nest wn_117) (fun _ h9 => h9) rfl d_RD_nameThing_1 ?_
  refine lv_iload_n hx hb d_RD_nameThing_4 rfl (lv_at hl 2 rfl) ?_
  obtain ⟨hg2, h⟩ := xg h
  refine xal_PAT hx hb E hP hk1 hg2 d_RD_nameThing_5 ?_
  refine lv_astore_n (lv' := [(3, .ref (lay (a1 + 2 + 1 + 3 * a2.toNatClampNeg))), (0, .ref (lay 179)), (1, .ref (lay a1)), (2, .int a2)]) hx hb d_RD_nameThing_6 rfl hl (by decide) rfl (fun ls hl => ?_)
  refine lv_aload_n hx hb d_RD_nameThing_7 rfl (lv_at hl 1 rfl) ?_
  refine va_get (v := .ref (lay 2)) (C := R_RD) (T := F_RD) (N := 4) hx hb hts i_RD hown hK hP 179 (xw_at (by decide) (xc_179 _ _ _ _)) rfl 0 (by decide) (hts _ wd_169) (fun _ h9 => h9) rfl d_RD_nameThing_8 ?_
  obtain ⟨q4, e3, h⟩ := xb h
  refine xk_v (xrunV (As := []) (rest := []) ⟨hx, hb, hml, hown, hts⟩ (c_WO_next l hq D lay cA adK adV s0 S q4 e3) (cwV 0 hts (xT_V wd_522 wd_285 wd_286 wd_2 wd_287) rfl rfl rfl (by decide +kernel) ⟨Nat.le_of_ble_eq_true rfl, Nat.le_of_ble_eq_true rfl⟩) (xpV E hP hS (by decide) (xc_2 _ _ _ _) rfl) rfl rfl hl.1 rfl (lv_room (Nat.le_of_ble_eq_true rfl)) d_RD_nameThing_11 ⟨Nat.le_of_ble_eq_true rfl, Nat.le_of_ble_eq_true rfl⟩) hS hnh hlk (fun S9 e9 => by subst e9; exact (Option.some.inj h).symm) (fun v5 S6 w7 H locs hP hS => ?_)
  subst w7
  dsimp only [xT2] at h
  refine lv_aload_n hx hb d_RD_nameThing_14 rfl (lv_at hl 0 rfl) ?_
  obtain ⟨hk8, h⟩ := xg h
  obtain ⟨q10, e9, h⟩ := xb h
  refine xc_i (va_runV (As := []) (rest := []) ⟨hx, hb, hml, hown, hts⟩ (c_RO_isFull l D lay cA adK adV s0 S6 (a1 + 2 + 1 + 3 * a2.toNatClampNeg) q10 e9) (cwV 0 hts (xT_V wd_547 wd_548 wd_549 wd_5 wd_550) rfl rfl rfl (by decide +kernel) ⟨Nat.le_of_ble_eq_true rfl, Nat.le_of_ble_eq_true rfl⟩) (xpV E hP hS (xR_lt hk8).1 (xc_RO _ _ _ _ hk8) rfl) rfl rfl hl.1 rfl (lv_room (Nat.le_of_ble_eq_true rfl)) d_RD_nameThing_15 ⟨Nat.le_of_ble_eq_true rfl, Nat.le_of_ble_eq_true rfl⟩) hS (fun H locs hP hS => ?_)
  refine lv_if_eq (tgt := 29) hx hb d_RD_nameThing_18 (by decide) (fun c_16 => ?_) (fun c_16 => ?_)
  · have h := xif_t c_16 h
    exact k_RD_nameThing_29 l hq C E S6 a1 (a1 + 2 + 1 + 3 * a2.toNatClampNeg) _ h H locs ls hP hS (lv_sub hl [1, 2, 0] rfl)
  · have h := xif_f c_16 h
    refine lv_aload_n hx hb d_RD_nameThing_21 rfl (lv_at hl 1 rfl) ?_
    refine va_get (v := .ref (lay 2)) (C := R_RD) (T := F_RD) (N := 4) hx hb hts i_RD hown hK hP 179 (xw_at (by decide) (xc_179 _ _ _ _)) rfl 0 (by decide) (hts _ wd_169) (fun _ h9 => h9) rfl d_RD_nameThing_22 ?_
    refine lv_iconst (v := (4 : Int32)) hx hb d_RD_nameThing_25 (by decide) ?_
    obtain ⟨q12, e11, h⟩ := xb h
    refine xk_v (xrunV (As := [.int (4 : Int32)]) (rest := []) ⟨hx, hb, hml, hown, hts⟩ (c_WO_fail l hq D lay cA adK adV s0 S6 (4 : Int32) q12 e11) (cwV 1 hts (xT_V wd_502 wd_386 wd_387 wd_2 wd_388) rfl rfl rfl (by decide +kernel) ⟨Nat.le_of_ble_eq_true rfl, Nat.le_of_ble_eq_true rfl⟩) (xpV E hP hS (by decide) (xc_2 _ _ _ _) rfl) rfl rfl hl.1 rfl (lv_room (Nat.le_of_ble_eq_true rfl)) d_RD_nameThing_26 ⟨Nat.le_of_ble_eq_true rfl, Nat.le_of_ble_eq_true rfl⟩) hS hnh hlk (fun S9 e9 => by subst e9; exact (Option.some.inj h).symm) (fun v13 S14 w15 H locs hP hS => ?_)
    subst w15
    dsimp only [xT2] at h
    exact k_RD_nameThing_29 l hq C E S14 a1 (a1 + 2 + 1 + 3 * a2.toNatClampNeg) _ h H locs ls hP hS (lv_sub hl [1, 2, 0] rfl)
theorem c_RD_nameThing (l : Launch) (hq : l.stackTraces = false) (D : va_G) (lay : Nat → Nat) (cA : Nat → ClassId) (adK adV : Nat → Nat) (s0 : State) (S : XS) (a1 : Nat) (a2 : Int32) (r : (Nat × XS) ⊕ XS) (h : f_RD_nameThing S a1 a2 = some r) : MetX l y_RD_nameThing (.code y_RD_nameThing b_RD_nameThing 6 ((Option.some (Jvm.ClassFile.FieldType.object "ConfigTexts$Rows"))) :: xT) rm_RD_nameThing (xPc D lay cA adK adV s0 S [.ref (lay 179), .ref (lay a1), .int a2]) (xrr D lay cA r) (xrt D lay cA r) 0 0 1 6 (xI lay) := by
  refine MetX.ofW (cc := b_RD_nameThing) (maxL := 6) (ret := (Option.some (Jvm.ClassFile.FieldType.object "ConfigTexts$Rows"))) (by decide +kernel) rfl ?_
  intro p e s m args below meth c s₁ B hml hv
  obtain ⟨rfl, hP, E⟩ := hv
  have C := xB_of B hml
  have hl := lv_entry ([.ref (lay 179), .ref (lay a1), .int a2]) (n := 6) (Nat.le_of_ble_eq_true rfl)
  rw [lg_entry_eq]
  generalize (lg_sl ([.ref (lay 179), .ref (lay a1), .int a2]) ++ List.replicate (6 - (lg_sl ([.ref (lay 179), .ref (lay a1), .int a2])).length) Slot.unset).toArray = ls at hl ⊢
  exact k_RD_nameThing l hq C E S a1 a2 r h s.heap [] ls hP va_S.rf hl
/-! ConfigTexts$Reader.readProcess(LConfigTexts$Partition;)V -/
def rm_RD_readProcess : Room := { frames := 10, cells := 1, slots := 6, locals := 190 }
theorem d_RD_readProcess_0 : decode b_RD_readProcess 0 = .ok (.aload_n 0, 1) := by decide +kernel
theorem d_RD_readProcess_1 : decode b_RD_readProcess 1 = .ok (.aload_n 1, 1) := by decide +kernel
theorem d_RD_readProcess_2 : decode b_RD_readProcess 2 = .ok (.iconst 0, 1) := by decide +kernel
theorem d_RD_readProcess_3 : decode b_RD_readProcess 3 = .ok (.invokevirtual 76, 3) := by decide +kernel
theorem d_RD_readProcess_6 : decode b_RD_readProcess 6 = .ok (.astore_n 2, 1) := by decide +kernel
theorem d_RD_readProcess_7 : decode b_RD_readProcess 7 = .ok (.aload_n 0, 1) := by decide +kernel
theorem d_RD_readProcess_8 : decode b_RD_readProcess 8 = .ok (.getfield 9, 3) := by decide +kernel
theorem d_RD_readProcess_11 : decode b_RD_readProcess 11 = .ok (.ldc 117, 2) := by decide +kernel
theorem d_RD_readProcess_13 : decode b_RD_readProcess 13 = .ok (.invokevirtual 82, 3) := by decide +kernel
theorem d_RD_readProcess_16 : decode b_RD_readProcess 16 = .ok (.aload_n 2, 1) := by decide +kernel
theorem d_RD_readProcess_17 : decode b_RD_readProcess 17 = .ok (.iconst 0, 1) := by decide +kernel
theorem d_RD_readProcess_18 : decode b_RD_readProcess 18 = .ok (.aload_n 0, 1) := by decide +kernel
theorem d_RD_readProcess_19 : decode b_RD_readProcess 19 = .ok (.ldc 145, 2) := by decide +kernel
theorem d_RD_readProcess_21 : decode b_RD_readProcess 21 = .ok (.iconst 0, 1) := by decide +kernel
theorem d_RD_readProcess_22 : decode b_RD_readProcess 22 = .ok (.aload_n 1, 1) := by decide +kernel
theorem d_RD_readProcess_23 : decode b_RD_readProcess 23 = .ok (.getfield 45, 3) := by decide +kernel
theorem d_RD_readProcess_26 : decode b_RD_readProcess 26 = .ok (.iconst 1, 1) := by decide +kernel
theorem d_RD_readProcess_27 : decode b_RD_readProcess 27 = .ok (.isub, 1) := by decide +kernel
theorem d_RD_readProcess_28 : decode b_RD_readProcess 28 = .ok (.iconst 4, 1) := by decide +kernel
theorem d_RD_readProcess_29 : decode b_RD_readProcess 29 = .ok (.invokevirtual 41, 3) := by decide +kernel
theorem d_RD_readProcess_32 : decode b_RD_readProcess 32 = .ok (.invokevirtual 147, 3) := by decide +kernel
theorem d_RD_readProcess_35 : decode b_RD_readProcess 35 = .ok (.aload_n 2, 1) := by decide +kernel
theorem d_RD_readProcess_36 : decode b_RD_readProcess 36 = .ok (.iconst 1, 1) := by decide +kernel
theorem d_RD_readProcess_37 : decode b_RD_readProcess 37 = .ok (.aload_n 0, 1) := by decide +kernel
theorem d_RD_readProcess_38 : decode b_RD_readProcess 38 = .ok (.ldc 150, 2) := by decide +kernel
theorem d_RD_readProcess_40 : decode b_RD_readProcess 40 = .ok (.iconst 0, 1) := by decide +kernel
theorem d_RD_readProcess_41 : decode b_RD_readProcess 41 = .ok (.bipush 15, 2) := by decide +kernel
theorem d_RD_readProcess_43 : decode b_RD_readProcess 43 = .ok (.iconst 1, 1) := by decide +kernel
theorem d_RD_readProcess_44 : decode b_RD_readProcess 44 = .ok (.invokevirtual 41, 3) := by decide +kernel
theorem d_RD_readProcess_47 : decode b_RD_readProcess 47 = .ok (.invokevirtual 147, 3) := by decide +kernel
theorem d_RD_readProcess_50 : decode b_RD_readProcess 50 = .ok (.aload_n 0, 1) := by decide +kernel
theorem d_RD_readProcess_51 : decode b_RD_readProcess 51 = .ok (.getfield 9, 3) := by decide +kernel
theorem d_RD_readProcess_54 : decode b_RD_readProcess 54 = .ok (.ldc 152, 2) := by decide +kernel
theorem d_RD_readProcess_56 : decode b_RD_readProcess 56 = .ok (.invokevirtual 51, 3) := by decide +kernel
theorem d_RD_readProcess_59 : decode b_RD_readProcess 59 = .ok (.ifCond .eq 18, 3) := by decide +kernel
theorem d_RD_readProcess_62 : decode b_RD_readProcess 62 = .ok (.aload_n 2, 1) := by decide +kernel
theorem d_RD_readProcess_63 : decode b_RD_readProcess 63 = .ok (.iconst 2, 1) := by decide +kernel
theorem d_RD_readProcess_64 : decode b_RD_readProcess 64 = .ok (.aload_n 0, 1) := by decide +kernel
theorem d_RD_readProcess_65 : decode b_RD_readProcess 65 = .ok (.ldc 152, 2) := by decide +kernel
theorem d_RD_readProcess_67 : decode b_RD_readProcess 67 = .ok (.iconst 1, 1) := by decide +kernel
theorem d_RD_readProcess_68 : decode b_RD_readProcess 68 = .ok (.ldc 154, 2) := by decide +kernel
theorem d_RD_readProcess_70 : decode b_RD_readProcess 70 = .ok (.iconst 1, 1) := by decide +kernel
theorem d_RD_readProcess_71 : decode b_RD_readProcess 71 = .ok (.invokevirtual 41, 3) := by decide +kernel
theorem d_RD_readProcess_74 : decode b_RD_readProcess 74 = .ok (.invokevirtual 147, 3) := by decide +kernel
theorem d_RD_readProcess_77 : decode b_RD_readProcess 77 = .ok (.aload_n 0, 1) := by decide +kernel
theorem d_RD_readProcess_78 : decode b_RD_readProcess 78 = .ok (.getfield 9, 3) := by decide +kernel
theorem d_RD_readProcess_81 : decode b_RD_readProcess 81 = .ok (.ldc 155, 2) := by decide +kernel
theorem d_RD_readProcess_83 : decode b_RD_readProcess 83 = .ok (.invokevirtual 51, 3) := by decide +kernel
theorem d_RD_readProcess_86 : decode b_RD_readProcess 86 = .ok (.ifCond .eq 18, 3) := by decide +kernel
theorem d_RD_readProcess_89 : decode b_RD_readProcess 89 = .ok (.aload_n 2, 1) := by decide +kernel
theorem d_RD_readProcess_90 : decode b_RD_readProcess 90 = .ok (.iconst 3, 1) := by decide +kernel
theorem d_RD_readProcess_91 : decode b_RD_readProcess 91 = .ok (.aload_n 0, 1) := by decide +kernel
theorem d_RD_readProcess_92 : decode b_RD_readProcess 92 = .ok (.ldc 155, 2) := by decide +kernel
theorem d_RD_readProcess_94 : decode b_RD_readProcess 94 = .ok (.iconst 1, 1) := by decide +kernel
theorem d_RD_readProcess_95 : decode b_RD_readProcess 95 = .ok (.ldc 154, 2) := by decide +kernel
theorem d_RD_readProcess_97 : decode b_RD_readProcess 97 = .ok (.iconst 1, 1) := by decide +kernel
theorem d_RD_readProcess_98 : decode b_RD_readProcess 98 = .ok (.invokevirtual 41, 3) := by decide +kernel
theorem d_RD_readProcess_101 : decode b_RD_readProcess 101 = .ok (.invokevirtual 147, 3) := by decide +kernel
theorem d_RD_readProcess_104 : decode b_RD_readProcess 104 = .ok (.aload_n 0, 1) := by decide +kernel
theorem d_RD_readProcess_105 : decode b_RD_readProcess 105 = .ok (.getfield 9, 3) := by decide +kernel
theorem d_RD_readProcess_108 : decode b_RD_readProcess 108 = .ok (.ldc 157, 2) := by decide +kernel
theorem d_RD_readProcess_110 : decode b_RD_readProcess 110 = .ok (.invokevirtual 51, 3) := by decide +kernel
theorem d_RD_readProcess_113 : decode b_RD_readProcess 113 = .ok (.ifCond .eq 46, 3) := by decide +kernel
theorem d_RD_readProcess_116 : decode b_RD_readProcess 116 = .ok (.aload_n 1, 1) := by decide +kernel
theorem d_RD_readProcess_117 : decode b_RD_readProcess 117 = .ok (.getfield 119, 3) := by decide +kernel
theorem d_RD_readProcess_120 : decode b_RD_readProcess 120 = .ok (.iconst (-1), 1) := by decide +kernel
theorem d_RD_readProcess_121 : decode b_RD_readProcess 121 = .ok (.if_icmp .eq 12, 3) := by decide +kernel
theorem d_RD_readProcess_124 : decode b_RD_readProcess 124 = .ok (.aload_n 0, 1) := by decide +kernel
theorem d_RD_readProcess_125 : decode b_RD_readProcess 125 = .ok (.getfield 9, 3) := by decide +kernel
theorem d_RD_readProcess_128 : decode b_RD_readProcess 128 = .ok (.bipush 7, 2) := by decide +kernel
theorem d_RD_readProcess_130 : decode b_RD_readProcess 130 = .ok (.invokevirtual 98, 3) := by decide +kernel
theorem d_RD_readProcess_133 : decode b_RD_readProcess 133 = .ok (.aload_n 1, 1) := by decide +kernel
theorem d_RD_readProcess_134 : decode b_RD_readProcess 134 = .ok (.aload_n 2, 1) := by decide +kernel
theorem d_RD_readProcess_135 : decode b_RD_readProcess 135 = .ok (.getfield 158, 3) := by decide +kernel
theorem d_RD_readProcess_138 : decode b_RD_readProcess 138 = .ok (.iconst 1, 1) := by decide +kernel
theorem d_RD_readProcess_139 : decode b_RD_readProcess 139 = .ok (.isub, 1) := by decide +kernel
theorem d_RD_readProcess_140 : decode b_RD_readProcess 140 = .ok (.putfield 119, 3) := by decide +kernel
theorem d_RD_readProcess_143 : decode b_RD_readProcess 143 = .ok (.aload_n 0, 1) := by decide +kernel
theorem d_RD_readProcess_144 : decode b_RD_readProcess 144 = .ok (.getfield 9, 3) := by decide +kernel
theorem d_RD_readProcess_147 : decode b_RD_readProcess 147 = .ok (.invokevirtual 114, 3) := by decide +kernel
theorem d_RD_readProcess_150 : decode b_RD_readProcess 150 = .ok (.aload_n 0, 1) := by decide +kernel
theorem d_RD_readProcess_151 : decode b_RD_readProcess 151 = .ok (.getfield 9, 3) := by decide +kernel
theorem d_RD_readProcess_154 : decode b_RD_readProcess 154 = .ok (.ldc 80, 2) := by decide +kernel
theorem d_RD_readProcess_156 : decode b_RD_readProcess 156 = .ok (.invokevirtual 82, 3) := by decide +kernel
theorem d_RD_readProcess_159 : decode b_RD_readProcess 159 = .ok (.aload_n 0, 1) := by decide +kernel
theorem d_RD_readProcess_160 : decode b_RD_readProcess 160 = .ok (.getfield 9, 3) := by decide +kernel
theorem d_RD_readProcess_163 : decode b_RD_readProcess 163 = .ok (.ldc 161, 2) := by decide +kernel
theorem d_RD_readProcess_165 : decode b_RD_readProcess 165 = .ok (.invokevirtual 51, 3) := by decide +kernel
theorem d_RD_readProcess_168 : decode b_RD_readProcess 168 = .ok (.ifCond .eq 25, 3) := by decide +kernel
theorem d_RD_readProcess_171 : decode b_RD_readProcess 171 = .ok (.aload_n 2, 1) := by decide +kernel
theorem d_RD_readProcess_172 : decode b_RD_readProcess 172 = .ok (.iconst 4, 1) := by decide +kernel
theorem d_RD_readProcess_173 : decode b_RD_readProcess 173 = .ok (.iconst 1, 1) := by decide +kernel
theorem d_RD_readProcess_174 : decode b_RD_readProcess 174 = .ok (.invokevirtual 147, 3) := by decide +kernel
theorem d_RD_readProcess_177 : decode b_RD_readProcess 177 = .ok (.aload_n 0, 1) := by decide +kernel
theorem d_RD_readProcess_178 : decode b_RD_readProcess 178 = .ok (.getfield 9, 3) := by decide +kernel
theorem d_RD_readProcess_181 : decode b_RD_readProcess 181 = .ok (.invokevirtual 114, 3) := by decide +kernel
theorem d_RD_readProcess_184 : decode b_RD_readProcess 184 = .ok (.aload_n 0, 1) := by decide +kernel
theorem d_RD_readProcess_185 : decode b_RD_readProcess 185 = .ok (.getfield 9, 3) := by decide +kernel
theorem d_RD_readProcess_188 : decode b_RD_readProcess 188 = .ok (.ldc 80, 2) := by decide +kernel
theorem d_RD_readProcess_190 : decode b_RD_readProcess 190 = .ok (.invokevirtual 82, 3) := by decide +kernel
theorem d_RD_readProcess_193 : decode b_RD_readProcess 193 = .ok (.aload_n 0, 1) := by decide +kernel
theorem d_RD_readProcess_194 : decode b_RD_readProcess 194 = .ok (.getfield 9, 3) := by decide +kernel
theorem d_RD_readProcess_197 : decode b_RD_readProcess 197 = .ok (.ldc 49, 2) := by decide +kernel
theorem d_RD_readProcess_199 : decode b_RD_readProcess 199 = .ok (.invokevirtual 82, 3) := by decide +kernel
theorem d_RD_readProcess_202 : decode b_RD_readProcess 202 = .ok (.return_, 1) := by decide +kernel
def f_RD_readProcess_159 (S : XS) (a2 : Nat) : Option ((Unit × XS) ⊕ XS) :=
  (f_WO_is S 14).bind fun q59 => if q59 = 0 then ((f_WO_expect S 7).bind (xT2 fun _ S63 => some (.inl ((), S63)))) else (if xR a2 then ((f_RO_setLast S a2 (4 : Int32) (1 : Int32)).bind fun q67 => (f_WO_next q67).bind (xT2 fun _ S71 => (f_WO_expect S71 6).bind (xT2 fun _ S76 => (f_WO_expect S76 7).bind (xT2 fun _ S81 => some (.inl ((), S81)))))) else none)
set_option maxHeartbeats 4000000 in
set_option maxRecDepth 100000 in
theorem k_RD_readProcess_159 (l : Launch) (hq : l.stackTraces = false) {p : Program} {e : Env} {s : State} {m : MethodId} {args : Array Value} {below : List Frame} {meth : Method} {c : Code} {D : va_G} {lay : Nat → Nat} {cA : Nat → ClassId} {adK adV : Nat → Nat} {s0 : State} (C : xB p s m args meth c R_RD b_RD_readProcess ((Option.none : Option Jvm.ClassFile.FieldType)) 3) (E : xE D lay cA adK adV s0 s s.heap) : ∀ (S : XS) (a2 : Nat) (r : (Unit × XS) ⊕ XS) (_ : f_RD_readProcess_159 S a2 = some r) (H : Heap) (locs : List Loc) (ls : Array Slot), va_P D xcl (xw lay cA S) H → va_S (xI lay) s.heap H locs → lv_has ls 3 [(0, .ref (lay 179)), (2, .ref (lay a2))] → W p l e rm_RD_readProcess s m args below meth c H locs 0 0 (XF below (xrv D lay cA r) (xrt D lay cA r) s 0 0 1 6 (xI lay)) (F0 m 159 ls []) := by
  obtain ⟨hx, hb, hr, hml, hown, hts, hlk, hnh⟩ := id C
  have hK := E.K
  intro S a2 r h H locs ls hP hS hl
  unfold f_RD_readProcess_159 at h
  refine lv_aload_n hx hb d_RD_readProcess_159 rfl (lv_at hl 0 rfl) ?_
  refine va_get (v := .ref (lay 2)) (C := R_RD) (T := F_RD) (N := 4) hx hb hts i_RD hown hK hP 179 (xw_at (by decide) (xc_179 _ _ _ _)) rfl 0 (by decide) (hts _ wd_169) (fun _ h9 => h9) rfl d_RD_readProcess_160 ?_
  refine va_ldcS hx hb hown (E.lit (List.mem_of_getElem? (i := 15) rfl : ("ConfigTexts$Reader", 161, "stopped", 14) ∈ xlits)) d_RD_readProcess_163 ?_
  obtain ⟨q59, e58, h⟩ := xb h
  refine xc_i (va_runV (As := [.ref (adK 14)]) (rest := []) ⟨hx, hb, hml, hown, hts⟩ (c_WO_is l D lay cA adK adV s0 S 14 q59 e58) (cwV 1 hts (xT_V wd_536 wd_456 wd_457 wd_2 wd_458) rfl rfl rfl (by decide +kernel) ⟨Nat.le_of_ble_eq_true rfl, Nat.le_of_ble_eq_true rfl⟩) (xpV E hP hS (by decide) (xc_2 _ _ _ _) rfl) rfl rfl hl.1 rfl (lv_room (Nat.le_of_ble_eq_true rfl)) d_RD_readProcess_165 ⟨Nat.le_of_ble_eq_true rfl, Nat.le_of_ble_eq_true rfl⟩) hS (fun H locs hP hS => ?_)
  refine lv_if_eq (tgt := 193) hx hb d_RD_readProcess_168 (by decide) (fun c_83 => ?_) (fun c_83 => ?_)
  · have h := xif_t c_83 h
    refine lv_aload_n hx hb d_RD_readProcess_193 rfl (lv_at hl 0 rfl) ?_
    refine va_get (v := .ref (lay 2)) (C := R_RD) (T := F_RD) (N := 4) hx hb hts i_RD hown hK hP 179 (xw_at (by decide) (xc_179 _ _ _ _)) rfl 0 (by decide) (hts _ wd_169) (fun _ h9 => h9) rfl d_RD_readProcess_194 ?_
    refine va_ldcS hx hb hown (E.lit (List.mem_of_getElem? (i := 8) rfl : ("ConfigTexts$Reader", 49, "}", 7) ∈ xlits)) d_RD_readProcess_197 ?_
    obtain ⟨q61, e60, h⟩ := xb h
    refine xk_v (xrunV (As := [.ref (adK 7)]) (rest := []) ⟨hx, hb, hml, hown, hts⟩ (c_WO_expect l hq D lay cA adK adV s0 S 7 q61 e60) (cwV 1 hts (xT_V wd_493 wd_494 wd_495 wd_2 wd_496) rfl rfl rfl (by decide +kernel) ⟨Nat.le_of_ble_eq_true rfl, Nat.le_of_ble_eq_true rfl⟩) (xpV E hP hS (by decide) (xc_2 _ _ _ _) rfl) rfl rfl hl.1 rfl (lv_room (Nat.le_of_ble_eq_true rfl)) d_RD_readProcess_199 ⟨Nat.le_of_ble_eq_true rfl, Nat.le_of_ble_eq_true rfl⟩) hS hnh hlk (fun S9 e9 => by subst e9; exact (Option.some.inj h).symm) (fun v62 S63 w64 H locs hP hS => ?_)
    subst w64
    dsimp only [xT2] at h
    have h9 := Option.some.inj h
    subst h9
    exact xret (W.vret hx hb hr (fun t ht hW => ⟨_, rfl, ⟨⟨(), S63, rfl, rfl, by show va_P D xcl _ t.heap; rw [ht]; exact hP⟩, hS.F ht⟩⟩) hS.2.2 d_RD_readProcess_202)
  · have h := xif_f c_83 h
    refine lv_aload_n hx hb d_RD_readProcess_171 rfl (lv_at hl 1 rfl) ?_
    refine lv_iconst (v := (4 : Int32)) hx hb d_RD_readProcess_172 (by decide) ?_
    refine lv_iconst (v := (1 : Int32)) hx hb d_RD_readProcess_173 (by decide) ?_
    obtain ⟨hk65, h⟩ := xg h
    obtain ⟨q67, e66, h⟩ := xb h
    refine xc_v (va_runV (As := [.int (4 : Int32), .int (1 : Int32)]) (rest := []) ⟨hx, hb, hml, hown, hts⟩ (c_RO_setLast l D lay cA adK adV s0 S a2 (4 : Int32) (1 : Int32) q67 e66) (cwV 2 hts (xT_V wd_565 wd_566 wd_567 wd_5 wd_568) rfl rfl rfl (by decide +kernel) ⟨Nat.le_of_ble_eq_true rfl, Nat.le_of_ble_eq_true rfl⟩) (xpV E hP hS (xR_lt hk65).1 (xc_RO _ _ _ _ hk65) rfl) rfl rfl hl.1 rfl (lv_room (Nat.le_of_ble_eq_true rfl)) d_RD_readProcess_174 ⟨Nat.le_of_ble_eq_true rfl, Nat.le_of_ble_eq_true rfl⟩) hS (fun H locs hP hS => ?_)
    refine lv_aload_n hx hb d_RD_readProcess_177 rfl (lv_at hl 0 rfl) ?_
    refine va_get (v := .ref (lay 2)) (C := R_RD) (T := F_RD) (N := 4) hx hb hts i_RD hown hK hP 179 (xw_at (by decide) (xc_179 _ _ _ _)) rfl 0 (by decide) (hts _ wd_169) (fun _ h9 => h9) rfl d_RD_readProcess_178 ?_
    obtain ⟨q69, e68, h⟩ := xb h
    refine xk_v (xrunV (As := []) (rest := []) ⟨hx, hb, hml, hown, hts⟩ (c_WO_next l hq D lay cA adK adV s0 q67 q69 e68) (cwV 0 hts (xT_V wd_522 wd_285 wd_286 wd_2 wd_287) rfl rfl rfl (by decide +kernel) ⟨Nat.le_of_ble_eq_true rfl, Nat.le_of_ble_eq_true rfl⟩) (xpV E hP hS (by decide) (xc_2 _ _ _ _) rfl) rfl rfl hl.1 rfl (lv_room (Nat.le_of_ble_eq_true rfl)) d_RD_readProcess_181 ⟨Nat.le_of_ble_eq_true rfl, Nat.le_of_ble_eq_true rfl⟩) hS hnh hlk (fun S9 e9 => by subst e9; exact (Option.some.inj h).symm) (fun v70 S71 w72 H locs hP hS => ?_)
    subst w72
    dsimp only [xT2] at h
    refine lv_aload_n hx hb d_RD_readProcess_184 rfl (lv_at hl 0 rfl) ?_
    refine va_get (v := .ref (lay 2)) (C := R_RD) (T := F_RD) (N := 4) hx hb hts i_RD hown hK hP 179 (xw_at (by decide) (xc_179 _ _ _ _)) rfl 0 (by decide) (hts _ wd_169) (fun _ h9 => h9) rfl d_RD_readProcess_185 ?_
    refine va_ldcS hx hb hown (E.lit (List.mem_of_getElem? (i := 7) rfl : ("ConfigTexts$Reader", 80, ";", 6) ∈ xlits)) d_RD_readProcess_188 ?_
    obtain ⟨q74, e73, h⟩ := xb h
    refine xk_v (xrunV (As := [.ref (adK 6)]) (rest := []) ⟨hx, hb, hml, hown, hts⟩ (c_WO_expect l hq D lay cA adK adV s0 S71 6 q74 e73) (cwV 1 hts (xT_V wd_493 wd_494 wd_495 wd_2 wd_496) rfl rfl rfl (by decide +kernel) ⟨Nat.le_of_ble_eq_true rfl, Nat.le_of_ble_eq_true rfl⟩) (xpV E hP hS (by decide) (xc_2 _ _ _ _) rfl) rfl rfl hl.1 rfl (lv_room (Nat.le_of_ble_eq_true rfl)) d_RD_readProcess_190 ⟨Nat.le_of_ble_eq_true rfl, Nat.le_of_ble_eq_true rfl⟩) hS hnh hlk (fun S9 e9 => by subst e9; exact (Option.some.inj h).symm) (fun v75 S76 w77 H locs hP hS => ?_)
    subst w77
    dsimp only [xT2] at h
    refine lv_aload_n hx hb d_RD_readProcess_193 rfl (lv_at hl 0 rfl) ?_
    refine va_get (v := .ref (lay 2)) (C := R_RD) (T := F_RD) (N := 4) hx hb hts i_RD hown hK hP 179 (xw_at (by decide) (xc_179 _ _ _ _)) rfl 0 (by decide) (hts _ wd_169) (fun _ h9 => h9) rfl d_RD_readProcess_194 ?_
    refine va_ldcS hx hb hown (E.lit (List.mem_of_getElem? (i := 8) rfl : ("ConfigTexts$Reader", 49, "}", 7) ∈ xlits)) d_RD_readProcess_197 ?_
    obtain ⟨q79, e78, h⟩ := xb h
    refine xk_v (xrunV (As := [.ref (adK 7)]) (rest := []) ⟨hx, hb, hml, hown, hts⟩ (c_WO_expect l hq D lay cA adK adV s0 S76 7 q79 e78) (cwV 1 hts (xT_V wd_493 wd_494 wd_495 wd_2 wd_496) rfl rfl rfl (by decide +kernel) ⟨Nat.le_of_ble_eq_true rfl, Nat.le_of_ble_eq_true rfl⟩) (xpV E hP hS (by decide) (xc_2 _ _ _ _) rfl) rfl rfl hl.1 rfl (lv_room (Nat.le_of_ble_eq_true rfl)) d_RD_readProcess_199 ⟨Nat.le_of_ble_eq_true rfl, Nat.le_of_ble_eq_true rfl⟩) hS hnh hlk (fun S9 e9 => by subst e9; exact (Option.some.inj h).symm) (fun v80 S81 w82 H locs hP hS => ?_)
    subst w82
    dsimp only [xT2] at h
    have h9 := Option.some.inj h
    subst h9
    exact xret (W.vret hx hb hr (fun t ht hW => ⟨_, rfl, ⟨⟨(), S81, rfl, rfl, by show va_P D xcl _ t.heap; rw [ht]; exact hP⟩, hS.F ht⟩⟩) hS.2.2 d_RD_readProcess_202)
def f_RD_readProcess_133 (S : XS) (a1 : Nat) (a2 : Nat) : Option ((Unit × XS) ⊕ XS) :=
  if xR a2 then (if xP a1 then ((f_WO_next (xpi S a1 2 ((xgi S a2 4) - (1 : Int32)))).bind (xT2 fun _ S89 => (f_WO_expect S89 6).bind (xT2 fun _ S94 => f_RD_readProcess_159 S94 a2))) else none) else none
set_option maxHeartbeats 4000000 in
set_option maxRecDepth 100000 in
theorem k_RD_readProcess_133 (l : Launch) (hq : l.stackTraces = false) {p : Program} {e : Env} {s : State} {m : MethodId} {args : Array Value} {below : List Frame} {meth : Method} {c : Code} {D : va_G} {lay : Nat → Nat} {cA : Nat → ClassId} {adK adV : Nat → Nat} {s0 : State} (C : xB p s m args meth c R_RD b_RD_readProcess ((Option.none : Option Jvm.ClassFile.FieldType)) 3) (E : xE D lay cA adK adV s0 s s.heap) : ∀ (S : XS) (a1 : Nat) (a2 : Nat) (r : (Unit × XS) ⊕ XS) (_ : f_RD_readProcess_133 S a1 a2 = some r) (H : Heap) (locs : List Loc) (ls : Array Slot), va_P D xcl (xw lay cA S) H → va_S (xI lay) s.heap H locs → lv_has ls 3 [(0, .ref (lay 179)), (1, .ref (lay a1)), (2, .ref (lay a2))] → W p l e rm_RD_readProcess s m args below meth c H locs 0 0 (XF below (xrv D lay cA r) (xrt D lay cA r) s 0 0 1 6 (xI lay)) (F0 m 133 ls []) := by
  obtain ⟨hx, hb, hr, hml, hown, hts, hlk, hnh⟩ := id C
  have hK := E.K
  intro S a1 a2 r h H locs ls hP hS hl
  unfold f_RD_readProcess_133 at h
  refine lv_aload_n hx hb d_RD_readProcess_133 rfl (lv_at hl 1 rfl) ?_
  refine lv_aload_n hx hb d_RD_readProcess_134 rfl (lv_at hl 2 rfl) ?_
  obtain ⟨hk84, h⟩ := xg h
  refine va_getN (v := .int (xgi S a2 4)) (C := R_RO) (T := F_RO) (N := 5) hx hb hts i_RO hown hK hP a2 (xw_at (xR_lt hk84).1 (xc_RO _ _ _ _ hk84)) rfl 4 (by decide) (E.nest wn_95) (fun _ h9 => h9) rfl d_RD_readProcess_135 ?_
  refine lv_iconst (v := (1 : Int32)) hx hb d_RD_readProcess_138 (by decide) ?_
  refine lv_isub hx hb d_RD_readProcess_139 ?_
  obtain ⟨hk85, h⟩ := xg h
  refine xput_PA_2N hx hb hts hown E hP hS hk85 (E.nest wn_114) d_RD_readProcess_140 (fun H locs hP hS => ?_)
  refine lv_aload_n hx hb d_RD_readProcess_143 rfl (lv_at hl 0 rfl) ?_
  refine va_get (v := .ref (lay 2)) (C := R_RD) (T := F_RD) (N := 4) hx hb hts i_RD hown hK hP 179 (xw_at (by decide) (xc_179 _ _ _ _)) rfl 0 (by decide) (hts _ wd_169) (fun _ h9 => h9) rfl d_RD_readProcess_144 ?_
  obtain ⟨q87, e86, h⟩ := xb h
  refine xk_v (xrunV (As := []) (rest := []) ⟨hx, hb, hml, hown, hts⟩ (c_WO_next l hq D lay cA adK adV s0 (xpi S a1 2 ((xgi S a2 4) - (1 : Int32))) q87 e86) (cwV 0 hts (xT_V wd_522 wd_285 wd_286 wd_2 wd_287) rfl rfl rfl (by decide +kernel) ⟨Nat.le_of_ble_eq_true rfl, Nat.le_of_ble_eq_true rfl⟩) (xpV E hP hS (by decide) (xc_2 _ _ _ _) rfl) rfl rfl hl.1 rfl (lv_room (Nat.le_of_ble_eq_true rfl)) d_RD_readProcess_147 ⟨Nat.le_of_ble_eq_true rfl, Nat.le_of_ble_eq_true rfl⟩) hS hnh hlk (fun S9 e9 => by subst e9; exact (Option.some.inj h).symm) (fun v88 S89 w90 H locs hP hS => ?_)
  subst w90
  dsimp only [xT2] at h
  refine lv_aload_n hx hb d_RD_readProcess_150 rfl (lv_at hl 0 rfl) ?_
  refine va_get (v := .ref (lay 2)) (C := R_RD) (T := F_RD) (N := 4) hx hb hts i_RD hown hK hP 179 (xw_at (by decide) (xc_179 _ _ _ _)) rfl 0 (by decide) (hts _ wd_169) (fun _ h9 => h9) rfl d_RD_readProcess_151 ?_
  refine va_ldcS hx hb hown (E.lit (List.mem_of_getElem? (i := 7) rfl : ("ConfigTexts$Reader", 80, ";", 6) ∈ xlits)) d_RD_readProcess_154 ?_
  obtain ⟨q92, e91, h⟩ := xb h
  refine xk_v (xrunV (As := [.ref (adK 6)]) (rest := []) ⟨hx, hb, hml, hown, hts⟩ (c_WO_expect l hq D lay cA adK adV s0 S89 6 q92 e91) (cwV 1 hts (xT_V wd_493 wd_494 wd_495 wd_2 wd_496) rfl rfl rfl (by decide +kernel) ⟨Nat.le_of_ble_eq_true rfl, Nat.le_of_ble_eq_true rfl⟩) (xpV E hP hS (by decide) (xc_2 _ _ _ _) rfl) rfl rfl hl.1 rfl (lv_room (Nat.le_of_ble_eq_true rfl)) d_RD_readProcess_156 ⟨Nat.le_of_ble_eq_true rfl, Nat.le_of_ble_eq_true rfl⟩) hS hnh hlk (fun S9 e9 => by subst e9; exact (Option.some.inj h).symm) (fun v93 S94 w95 H locs hP hS => ?_)
  subst w95
  dsimp only [xT2] at h
  exact k_RD_readProcess_159 l hq C E S94 a2 _ h H locs ls hP hS (lv_sub hl [0, 2] rfl)
def f_RD_readProcess_104 (S : XS) (a1 : Nat) (a2 : Nat) : Option ((Unit × XS) ⊕ XS) :=
  (f_WO_is S 13).bind fun q49 => if q49 = 0 then (f_RD_readProcess_159 S a2) else (if xP a1 then (if (xgi S a1 2) = (-1 : Int32) then (f_RD_readProcess_133 S a1 a2) else ((f_WO_fail S (7 : Int32)).bind (xT2 fun _ S54 => f_RD_readProcess_133 S54 a1 a2))) else none)
set_option maxHeartbeats 4000000 in
set_option maxRecDepth 100000 in
theorem k_RD_readProcess_104 (l : Launch) (hq : l.stackTraces = false) {p : Program} {e : Env} {s : State} {m : MethodId} {args : Array Value} {below : List Frame} {meth : Method} {c : Code} {D : va_G} {lay : Nat → Nat} {cA : Nat → ClassId} {adK adV : Nat → Nat} {s0 : State} (C : xB p s m args meth c R_RD b_RD_readProcess ((Option.none : Option Jvm.ClassFile.FieldType)) 3) (E : xE D lay cA adK adV s0 s s.heap) : ∀ (S : XS) (a1 : Nat) (a2 : Nat) (r : (Unit × XS) ⊕ XS) (_ : f_RD_readProcess_104 S a1 a2 = some r) (H : Heap) (locs : List Loc) (ls : Array Slot), va_P D xcl (xw lay cA S) H → va_S (xI lay) s.heap H locs → lv_has ls 3 [(0, .ref (lay 179)), (1, .ref (lay a1)), (2, .ref (lay a2))] → W p l e rm_RD_readProcess s m args below meth c H locs 0 0 (XF below (xrv D lay cA r) (xrt D lay cA r) s 0 0 1 6 (xI lay)) (F0 m 104 ls []) := by
  obtain ⟨hx, hb, hr, hml, hown, hts, hlk, hnh⟩ := id C
  have hK := E.K
  intro S a1 a2 r h H locs ls hP hS hl
  unfold f_RD_readProcess_104 at h
  refine lv_aload_n hx hb d_RD_readProcess_104 rfl (lv_at hl 0 rfl) ?_
  refine va_get (v := .ref (lay 2)) (C := R_RD) (T := F_RD) (N := 4) hx hb hts i_RD hown hK hP 179 (xw_at (by decide) (xc_179 _ _ _ _)) rfl 0 (by decide) (hts _ wd_169) (fun _ h9 => h9) rfl d_RD_readProcess_105 ?_
  refine va_ldcS hx hb hown (E.lit (List.mem_of_getElem? (i := 14) rfl : ("ConfigTexts$Reader", 157, "handler", 13) ∈ xlits)) d_RD_readProcess_108 ?_
  obtain ⟨q49, e48, h⟩ := xb h
  refine xc_i (va_runV (As := [.ref (adK 13)]) (rest := []) ⟨hx, hb, hml, hown, hts⟩ (c_WO_is l D lay cA adK adV s0 S 13 q49 e48) (cwV 1 hts (xT_V wd_536 wd_456 wd_457 wd_2 wd_458) rfl rfl rfl (by decide +kernel) ⟨Nat.le_of_ble_eq_true rfl, Nat.le_of_ble_eq_true rfl⟩) (xpV E hP hS (by decide) (xc_2 _ _ _ _) rfl) rfl rfl hl.1 rfl (lv_room (Nat.le_of_ble_eq_true rfl)) d_RD_readProcess_110 ⟨Nat.le_of_ble_eq_true rfl, Nat.le_of_ble_eq_true rfl⟩) hS (fun H locs hP hS => ?_)
  refine lv_if_eq (tgt := 159) hx hb d_RD_readProcess_113 (by decide) (fun c_57 => ?_) (fun c_57 => ?_)
  · have h := xif_t c_57 h
    exact k_RD_readProcess_159 l hq C E S a2 _ h H locs ls hP hS (lv_sub hl [0, 2] rfl)
  · have h := xif_f c_57 h
    refine lv_aload_n hx hb d_RD_readProcess_116 rfl (lv_at hl 1 rfl) ?_
    obtain ⟨hk50, h⟩ := xg h
    refine va_getN (v := .int (xgi S a1 2)) (C := R_PA) (T := F_PA) (N := 5) hx hb hts i_PA hown hK hP a1 (xw_at (xP_lt hk50).1 (xc_PA _ _ _ _ hk50)) rfl 2 (by decide) (E.nest wn_114) (fun _ h9 => h9) rfl d_RD_readProcess_117 ?_
    refine lv_iconst (v := (-1 : Int32)) hx hb d_RD_readProcess_120 (by decide) ?_
    refine lv_icmp_eq (tgt := 133) hx hb d_RD_readProcess_121 (by decide) (fun c_56 => ?_) (fun c_56 => ?_)
    · have h := xif_t c_56 h
      exact k_RD_readProcess_133 l hq C E S a1 a2 _ h H locs ls hP hS hl
    · have h := xif_f c_56 h
      refine lv_aload_n hx hb d_RD_readProcess_124 rfl (lv_at hl 0 rfl) ?_
      refine va_get (v := .ref (lay 2)) (C := R_RD) (T := F_RD) (N := 4) hx hb hts i_RD hown hK hP 179 (xw_at (by decide) (xc_179 _ _ _ _)) rfl 0 (by decide) (hts _ wd_169) (fun _ h9 => h9) rfl d_RD_readProcess_125 ?_
      refine lv_bipush (v := (7 : Int32)) hx hb d_RD_readProcess_128 (by decide) ?_
      obtain ⟨q52, e51, h⟩ := xb h
      refine xk_v (xrunV (As := [.int (7 : Int32)]) (rest := []) ⟨hx, hb, hml, hown, hts⟩ (c_WO_fail l hq D lay cA adK adV s0 S (7 : Int32) q52 e51) (cwV 1 hts (xT_V wd_502 wd_386 wd_387 wd_2 wd_388) rfl rfl rfl (by decide +kernel) ⟨Nat.le_of_ble_eq_true rfl, Nat.le_of_ble_eq_true rfl⟩) (xpV E hP hS (by decide) (xc_2 _ _ _ _) rfl) rfl rfl hl.1 rfl (lv_room (Nat.le_of_ble_eq_true rfl)) d_RD_readProcess_130 ⟨Nat.le_of_ble_eq_true rfl, Nat.le_of_ble_eq_true rfl⟩) hS hnh hlk (fun S9 e9 => by subst e9; exact (Option.some.inj h).symm) (fun v53 S54 w55 H locs hP hS => ?_)
      subst w55
      dsimp only [xT2] at h
      exact k_RD_readProcess_133 l hq C E S54 a1 a2 _ h H locs ls hP hS hl
def f_RD_readProcess_77 (S : XS) (a1 : Nat) (a2 : Nat) : Option ((Unit × XS) ⊕ XS) :=
  (f_WO_is S 12).bind fun q38 => if q38 = 0 then (f_RD_readProcess_104 S a1 a2) else ((f_RD_readSetting S 12 (1 : Int32) (100000 : Int32) (1 : Int32)).bind (xT2 fun v41 S42 => if xR a2 then ((f_RO_setLast S42 a2 (3 : Int32) v41).bind fun q46 => f_RD_readProcess_104 q46 a1 a2) else none))
set_option maxHeartbeats 4000000 in
set_option maxRecDepth 100000 in
theorem k_RD_readProcess_77 (l : Launch) (hq : l.stackTraces = false) {p : Program} {e : Env} {s : State} {m : MethodId} {args : Array Value} {below : List Frame} {meth : Method} {c : Code} {D : va_G} {lay : Nat → Nat} {cA : Nat → ClassId} {adK adV : Nat → Nat} {s0 : State} (C : xB p s m args meth c R_RD b_RD_readProcess ((Option.none : Option Jvm.ClassFile.FieldType)) 3) (E : xE D lay cA adK adV s0 s s.heap) : ∀ (S : XS) (a1 : Nat) (a2 : Nat) (r : (Unit × XS) ⊕ XS) (_ : f_RD_readProcess_77 S a1 a2 = some r) (H : Heap) (locs : List Loc) (ls : Array Slot), va_P D xcl (xw lay cA S) H → va_S (xI lay) s.heap H locs → lv_has ls 3 [(0, .ref (lay 179)), (1, .ref (lay a1)), (2, .ref (lay a2))] → W p l e rm_RD_readProcess s m args below meth c H locs 0 0 (XF below (xrv D lay cA r) (xrt D lay cA r) s 0 0 1 6 (xI lay)) (F0 m 77 ls []) := by
  obtain ⟨hx, hb, hr, hml, hown, hts, hlk, hnh⟩ := id C
  have hK := E.K
  intro S a1 a2 r h H locs ls hP hS hl
  unfold f_RD_readProcess_77 at h
  refine lv_aload_n hx hb d_RD_readProcess_77 rfl (lv_at hl 0 rfl) ?_
  refine va_get (v := .ref (lay 2)) (C := R_RD) (T := F_RD) (N := 4) hx hb hts i_RD hown hK hP 179 (xw_at (by decide) (xc_179 _ _ _ _)) rfl 0 (by decide) (hts _ wd_169) (fun _ h9 => h9) rfl d_RD_readProcess_78 ?_
  refine va_ldcS hx hb hown (E.lit (List.mem_of_getElem? (i := 13) rfl : ("ConfigTexts$Reader", 155, "deadline", 12) ∈ xlits)) d_RD_readProcess_81 ?_
  obtain ⟨q38, e37, h⟩ := xb h
  refine xc_i (va_runV (As := [.ref (adK 12)]) (rest := []) ⟨hx, hb, hml, hown, hts⟩ (c_WO_is l D lay cA adK adV s0 S 12 q38 e37) (cwV 1 hts (xT_V wd_536 wd_456 wd_457 wd_2 wd_458) rfl rfl rfl (by decide +kernel) ⟨Nat.le_of_ble_eq_true rfl, Nat.le_of_ble_eq_true rfl⟩) (xpV E hP hS (by decide) (xc_2 _ _ _ _) rfl) rfl rfl hl.1 rfl (lv_room (Nat.le_of_ble_eq_true rfl)) d_RD_readProcess_83 ⟨Nat.le_of_ble_eq_true rfl, Nat.le_of_ble_eq_true rfl⟩) hS (fun H locs hP hS => ?_)
  refine lv_if_eq (tgt := 104) hx hb d_RD_readProcess_86 (by decide) (fun c_47 => ?_) (fun c_47 => ?_)
  · have h := xif_t c_47 h
    exact k_RD_readProcess_104 l hq C E S a1 a2 _ h H locs ls hP hS hl
  · have h := xif_f c_47 h
    refine lv_aload_n hx hb d_RD_readProcess_89 rfl (lv_at hl 2 rfl) ?_
    refine lv_iconst (v := (3 : Int32)) hx hb d_RD_readProcess_90 (by decide) ?_
    refine lv_aload_n hx hb d_RD_readProcess_91 rfl (lv_at hl 0 rfl) ?_
    refine va_ldcS hx hb hown (E.lit (List.mem_of_getElem? (i := 13) rfl : ("ConfigTexts$Reader", 155, "deadline", 12) ∈ xlits)) d_RD_readProcess_92 ?_
    refine lv_iconst (v := (1 : Int32)) hx hb d_RD_readProcess_94 (by decide) ?_
    refine lv_ldc (v := (100000 : Int32)) hx hb hown (hts _ wd_575) d_RD_readProcess_95 ?_
    refine lv_iconst (v := (1 : Int32)) hx hb d_RD_readProcess_97 (by decide) ?_
    obtain ⟨q40, e39, h⟩ := xb h
    refine xk_i (xrunV (As := [.ref (adK 12), .int (1 : Int32), .int (100000 : Int32), .int (1 : Int32)]) (rest := [.int (3 : Int32), .ref (lay a2)]) ⟨hx, hb, hml, hown, hts⟩ (c_RD_readSetting l hq D lay cA adK adV s0 S 12 (1 : Int32) (100000 : Int32) (1 : Int32) q40 e39) (cwV 4 hts (xT_V wd_526 wd_528 wp_7 wd_6 wd_529) rfl rfl rfl (by decide +kernel) ⟨Nat.le_of_ble_eq_true rfl, Nat.le_of_ble_eq_true rfl⟩) (xpV E hP hS (by decide) (xc_179 _ _ _ _) rfl) rfl rfl hl.1 rfl (lv_room (Nat.le_of_ble_eq_true rfl)) d_RD_readProcess_98 ⟨Nat.le_of_ble_eq_true rfl, Nat.le_of_ble_eq_true rfl⟩) hS hnh hlk (fun S9 e9 => by subst e9; exact (Option.some.inj h).symm) (fun v41 S42 w43 H locs hP hS => ?_)
    subst w43
    dsimp only [xT2] at h
    obtain ⟨hk44, h⟩ := xg h
    obtain ⟨q46, e45, h⟩ := xb h
    refine xc_v (va_runV (As := [.int (3 : Int32), .int v41]) (rest := []) ⟨hx, hb, hml, hown, hts⟩ (c_RO_setLast l D lay cA adK adV s0 S42 a2 (3 : Int32) v41 q46 e45) (cwV 2 hts (xT_V wd_565 wd_566 wd_567 wd_5 wd_568) rfl rfl rfl (by decide +kernel) ⟨Nat.le_of_ble_eq_true rfl, Nat.le_of_ble_eq_true rfl⟩) (xpV E hP hS (xR_lt hk44).1 (xc_RO _ _ _ _ hk44) rfl) rfl rfl hl.1 rfl (lv_room (Nat.le_of_ble_eq_true rfl)) d_RD_readProcess_101 ⟨Nat.le_of_ble_eq_true rfl, Nat.le_of_ble_eq_true rfl⟩) hS (fun H locs hP hS => ?_)
    exact k_RD_readProcess_104 l hq C E q46 a1 a2 _ h H locs ls hP hS hl
def f_RD_readProcess (S : XS) (a1 : Nat) : Option ((Unit × XS) ⊕ XS) :=
  (f_RD_nameThing S a1 (0 : Int32)).bind (xT2 fun v3 S4 => (f_WO_expect S4 4).bind (xT2 fun _ S9 => if xP a1 then ((f_RD_readSetting S9 9 (0 : Int32) ((xgi S9 a1 1) - (1 : Int32)) (4 : Int32)).bind (xT2 fun v14 S15 => if xR v3 then ((f_RO_setLast S15 v3 (0 : Int32) v14).bind fun q19 => (f_RD_readSetting q19 10 (0 : Int32) (15 : Int32) (1 : Int32)).bind (xT2 fun v22 S23 => (f_RO_setLast S23 v3 (1 : Int32) v22).bind fun q26 => (f_WO_is q26 11).bind fun q28 => if q28 = 0 then (f_RD_readProcess_77 q26 a1 v3) else ((f_RD_readSetting q26 11 (1 : Int32) (100000 : Int32) (1 : Int32)).bind (xT2 fun v31 S32 => (f_RO_setLast S32 v3 (2 : Int32) v31).bind fun q35 => f_RD_readProcess_77 q35 a1 v3)))) else none)) else none))
set_option maxHeartbeats 4000000 in
set_option maxRecDepth 100000 in
theorem k_RD_readProcess (l : Launch) (hq : l.stackTraces = false) {p : Program} {e : Env} {s : State} {m : MethodId} {args : Array Value} {below : List Frame} {meth : Method} {c : Code} {D : va_G} {lay : Nat → Nat} {cA : Nat → ClassId} {adK adV : Nat → Nat} {s0 : State} (C : xB p s m args meth c R_RD b_RD_readProcess ((Option.none : Option Jvm.ClassFile.FieldType)) 3) (E : xE D lay cA adK adV s0 s s.heap) : ∀ (S : XS) (a1 : Nat) (r : (Unit × XS) ⊕ XS) (_ : f_RD_readProcess S a1 = some r) (H : Heap) (locs : List Loc) (ls : Array Slot), va_P D xcl (xw lay cA S) H → va_S (xI lay) s.heap H locs → lv_has ls 3 [(0, .ref (lay 179)), (1, .ref (lay a1))] → W p l e rm_RD_readProcess s m args below meth c H locs 0 0 (XF below (xrv D lay cA r) (xrt D lay cA r) s 0 0 1 6 (xI lay)) (F0 m 0 ls []) := by
  obtain ⟨hx, hb, hr, hml, hown, hts, hlk, hnh⟩ := id C
  have hK := E.K
  intro S a1 r h H locs ls hP hS hl
  unfold f_RD_readProcess at h
  refine lv_aload_n hx hb d_RD_readProcess_0 rfl (lv_at hl 0 rfl) ?_
  refine lv_aload_n hx hb d_RD_readProcess_1 rfl (lv_at hl 1 rfl) ?_
  refine lv_iconst (v := (0 : Int32)) hx hb d_RD_readProcess_2 (by decide) ?_
  obtain ⟨q2, e1, h⟩ := xb h
  refine xk_r (xrunV (As := [.ref (lay a1), .int (0 : Int32)]) (rest := []) ⟨hx, hb, hml, hown, hts⟩ (c_RD_nameThing l hq D lay cA adK adV s0 S a1 (0 : Int32) q2 e1) (cwV 2 hts (xT_V wd_543 wd_545 wp_9 wd_6 wd_546) rfl rfl rfl (by decide +kernel) ⟨Nat.le_of_ble_eq_true rfl, Nat.le_of_ble_eq_true rfl⟩) (xpV E hP hS (by decide) (xc_179 _ _ _ _) rfl) rfl rfl hl.1 rfl (lv_room (Nat.le_of_ble_eq_true rfl)) d_RD_readProcess_3 ⟨Nat.le_of_ble_eq_true rfl, Nat.le_of_ble_eq_true rfl⟩) hS hnh hlk (fun S9 e9 => by subst e9; exact (Option.some.inj h).symm) (fun v3 S4 w5 H locs hP hS => ?_)
  subst w5
  dsimp only [xT2] at h
  refine lv_astore_n (lv' := [(2, .ref (lay v3)), (0, .ref (lay 179)), (1, .ref (lay a1))]) hx hb d_RD_readProcess_6 rfl hl (by decide) rfl (fun ls hl => ?_)
  refine lv_aload_n hx hb d_RD_readProcess_7 rfl (lv_at hl 1 rfl) ?_
  refine va_get (v := .ref (lay 2)) (C := R_RD) (T := F_RD) (N := 4) hx hb hts i_RD hown hK hP 179 (xw_at (by decide) (xc_179 _ _ _ _)) rfl 0 (by decide) (hts _ wd_169) (fun _ h9 => h9) rfl d_RD_readProcess_8 ?_
  refine va_ldcS hx hb hown (E.lit (List.mem_of_getElem? (i := 5) rfl : ("ConfigTexts$Reader", 117, "{", 4) ∈ xlits)) d_RD_readProcess_11 ?_
  obtain ⟨q7, e6, h⟩ := xb h
  refine xk_v (xrunV (As := [.ref (adK 4)]) (rest := []) ⟨hx, hb, hml, hown, hts⟩ (c_WO_expect l hq D lay cA adK adV s0 S4 4 q7 e6) (cwV 1 hts (xT_V wd_493 wd_494 wd_495 wd_2 wd_496) rfl rfl rfl (by decide +kernel) ⟨Nat.le_of_ble_eq_true rfl, Nat.le_of_ble_eq_true rfl⟩) (xpV E hP hS (by decide) (xc_2 _ _ _ _) rfl) rfl rfl hl.1 rfl (lv_room (Nat.le_of_ble_eq_true rfl)) d_RD_readProcess_13 ⟨Nat.le_of_ble_eq_true rfl, Nat.le_of_ble_eq_true rfl⟩) hS hnh hlk (fun S9 e9 => by subst e9; exact (Option.some.inj h).symm) (fun v8 S9 w10 H locs hP hS => ?_)
  subst w10
  dsimp only [xT2] at h
  refine lv_aload_n hx hb d_RD_readProcess_16 rfl (lv_at hl 0 rfl) ?_
  refine lv_iconst (v := (0 : Int32)) hx hb d_RD_readProcess_17 (by decide) ?_
  refine lv_aload_n hx hb d_RD_readProcess_18 rfl (lv_at hl 1 rfl) ?_
  refine va_ldcS hx hb hown (E.lit (List.mem_of_getElem? (i := 10) rfl : ("ConfigTexts$Reader", 145, "entry", 9) ∈ xlits)) d_RD_readProcess_19 ?_
  refine lv_iconst (v := (0 : Int32)) hx hb d_RD_readProcess_21 (by decide) ?_
  refine lv_aload_n hx hb d_RD_readProcess_22 rfl (lv_at hl 2 rfl) ?_
  obtain ⟨hk11, h⟩ := xg h
  refine va_getN (v := .int (xgi S9 a1 1)) (C := R_PA) (T := F_PA) (N := 5) hx hb hts i_PA hown hK hP a1 (xw_at (xP_lt hk11).1 (xc_PA _ _ _ _ hk11)) rfl 1 (by decide) (E.nest wn_112) (fun _ h9 => h9) rfl d_RD_readProcess_23 ?_
  refine lv_iconst (v := (1 : Int32)) hx hb d_RD_readProcess_26 (by decide) ?_
  refine lv_isub hx hb d_RD_readProcess_27 ?_
  refine lv_iconst (v := (4 : Int32)) hx hb d_RD_readProcess_28 (by decide) ?_
  obtain ⟨q13, e12, h⟩ := xb h
  refine xk_i (xrunV (As := [.ref (adK 9), .int (0 : Int32), .int ((xgi S9 a1 1) - (1 : Int32)), .int (4 : Int32)]) (rest := [.int (0 : Int32), .ref (lay v3)]) ⟨hx, hb, hml, hown, hts⟩ (c_RD_readSetting l hq D lay cA adK adV s0 S9 9 (0 : Int32) ((xgi S9 a1 1) - (1 : Int32)) (4 : Int32) q13 e12) (cwV 4 hts (xT_V wd_526 wd_528 wp_7 wd_6 wd_529) rfl rfl rfl (by decide +kernel) ⟨Nat.le_of_ble_eq_true rfl, Nat.le_of_ble_eq_true rfl⟩) (xpV E hP hS (by decide) (xc_179 _ _ _ _) rfl) rfl rfl hl.1 rfl (lv_room (Nat.le_of_ble_eq_true rfl)) d_RD_readProcess_29 ⟨Nat.le_of_ble_eq_true rfl, Nat.le_of_ble_eq_true rfl⟩) hS hnh hlk (fun S9 e9 => by subst e9; exact (Option.some.inj h).symm) (fun v14 S15 w16 H locs hP hS => ?_)
  subst w16
  dsimp only [xT2] at h
  obtain ⟨hk17, h⟩ := xg h
  obtain ⟨q19, e18, h⟩ := xb h
  refine xc_v (va_runV (As := [.int (0 : Int32), .int v14]) (rest := []) ⟨hx, hb, hml, hown, hts⟩ (c_RO_setLast l D lay cA adK adV s0 S15 v3 (0 : Int32) v14 q19 e18) (cwV 2 hts (xT_V wd_565 wd_566 wd_567 wd_5 wd_568) rfl rfl rfl (by decide +kernel) ⟨Nat.le_of_ble_eq_true rfl, Nat.le_of_ble_eq_true rfl⟩) (xpV E hP hS (xR_lt hk17).1 (xc_RO _ _ _ _ hk17) rfl) rfl rfl hl.1 rfl (lv_room (Nat.le_of_ble_eq_true rfl)) d_RD_readProcess_32 ⟨Nat.le_of_ble_eq_true rfl, Nat.le_of_ble_eq_true rfl⟩) hS (fun H locs hP hS => ?_)
  refine lv_aload_n hx hb d_RD_readProcess_35 rfl (lv_at hl 0 rfl) ?_
  refine lv_iconst (v := (1 : Int32)) hx hb d_RD_readProcess_36 (by decide) ?_
  refine lv_aload_n hx hb d_RD_readProcess_37 rfl (lv_at hl 1 rfl) ?_
  refine va_ldcS hx hb hown (E.lit (List.mem_of_getElem? (i := 11) rfl : ("ConfigTexts$Reader", 150, "priority", 10) ∈ xlits)) d_RD_readProcess_38 ?_
  refine lv_iconst (v := (0 : Int32)) hx hb d_RD_readProcess_40 (by decide) ?_
  refine lv_bipush (v := (15 : Int32)) hx hb d_RD_readProcess_41 (by decide) ?_
  refine lv_iconst (v := (1 : Int32)) hx hb d_RD_readProcess_43 (by decide) ?_
  obtain ⟨q21, e20, h⟩ := xb h
  refine xk_i (xrunV (As := [.ref (adK 10), .int (0 : Int32), .int (15 : Int32), .int (1 : Int32)]) (rest := [.int (1 : Int32), .ref (lay v3)]) ⟨hx, hb, hml, hown, hts⟩ (c_RD_readSetting l hq D lay cA adK adV s0 q19 10 (0 : Int32) (15 : Int32) (1 : Int32) q21 e20) (cwV 4 hts (xT_V wd_526 wd_528 wp_7 wd_6 wd_529) rfl rfl rfl (by decide +kernel) ⟨Nat.le_of_ble_eq_true rfl, Nat.le_of_ble_eq_true rfl⟩) (xpV E hP hS (by decide) (xc_179 _ _ _ _) rfl) rfl rfl hl.1 rfl (lv_room (Nat.le_of_ble_eq_true rfl)) d_RD_readProcess_44 ⟨Nat.le_of_ble_eq_true rfl, Nat.le_of_ble_eq_true rfl⟩) hS hnh hlk (fun S9 e9 => by subst e9; exact (Option.some.inj h).symm) (fun v22 S23 w24 H locs hP hS => ?_)
  subst w24
  dsimp only [xT2] at h
  obtain ⟨q26, e25, h⟩ := xb h
  refine xc_v (va_runV (As := [.int (1 : Int32), .int v22]) (rest := []) ⟨hx, hb, hml, hown, hts⟩ (c_RO_setLast l D lay cA adK adV s0 S23 v3 (1 : Int32) v22 q26 e25) (cwV 2 hts (xT_V wd_565 wd_566 wd_567 wd_5 wd_568) rfl rfl rfl (by decide +kernel) ⟨Nat.le_of_ble_eq_true rfl, Nat.le_of_ble_eq_true rfl⟩) (xpV E hP hS (xR_lt hk17).1 (xc_RO _ _ _ _ hk17) rfl) rfl rfl hl.1 rfl (lv_room (Nat.le_of_ble_eq_true rfl)) d_RD_readProcess_47 ⟨Nat.le_of_ble_eq_true rfl, Nat.le_of_ble_eq_true rfl⟩) hS (fun H locs hP hS => ?_)
  refine lv_aload_n hx hb d_RD_readProcess_50 rfl (lv_at hl 1 rfl) ?_
  refine va_get (v := .ref (lay 2)) (C := R_RD) (T := F_RD) (N := 4) hx hb hts i_RD hown hK hP 179 (xw_at (by decide) (xc_179 _ _ _ _)) rfl 0 (by decide) (hts _ wd_169) (fun _ h9 => h9) rfl d_RD_readProcess_51 ?_
  refine va_ldcS hx hb hown (E.lit (List.mem_of_getElem? (i := 12) rfl : ("ConfigTexts$Reader", 152, "period", 11) ∈ xlits)) d_RD_readProcess_54 ?_
  obtain ⟨q28, e27, h⟩ := xb h
  refine xc_i (va_runV (As := [.ref (adK 11)]) (rest := []) ⟨hx, hb, hml, hown, hts⟩ (c_WO_is l D lay cA adK adV s0 q26 11 q28 e27) (cwV 1 hts (xT_V wd_536 wd_456 wd_457 wd_2 wd_458) rfl rfl rfl (by decide +kernel) ⟨Nat.le_of_ble_eq_true rfl, Nat.le_of_ble_eq_true rfl⟩) (xpV E hP hS (by decide) (xc_2 _ _ _ _) rfl) rfl rfl hl.1 rfl (lv_room (Nat.le_of_ble_eq_true rfl)) d_RD_readProcess_56 ⟨Nat.le_of_ble_eq_true rfl, Nat.le_of_ble_eq_true rfl⟩) hS (fun H locs hP hS => ?_)
  refine lv_if_eq (tgt := 77) hx hb d_RD_readProcess_59 (by decide) (fun c_36 => ?_) (fun c_36 => ?_)
  · have h := xif_t c_36 h
    exact k_RD_readProcess_77 l hq C E q26 a1 v3 _ h H locs ls hP hS (lv_sub hl [1, 2, 0] rfl)
  · have h := xif_f c_36 h
    refine lv_aload_n hx hb d_RD_readProcess_62 rfl (lv_at hl 0 rfl) ?_
    refine lv_iconst (v := (2 : Int32)) hx hb d_RD_readProcess_63 (by decide) ?_
    refine lv_aload_n hx hb d_RD_readProcess_64 rfl (lv_at hl 1 rfl) ?_
    refine va_ldcS hx hb hown (E.lit (List.mem_of_getElem? (i := 12) rfl : ("ConfigTexts$Reader", 152, "period", 11) ∈ xlits)) d_RD_readProcess_65 ?_
    refine lv_iconst (v := (1 : Int32)) hx hb d_RD_readProcess_67 (by decide) ?_
    refine lv_ldc (v := (100000 : Int32)) hx hb hown (hts _ wd_575) d_RD_readProcess_68 ?_
    refine lv_iconst (v := (1 : Int32)) hx hb d_RD_readProcess_70 (by decide) ?_
    obtain ⟨q30, e29, h⟩ := xb h
    refine xk_i (xrunV (As := [.ref (adK 11), .int (1 : Int32), .int (100000 : Int32), .int (1 : Int32)]) (rest := [.int (2 : Int32), .ref (lay v3)]) ⟨hx, hb, hml, hown, hts⟩ (c_RD_readSetting l hq D lay cA adK adV s0 q26 11 (1 : Int32) (100000 : Int32) (1 : Int32) q30 e29) (cwV 4 hts (xT_V wd_526 wd_528 wp_7 wd_6 wd_529) rfl rfl rfl (by decide +kernel) ⟨Nat.le_of_ble_eq_true rfl, Nat.le_of_ble_eq_true rfl⟩) (xpV E hP hS (by decide) (xc_179 _ _ _ _) rfl) rfl rfl hl.1 rfl (lv_room (Nat.le_of_ble_eq_true rfl)) d_RD_readProcess_71 ⟨Nat.le_of_ble_eq_true rfl, Nat.le_of_ble_eq_true rfl⟩) hS hnh hlk (fun S9 e9 => by subst e9; exact (Option.some.inj h).symm) (fun v31 S32 w33 H locs hP hS => ?_)
    subst w33
    dsimp only [xT2] at h
    obtain ⟨q35, e34, h⟩ := xb h
    refine xc_v (va_runV (As := [.int (2 : Int32), .int v31]) (rest := []) ⟨hx, hb, hml, hown, hts⟩ (c_RO_setLast l D lay cA adK adV s0 S32 v3 (2 : Int32) v31 q35 e34) (cwV 2 hts (xT_V wd_565 wd_566 wd_567 wd_5 wd_568) rfl rfl rfl (by decide +kernel) ⟨Nat.le_of_ble_eq_true rfl, Nat.le_of_ble_eq_true rfl⟩) (xpV E hP hS (xR_lt hk17).1 (xc_RO _ _ _ _ hk17) rfl) rfl rfl hl.1 rfl (lv_room (Nat.le_of_ble_eq_true rfl)) d_RD_readProcess_74 ⟨Nat.le_of_ble_eq_true rfl, Nat.le_of_ble_eq_true rfl⟩) hS (fun H locs hP hS => ?_)
    exact k_RD_readProcess_77 l hq C E q35 a1 v3 _ h H locs ls hP hS (lv_sub hl [1, 2, 0] rfl)
theorem c_RD_readProcess (l : Launch) (hq : l.stackTraces = false) (D : va_G) (lay : Nat → Nat) (cA : Nat → ClassId) (adK adV : Nat → Nat) (s0 : State) (S : XS) (a1 : Nat) (r : (Unit × XS) ⊕ XS) (h : f_RD_readProcess S a1 = some r) : MetX l y_RD_readProcess (.code y_RD_readProcess b_RD_readProcess 3 ((Option.none : Option Jvm.ClassFile.FieldType)) :: xT) rm_RD_readProcess (xPc D lay cA adK adV s0 S [.ref (lay 179), .ref (lay a1)]) (xrv D lay cA r) (xrt D lay cA r) 0 0 1 6 (xI lay) := by
  refine MetX.ofW (cc := b_RD_readProcess) (maxL := 3) (ret := (Option.none : Option Jvm.ClassFile.FieldType)) (by decide +kernel) rfl ?_
  intro p e s m args below meth c s₁ B hml hv
  obtain ⟨rfl, hP, E⟩ := hv
  have C := xB_of B hml
  have hl := lv_entry ([.ref (lay 179), .ref (lay a1)]) (n := 3) (Nat.le_of_ble_eq_true rfl)
  rw [lg_entry_eq]
  generalize (lg_sl ([.ref (lay 179), .ref (lay a1)]) ++ List.replicate (3 - (lg_sl ([.ref (lay 179), .ref (lay a1)])).length) Slot.unset).toArray = ls at hl ⊢
  exact k_RD_readProcess l hq C E S a1 r h s.heap [] ls hP va_S.rf hl
/-! ConfigTexts$Reader.readSemaphore(LConfigTexts$Partition;)V -/
def rm_RD_readSemaphore : Room := { frames := 9, cells := 1, slots := 6, locals := 166 }
theorem d_RD_readSemaphore_0 : decode b_RD_readSemaphore 0 = .ok (.aload_n 0, 1) := by decide +kernel
theorem d_RD_readSemaphore_1 : decode b_RD_readSemaphore 1 = .ok (.aload_n 1, 1) := by decide +kernel
theorem d_RD_readSemaphore_2 : decode b_RD_readSemaphore 2 = .ok (.iconst 1, 1) := by decide +kernel
theorem d_RD_readSemaphore_3 : decode b_RD_readSemaphore 3 = .ok (.invokevirtual 76, 3) := by decide +kernel
theorem d_RD_readSemaphore_6 : decode b_RD_readSemaphore 6 = .ok (.astore_n 2, 1) := by decide +kernel
theorem d_RD_readSemaphore_7 : decode b_RD_readSemaphore 7 = .ok (.aload_n 0, 1) := by decide +kernel
theorem d_RD_readSemaphore_8 : decode b_RD_readSemaphore 8 = .ok (.getfield 9, 3) := by decide +kernel
theorem d_RD_readSemaphore_11 : decode b_RD_readSemaphore 11 = .ok (.iconst 0, 1) := by decide +kernel
theorem d_RD_readSemaphore_12 : decode b_RD_readSemaphore 12 = .ok (.bipush 100, 2) := by decide +kernel
theorem d_RD_readSemaphore_14 : decode b_RD_readSemaphore 14 = .ok (.iconst 1, 1) := by decide +kernel
theorem d_RD_readSemaphore_15 : decode b_RD_readSemaphore 15 = .ok (.invokevirtual 141, 3) := by decide +kernel
theorem d_RD_readSemaphore_18 : decode b_RD_readSemaphore 18 = .ok (.istore_n 3, 1) := by decide +kernel
theorem d_RD_readSemaphore_19 : decode b_RD_readSemaphore 19 = .ok (.aload_n 0, 1) := by decide +kernel
theorem d_RD_readSemaphore_20 : decode b_RD_readSemaphore 20 = .ok (.getfield 9, 3) := by decide +kernel
theorem d_RD_readSemaphore_23 : decode b_RD_readSemaphore 23 = .ok (.ldc 163, 2) := by decide +kernel
theorem d_RD_readSemaphore_25 : decode b_RD_readSemaphore 25 = .ok (.invokevirtual 82, 3) := by decide +kernel
theorem d_RD_readSemaphore_28 : decode b_RD_readSemaphore 28 = .ok (.aload_n 0, 1) := by decide +kernel
theorem d_RD_readSemaphore_29 : decode b_RD_readSemaphore 29 = .ok (.getfield 9, 3) := by decide +kernel
theorem d_RD_readSemaphore_32 : decode b_RD_readSemaphore 32 = .ok (.iconst 1, 1) := by decide +kernel
theorem d_RD_readSemaphore_33 : decode b_RD_readSemaphore 33 = .ok (.iload_n 3, 1) := by decide +kernel
theorem d_RD_readSemaphore_34 : decode b_RD_readSemaphore 34 = .ok (.invokestatic 165, 3) := by decide +kernel
theorem d_RD_readSemaphore_37 : decode b_RD_readSemaphore 37 = .ok (.bipush 100, 2) := by decide +kernel
theorem d_RD_readSemaphore_39 : decode b_RD_readSemaphore 39 = .ok (.iconst 1, 1) := by decide +kernel
theorem d_RD_readSemaphore_40 : decode b_RD_readSemaphore 40 = .ok (.invokevirtual 141, 3) := by decide +kernel
theorem d_RD_readSemaphore_43 : decode b_RD_readSemaphore 43 = .ok (.istore 4, 2) := by decide +kernel
theorem d_RD_readSemaphore_45 : decode b_RD_readSemaphore 45 = .ok (.aload_n 0, 1) := by decide +kernel
theorem d_RD_readSemaphore_46 : decode b_RD_readSemaphore 46 = .ok (.getfield 9, 3) := by decide +kernel
theorem d_RD_readSemaphore_49 : decode b_RD_readSemaphore 49 = .ok (.ldc 80, 2) := by decide +kernel
theorem d_RD_readSemaphore_51 : decode b_RD_readSemaphore 51 = .ok (.invokevirtual 82, 3) := by decide +kernel
theorem d_RD_readSemaphore_54 : decode b_RD_readSemaphore 54 = .ok (.aload_n 2, 1) := by decide +kernel
theorem d_RD_readSemaphore_55 : decode b_RD_readSemaphore 55 = .ok (.iconst 0, 1) := by decide +kernel
theorem d_RD_readSemaphore_56 : decode b_RD_readSemaphore 56 = .ok (.iload_n 3, 1) := by decide +kernel
theorem d_RD_readSemaphore_57 : decode b_RD_readSemaphore 57 = .ok (.invokevirtual 147, 3) := by decide +kernel
theorem d_RD_readSemaphore_60 : decode b_RD_readSemaphore 60 = .ok (.aload_n 2, 1) := by decide +kernel
theorem d_RD_readSemaphore_61 : decode b_RD_readSemaphore 61 = .ok (.iconst 1, 1) := by decide +kernel
theorem d_RD_readSemaphore_62 : decode b_RD_readSemaphore 62 = .ok (.iload 4, 2) := by decide +kernel
theorem d_RD_readSemaphore_64 : decode b_RD_readSemaphore 64 = .ok (.invokevirtual 147, 3) := by decide +kernel
theorem d_RD_readSemaphore_67 : decode b_RD_readSemaphore 67 = .ok (.return_, 1) := by decide +kernel
def f_RD_readSemaphore (S : XS) (a1 : Nat) : Option ((Unit × XS) ⊕ XS) :=
  (f_RD_nameThing S a1 (1 : Int32)).bind (xT2 fun v3 S4 => (f_WO_expectNumber S4 (0 : Int32) (100 : Int32) (1 : Int32)).bind (xT2 fun v8 S9 => (f_WO_expect S9 15).bind (xT2 fun _ S14 => (f_WO_expectNumber S14 (if (1 : Int32) < v8 then v8 else (1 : Int32)) (100 : Int32) (1 : Int32)).bind (xT2 fun v18 S19 => (f_WO_expect S19 6).bind (xT2 fun _ S24 => if xR v3 then ((f_RO_setLast S24 v3 (0 : Int32) v8).bind fun q28 => (f_RO_setLast q28 v3 (1 : Int32) v18).bind fun q30 => some (.inl ((), q30))) else none)))))
set_option maxHeartbeats 4000000 in
set_option maxRecDepth 100000 in
theorem k_RD_readSemaphore (l : Launch) (hq : l.stackTraces = false) {p : Program} {e : Env} {s : State} {m : MethodId} {args : Array Value} {below : List Frame} {meth : Method} {c : Code} {D : va_G} {lay : Nat → Nat} {cA : Nat → ClassId} {adK adV : Nat → Nat} {s0 : State} (C : xB p s m args meth c R_RD b_RD_readSemaphore ((Option.none : Option Jvm.ClassFile.FieldType)) 5) (E : xE D lay cA adK adV s0 s s.heap) : ∀ (S : XS) (a1 : Nat) (r : (Unit × XS) ⊕ XS) (_ : f_RD_readSemaphore S a1 = some r) (H : Heap) (locs : List Loc) (ls : Array Slot), va_P D xcl (xw lay cA S) H → va_S (xI lay) s.heap H locs → lv_has ls 5 [(0, .ref (lay 179)), (1, .ref (lay a1))] → W p l e rm_RD_readSemaphore s m args below meth c H locs 0 0 (XF below (xrv D lay cA r) (xrt D lay cA r) s 0 0 1 6 (xI lay)) (F0 m 0 ls []) := by
  obtain ⟨hx, hb, hr, hml, hown, hts, hlk, hnh⟩ := id C
  have hK := E.K
  intro S a1 r h H locs ls hP hS hl
  unfold f_RD_readSemaphore at h
  refine lv_aload_n hx hb d_RD_readSemaphore_0 rfl (lv_at hl 0 rfl) ?_
  refine lv_aload_n hx hb d_RD_readSemaphore_1 rfl (lv_at hl 1 rfl) ?_
  refine lv_iconst (v := (1 : Int32)) hx hb d_RD_readSemaphore_2 (by decide) ?_
  obtain ⟨q2, e1, h⟩ := xb h
  refine xk_r (xrunV (As := [.ref (lay a1), .int (1 : Int32)]) (rest := []) ⟨hx, hb, hml, hown, hts⟩ (c_RD_nameThing l hq D lay cA adK adV s0 S a1 (1 : Int32) q2 e1) (cwV 2 hts (xT_V wd_543 wd_545 wp_9 wd_6 wd_546) rfl rfl rfl (by decide +kernel) ⟨Nat.le_of_ble_eq_true rfl, Nat.le_of_ble_eq_true rfl⟩) (xpV E hP hS (by decide) (xc_179 _ _ _ _) rfl) rfl rfl hl.1 rfl (lv_room (Nat.le_of_ble_eq_true rfl)) d_RD_readSemaphore_3 ⟨Nat.le_of_ble_eq_true rfl, Nat.le_of_ble_eq_true rfl⟩) hS hnh hlk (fun S9 e9 => by subst e9; exact (Option.some.inj h).symm) (fun v3 S4 w5 H locs hP hS => ?_)
  subst w5
  dsimp only [xT2] at h
  refine lv_astore_n (lv' := [(2, .ref (lay v3)), (0, .ref (lay 179)), (1, .ref (lay a1))]) hx hb d_RD_readSemaphore_6 rfl hl (by decide) rfl (fun ls hl => ?_)
  refine lv_aload_n hx hb d_RD_readSemaphore_7 rfl (lv_at hl 1 rfl) ?_
  refine va_get (v := .ref (lay 2)) (C := R_RD) (T := F_RD) (N := 4) hx hb hts i_RD hown hK hP 179 (xw_at (by decide) (xc_179 _ _ _ _)) rfl 0 (by decide) (hts _ wd_169) (fun _ h9 => h9) rfl d_RD_readSemaphore_8 ?_
  refine lv_iconst (v := (0 : Int32)) hx hb d_RD_readSemaphore_11 (by decide) ?_
  refine lv_bipush (v := (100 : Int32)) hx hb d_RD_readSemaphore_12 (by decide) ?_
  refine lv_iconst (v := (1 : Int32)) hx hb d_RD_readSemaphore_14 (by decide) ?_
  obtain ⟨q7, e6, h⟩ := xb h
  refine xk_i (xrunV (As := [.int (0 : Int32), .int (100 : Int32), .int (1 : Int32)]) (rest := []) ⟨hx, hb, hml, hown, hts⟩ (c_WO_expectNumber l hq D lay cA adK adV s0 S4 (0 : Int32) (100 : Int32) (1 : Int32) q7 e6) (cwV 3 hts (xT_V wd_530 wd_531 wd_532 wd_2 wd_533) rfl rfl rfl (by decide +kernel) ⟨Nat.le_of_ble_eq_true rfl, Nat.le_of_ble_eq_true rfl⟩) (xpV E hP hS (by decide) (xc_2 _ _ _ _) rfl) rfl rfl hl.1 rfl (lv_room (Nat.le_of_ble_eq_true rfl)) d_RD_readSemaphore_15 ⟨Nat.le_of_ble_eq_true rfl, Nat.le_of_ble_eq_true rfl⟩) hS hnh hlk (fun S9 e9 => by subst e9; exact (Option.some.inj h).symm) (fun v8 S9 w10 H locs hP hS => ?_)
  subst w10
  dsimp only [xT2] at h
  refine lv_istore_n (lv' := [(3, .int v8), (2, .ref (lay v3)), (0, .ref (lay 179)), (1, .ref (lay a1))]) hx hb d_RD_readSemaphore_18 rfl hl (by decide) rfl (fun ls hl => ?_)
  refine lv_aload_n hx hb d_RD_readSemaphore_19 rfl (lv_at hl 2 rfl) ?_
  refine va_get (v := .ref (lay 2)) (C := R_RD) (T := F_RD) (N := 4) hx hb hts i_RD hown hK hP 179 (xw_at (by decide) (xc_179 _ _ _ _)) rfl 0 (by decide) (hts _ wd_169) (fun _ h9 => h9) rfl d_RD_readSemaphore_20 ?_
  refine va_ldcS hx hb hown (E.lit (List.mem_of_getElem? (i := 16) rfl : ("ConfigTexts$Reader", 163, ":", 15) ∈ xlits)) d_RD_readSemaphore_23 ?_
  obtain ⟨q12, e11, h⟩ := xb h
  refine xk_v (xrunV (As := [.ref (adK 15)]) (rest := []) ⟨hx, hb, hml, hown, hts⟩ (c_WO_expect l hq D lay cA adK adV s0 S9 15 q12 e11) (cwV 1 hts (xT_V wd_493 wd_494 wd_495 wd_2 wd_496) rfl rfl rfl (by decide +kernel) ⟨Nat.le_of_ble_eq_true rfl, Nat.le_of_ble_eq_true rfl⟩) (xpV E hP hS (by decide) (xc_2 _ _ _ _) rfl) rfl rfl hl.1 rfl (lv_room (Nat.le_of_ble_eq_true rfl)) d_RD_readSemaphore_25 ⟨Nat.le_of_ble_eq_true rfl, Nat.le_of_ble_eq_true rfl⟩) hS hnh hlk (fun S9 e9 => by subst e9; exact (Option.some.inj h).symm) (fun v13 S14 w15 H locs hP hS => ?_)
  subst w15
  dsimp only [xT2] at h
  refine lv_aload_n hx hb d_RD_readSemaphore_28 rfl (lv_at hl 2 rfl) ?_
  refine va_get (v := .ref (lay 2)) (C := R_RD) (T := F_RD) (N := 4) hx hb hts i_RD hown hK hP 179 (xw_at (by decide) (xc_179 _ _ _ _)) rfl 0 (by decide) (hts _ wd_169) (fun _ h9 => h9) rfl d_RD_readSemaphore_29 ?_
  refine lv_iconst (v := (1 : Int32)) hx hb d_RD_readSemaphore_32 (by decide) ?_
  refine lv_iload_n hx hb d_RD_readSemaphore_33 rfl (lv_at hl 0 rfl) ?_
  refine va_mmax hx hb (hml.trans hl.1.symm) hown (hts _ wd_584) (hts _ wd_321) (hts _ wd_8) (hts _ wd_322) (Nat.le_of_ble_eq_true rfl) (Nat.le_of_ble_eq_true rfl) (Nat.zero_le _) (Nat.zero_le _) d_RD_readSemaphore_34 ?_
  refine lv_bipush (v := (100 : Int32)) hx hb d_RD_readSemaphore_37 (by decide) ?_
  refine lv_iconst (v := (1 : Int32)) hx hb d_RD_readSemaphore_39 (by decide) ?_
  obtain ⟨q17, e16, h⟩ := xb h
  refine xk_i (xrunV (As := [.int (if (1 : Int32) < v8 then v8 else (1 : Int32)), .int (100 : Int32), .int (1 : Int32)]) (rest := []) ⟨hx, hb, hml, hown, hts⟩ (c_WO_expectNumber l hq D lay cA adK adV s0 S14 (if (1 : Int32) < v8 then v8 else (1 : Int32)) (100 : Int32) (1 : Int32) q17 e16) (cwV 3 hts (xT_V wd_530 wd_531 wd_532 wd_2 wd_533) rfl rfl rfl (by decide +kernel) ⟨Nat.le_of_ble_eq_true rfl, Nat.le_of_ble_eq_true rfl⟩) (xpV E hP hS (by decide) (xc_2 _ _ _ _) rfl) rfl rfl hl.1 rfl (lv_room (Nat.le_of_ble_eq_true rfl)) d_RD_readSemaphore_40 ⟨Nat.le_of_ble_eq_true rfl, Nat.le_of_ble_eq_true rfl⟩) hS hnh hlk (fun S9 e9 => by subst e9; exact (Option.some.inj h).symm) (fun v18 S19 w20 H locs hP hS => ?_)
  subst w20
  dsimp only [xT2] at h
  refine lv_istore (lv' := [(4, .int v18), (3, .int v8), (2, .ref (lay v3)), (0, .ref (lay 179)), (1, .ref (lay a1))]) hx hb d_RD_readSemaphore_43 hl (by decide) rfl (fun ls hl => ?_)
  refine lv_aload_n hx hb d_RD_readSemaphore_45 rfl (lv_at hl 3 rfl) ?_
  refine va_get (v := .ref (lay 2)) (C := R_RD) (T := F_RD) (N := 4) hx hb hts i_RD hown hK hP 179 (xw_at (by decide) (xc_179 _ _ _ _)) rfl 0 (by decide) (hts _ wd_169) (fun _ h9 => h9) rfl d_RD_readSemaphore_46 ?_
  refine va_ldcS hx hb hown (E.lit (List.mem_of_getElem? (i := 7) rfl : ("ConfigTexts$Reader", 80, ";", 6) ∈ xlits)) d_RD_readSemaphore_49 ?_
  obtain ⟨q22, e21, h⟩ := xb h
  refine xk_v (xrunV (As := [.ref (adK 6)]) (rest := []) ⟨hx, hb, hml, hown, hts⟩ (c_WO_expect l hq D lay cA adK adV s0 S19 6 q22 e21) (cwV 1 hts (xT_V wd_493 wd_494 wd_495 wd_2 wd_496) rfl rfl rfl (by decide +kernel) ⟨Nat.le_of_ble_eq_true rfl, Nat.le_of_ble_eq_true rfl⟩) (xpV E hP hS (by decide) (xc_2 _ _ _ _) rfl) rfl rfl hl.1 rfl (lv_room (Nat.le_of_ble_eq_true rfl)) d_RD_readSemaphore_51 ⟨Nat.le_of_ble_eq_true rfl, Nat.le_of_ble_eq_true rfl⟩) hS hnh hlk (fun S9 e9 => by subst e9; exact (Option.some.inj h).symm) (fun v23 S24 w25 H locs hP hS => ?_)
  subst w25
  dsimp only [xT2] at h
  refine lv_aload_n hx hb d_RD_readSemaphore_54 rfl (lv_at hl 2 rfl) ?_
  refine lv_iconst (v := (0 : Int32)) hx hb d_RD_readSemaphore_55 (by decide) ?_
  refine lv_iload_n hx hb d_RD_readSemaphore_56 rfl (lv_at hl 1 rfl) ?_
  obtain ⟨hk26, h⟩ := xg h
  obtain ⟨q28, e27, h⟩ := xb h
  refine xc_v (va_runV (As := [.int (0 : Int32), .int v8]) (rest := []) ⟨hx, hb, hml, hown, hts⟩ (c_RO_setLast l D lay cA adK adV s0 S24 v3 (0 : Int32) v8 q28 e27) (cwV 2 hts (xT_V wd_565 wd_566 wd_567 wd_5 wd_568) rfl rfl rfl (by decide +kernel) ⟨Nat.le_of_ble_eq_true rfl, Nat.le_of_ble_eq_true rfl⟩) (xpV E hP hS (xR_lt hk26).1 (xc_RO _ _ _ _ hk26) rfl) rfl rfl hl.1 rfl (lv_room (Nat.le_of_ble_eq_true rfl)) d_RD_readSemaphore_57 ⟨Nat.le_of_ble_eq_true rfl, Nat.le_of_ble_eq_true rfl⟩) hS (fun H locs hP hS => ?_)
  refine lv_aload_n hx hb d_RD_readSemaphore_60 rfl (lv_at hl 2 rfl) ?_
  refine lv_iconst (v := (1 : Int32)) hx hb d_RD_readSemaphore_61 (by decide) ?_
  refine lv_iload hx hb d_RD_readSemaphore_62 (lv_at hl 0 rfl) ?_
  obtain ⟨q30, e29, h⟩ := xb h
  refine xc_v (va_runV (As := [.int (1 : Int32), .int v18]) (rest := []) ⟨hx, hb, hml, hown, hts⟩ (c_RO_setLast l D lay cA adK adV s0 q28 v3 (1 : Int32) v18 q30 e29) (cwV 2 hts (xT_V wd_565 wd_566 wd_567 wd_5 wd_568) rfl rfl rfl (by decide +kernel) ⟨Nat.le_of_ble_eq_true rfl, Nat.le_of_ble_eq_true rfl⟩) (xpV E hP hS (xR_lt hk26).1 (xc_RO _ _ _ _ hk26) rfl) rfl rfl hl.1 rfl (lv_room (Nat.le_of_ble_eq_true rfl)) d_RD_readSemaphore_64 ⟨Nat.le_of_ble_eq_true rfl, Nat.le_of_ble_eq_true rfl⟩) hS (fun H locs hP hS => ?_)
  have h9 := Option.some.inj h
  subst h9
  exact xret (W.vret hx hb hr (fun t ht hW => ⟨_, rfl, ⟨⟨(), q30, rfl, rfl, by show va_P D xcl _ t.heap; rw [ht]; exact hP⟩, hS.F ht⟩⟩) hS.2.2 d_RD_readSemaphore_67)
theorem c_RD_readSemaphore (l : Launch) (hq : l.stackTraces = false) (D : va_G) (lay : Nat → Nat) (cA : Nat → ClassId) (adK adV : Nat → Nat) (s0 : State) (S : XS) (a1 : Nat) (r : (Unit × XS) ⊕ XS) (h : f_RD_readSemaphore S a1 = some r) : MetX l y_RD_readSemaphore (.code y_RD_readSemaphore b_RD_readSemaphore 5 ((Option.none : Option Jvm.ClassFile.FieldType)) :: xT) rm_RD_readSemaphore (xPc D lay cA adK adV s0 S [.ref (lay 179), .ref (lay a1)]) (xrv D lay cA r) (xrt D lay cA r) 0 0 1 6 (xI lay) := by
  refine MetX.ofW (cc := b_RD_readSemaphore) (maxL := 5) (ret := (Option.none : Option Jvm.ClassFile.FieldType)) (by decide +kernel) rfl ?_
  intro p e s m args below meth c s₁ B hml hv
  obtain ⟨rfl, hP, E⟩ := hv
  have C := xB_of B hml
  have hl := lv_entry ([.ref (lay 179), .ref (lay a1)]) (n := 5) (Nat.le_of_ble_eq_true rfl)
  rw [lg_entry_eq]
  generalize (lg_sl ([.ref (lay 179), .ref (lay a1)]) ++ List.replicate (5 - (lg_sl ([.ref (lay 179), .ref (lay a1)])).length) Slot.unset).toArray = ls at hl ⊢
  exact k_RD_readSemaphore l hq C E S a1 r h s.heap [] ls hP va_S.rf hl
/-! ConfigTexts$Reader.readBuffer(LConfigTexts$Partition;)V -/
def rm_RD_readBuffer : Room := { frames := 9, cells := 1, slots := 6, locals := 166 }
theorem d_RD_readBuffer_0 : decode b_RD_readBuffer 0 = .ok (.aload_n 0, 1) := by decide +kernel
theorem d_RD_readBuffer_1 : decode b_RD_readBuffer 1 = .ok (.aload_n 1, 1) := by decide +kernel
theorem d_RD_readBuffer_2 : decode b_RD_readBuffer 2 = .ok (.iconst 3, 1) := by decide +kernel
theorem d_RD_readBuffer_3 : decode b_RD_readBuffer 3 = .ok (.invokevirtual 76, 3) := by decide +kernel
theorem d_RD_readBuffer_6 : decode b_RD_readBuffer 6 = .ok (.astore_n 2, 1) := by decide +kernel
theorem d_RD_readBuffer_7 : decode b_RD_readBuffer 7 = .ok (.aload_n 2, 1) := by decide +kernel
theorem d_RD_readBuffer_8 : decode b_RD_readBuffer 8 = .ok (.iconst 0, 1) := by decide +kernel
theorem d_RD_readBuffer_9 : decode b_RD_readBuffer 9 = .ok (.aload_n 0, 1) := by decide +kernel
theorem d_RD_readBuffer_10 : decode b_RD_readBuffer 10 = .ok (.getfield 9, 3) := by decide +kernel
theorem d_RD_readBuffer_13 : decode b_RD_readBuffer 13 = .ok (.iconst 1, 1) := by decide +kernel
theorem d_RD_readBuffer_14 : decode b_RD_readBuffer 14 = .ok (.bipush 8, 2) := by decide +kernel
theorem d_RD_readBuffer_16 : decode b_RD_readBuffer 16 = .ok (.iconst 1, 1) := by decide +kernel
theorem d_RD_readBuffer_17 : decode b_RD_readBuffer 17 = .ok (.invokevirtual 141, 3) := by decide +kernel
theorem d_RD_readBuffer_20 : decode b_RD_readBuffer 20 = .ok (.invokevirtual 147, 3) := by decide +kernel
theorem d_RD_readBuffer_23 : decode b_RD_readBuffer 23 = .ok (.aload_n 0, 1) := by decide +kernel
theorem d_RD_readBuffer_24 : decode b_RD_readBuffer 24 = .ok (.getfield 9, 3) := by decide +kernel
theorem d_RD_readBuffer_27 : decode b_RD_readBuffer 27 = .ok (.ldc 80, 2) := by decide +kernel
theorem d_RD_readBuffer_29 : decode b_RD_readBuffer 29 = .ok (.invokevirtual 82, 3) := by decide +kernel
theorem d_RD_readBuffer_32 : decode b_RD_readBuffer 32 = .ok (.return_, 1) := by decide +kernel
def f_RD_readBuffer (S : XS) (a1 : Nat) : Option ((Unit × XS) ⊕ XS) :=
  (f_RD_nameThing S a1 (3 : Int32)).bind (xT2 fun v3 S4 => (f_WO_expectNumber S4 (1 : Int32) (8 : Int32) (1 : Int32)).bind (xT2 fun v8 S9 => if xR v3 then ((f_RO_setLast S9 v3 (0 : Int32) v8).bind fun q13 => (f_WO_expect q13 6).bind (xT2 fun _ S17 => some (.inl ((), S17)))) else none))
set_option maxHeartbeats 4000000 in
set_option maxRecDepth 100000 in
theorem k_RD_readBuffer (l : Launch) (hq : l.stackTraces = false) {p : Program} {e : Env} {s : State} {m : MethodId} {args : Array Value} {below : List Frame} {meth : Method} {c : Code} {D : va_G} {lay : Nat → Nat} {cA : Nat → ClassId} {adK adV : Nat → Nat} {s0 : State} (C : xB p s m args meth c R_RD b_RD_readBuffer ((Option.none : Option Jvm.ClassFile.FieldType)) 3) (E : xE D lay cA adK adV s0 s s.heap) : ∀ (S : XS) (a1 : Nat) (r : (Unit × XS) ⊕ XS) (_ : f_RD_readBuffer S a1 = some r) (H : Heap) (locs : List Loc) (ls : Array Slot), va_P D xcl (xw lay cA S) H → va_S (xI lay) s.heap H locs → lv_has ls 3 [(0, .ref (lay 179)), (1, .ref (lay a1))] → W p l e rm_RD_readBuffer s m args below meth c H locs 0 0 (XF below (xrv D lay cA r) (xrt D lay cA r) s 0 0 1 6 (xI lay)) (F0 m 0 ls []) := by
  obtain ⟨hx, hb, hr, hml, hown, hts, hlk, hnh⟩ := id C
  have hK := E.K
  intro S a1 r h H locs ls hP hS hl
  unfold f_RD_readBuffer at h
  refine lv_aload_n hx hb d_RD_readBuffer_0 rfl (lv_at hl 0 rfl) ?_
  refine lv_aload_n hx hb d_RD_readBuffer_1 rfl (lv_at hl 1 rfl) ?_
  refine lv_iconst (v := (3 : Int32)) hx hb d_RD_readBuffer_2 (by decide) ?_
  obtain ⟨q2, e1, h⟩ := xb h
  refine xk_r (xrunV (As := [.ref (lay a1), .int (3 : Int32)]) (rest := []) ⟨hx, hb, hml, hown, hts⟩ (c_RD_nameThing l hq D lay cA adK adV s0 S a1 (3 : Int32) q2 e1) (cwV 2 hts (xT_V wd_543 wd_545 wp_9 wd_6 wd_546) rfl rfl rfl (by decide +kernel) ⟨Nat.le_of_ble_eq_true rfl, Nat.le_of_ble_eq_true rfl⟩) (xpV E hP hS (by decide) (xc_179 _ _ _ _) rfl) rfl rfl hl.1 rfl (lv_room (Nat.le_of_ble_eq_true rfl)) d_RD_readBuffer_3 ⟨Nat.le_of_ble_eq_true rfl, Nat.le_of_ble_eq_true rfl⟩) hS hnh hlk (fun S9 e9 => by subst e9; exact (Option.some.inj h).symm) (fun v3 S4 w5 H locs hP hS => ?_)
  subst w5
  dsimp only [xT2] at h
  refine lv_astore_n (lv' := [(2, .ref (lay v3)), (0, .ref (lay 179)), (1, .ref (lay a1))]) hx hb d_RD_readBuffer_6 rfl hl (by decide) rfl (fun ls hl => ?_)
  refine lv_aload_n hx hb d_RD_readBuffer_7 rfl (lv_at hl 0 rfl) ?_
  refine lv_iconst (v := (0 : Int32)) hx hb d_RD_readBuffer_8 (by decide) ?_
  refine lv_aload_n hx hb d_RD_readBuffer_9 rfl (lv_at hl 1 rfl) ?_
  refine va_get (v := .ref (lay 2)) (C := R_RD) (T := F_RD) (N := 4) hx hb hts i_RD hown hK hP 179 (xw_at (by decide) (xc_179 _ _ _ _)) rfl 0 (by decide) (hts _ wd_169) (fun _ h9 => h9) rfl d_RD_readBuffer_10 ?_
  refine lv_iconst (v := (1 : Int32)) hx hb d_RD_readBuffer_13 (by decide) ?_
  refine lv_bipush (v := (8 : Int32)) hx hb d_RD_readBuffer_14 (by decide) ?_
  refine lv_iconst (v := (1 : Int32)) hx hb d_RD_readBuffer_16 (by decide) ?_
  obtain ⟨q7, e6, h⟩ := xb h
  refine xk_i (xrunV (As := [.int (1 : Int32), .int (8 : Int32), .int (1 : Int32)]) (rest := [.int (0 : Int32), .ref (lay v3)]) ⟨hx, hb, hml, hown, hts⟩ (c_WO_expectNumber l hq D lay cA adK adV s0 S4 (1 : Int32) (8 : Int32) (1 : Int32) q7 e6) (cwV 3 hts (xT_V wd_530 wd_531 wd_532 wd_2 wd_533) rfl rfl rfl (by decide +kernel) ⟨Nat.le_of_ble_eq_true rfl, Nat.le_of_ble_eq_true rfl⟩) (xpV E hP hS (by decide) (xc_2 _ _ _ _) rfl) rfl rfl hl.1 rfl (lv_room (Nat.le_of_ble_eq_true rfl)) d_RD_readBuffer_17 ⟨Nat.le_of_ble_eq_true rfl, Nat.le_of_ble_eq_true rfl⟩) hS hnh hlk (fun S9 e9 => by subst e9; exact (Option.some.inj h).symm) (fun v8 S9 w10 H locs hP hS => ?_)
  subst w10
  dsimp only [xT2] at h
  obtain ⟨hk11, h⟩ := xg h
  obtain ⟨q13, e12, h⟩ := xb h
  refine xc_v (va_runV (As := [.int (0 : Int32), .int v8]) (rest := []) ⟨hx, hb, hml, hown, hts⟩ (c_RO_setLast l D lay cA adK adV s0 S9 v3 (0 : Int32) v8 q13 e12) (cwV 2 hts (xT_V wd_565 wd_566 wd_567 wd_5 wd_568) rfl rfl rfl (by decide +kernel) ⟨Nat.le_of_ble_eq_true rfl, Nat.le_of_ble_eq_true rfl⟩) (xpV E hP hS (xR_lt hk11).1 (xc_RO _ _ _ _ hk11) rfl) rfl rfl hl.1 rfl (lv_room (Nat.le_of_ble_eq_true rfl)) d_RD_readBuffer_20 ⟨Nat.le_of_ble_eq_true rfl, Nat.le_of_ble_eq_true rfl⟩) hS (fun H locs hP hS => ?_)
  refine lv_aload_n hx hb d_RD_readBuffer_23 rfl (lv_at hl 1 rfl) ?_
  refine va_get (v := .ref (lay 2)) (C := R_RD) (T := F_RD) (N := 4) hx hb hts i_RD hown hK hP 179 (xw_at (by decide) (xc_179 _ _ _ _)) rfl 0 (by decide) (hts _ wd_169) (fun _ h9 => h9) rfl d_RD_readBuffer_24 ?_
  refine va_ldcS hx hb hown (E.lit (List.mem_of_getElem? (i := 7) rfl : ("ConfigTexts$Reader", 80, ";", 6) ∈ xlits)) d_RD_readBuffer_27 ?_
  obtain ⟨q15, e14, h⟩ := xb h
  refine xk_v (xrunV (As := [.ref (adK 6)]) (rest := []) ⟨hx, hb, hml, hown, hts⟩ (c_WO_expect l hq D lay cA adK adV s0 q13 6 q15 e14) (cwV 1 hts (xT_V wd_493 wd_494 wd_495 wd_2 wd_496) rfl rfl rfl (by decide +kernel) ⟨Nat.le_of_ble_eq_true rfl, Nat.le_of_ble_eq_true rfl⟩) (xpV E hP hS (by decide) (xc_2 _ _ _ _) rfl) rfl rfl hl.1 rfl (lv_room (Nat.le_of_ble_eq_true rfl)) d_RD_readBuffer_29 ⟨Nat.le_of_ble_eq_true rfl, Nat.le_of_ble_eq_true rfl⟩) hS hnh hlk (fun S9 e9 => by subst e9; exact (Option.some.inj h).symm) (fun v16 S17 w18 H locs hP hS => ?_)
  subst w18
  dsimp only [xT2] at h
  have h9 := Option.some.inj h
  subst h9
  exact xret (W.vret hx hb hr (fun t ht hW => ⟨_, rfl, ⟨⟨(), S17, rfl, rfl, by show va_P D xcl _ t.heap; rw [ht]; exact hP⟩, hS.F ht⟩⟩) hS.2.2 d_RD_readBuffer_32)
theorem c_RD_readBuffer (l : Launch) (hq : l.stackTraces = false) (D : va_G) (lay : Nat → Nat) (cA : Nat → ClassId) (adK adV : Nat → Nat) (s0 : State) (S : XS) (a1 : Nat) (r : (Unit × XS) ⊕ XS) (h : f_RD_readBuffer S a1 = some r) : MetX l y_RD_readBuffer (.code y_RD_readBuffer b_RD_readBuffer 3 ((Option.none : Option Jvm.ClassFile.FieldType)) :: xT) rm_RD_readBuffer (xPc D lay cA adK adV s0 S [.ref (lay 179), .ref (lay a1)]) (xrv D lay cA r) (xrt D lay cA r) 0 0 1 6 (xI lay) := by
  refine MetX.ofW (cc := b_RD_readBuffer) (maxL := 3) (ret := (Option.none : Option Jvm.ClassFile.FieldType)) (by decide +kernel) rfl ?_
  intro p e s m args below meth c s₁ B hml hv
  obtain ⟨rfl, hP, E⟩ := hv
  have C := xB_of B hml
  have hl := lv_entry ([.ref (lay 179), .ref (lay a1)]) (n := 3) (Nat.le_of_ble_eq_true rfl)
  rw [lg_entry_eq]
  generalize (lg_sl ([.ref (lay 179), .ref (lay a1)]) ++ List.replicate (3 - (lg_sl ([.ref (lay 179), .ref (lay a1)])).length) Slot.unset).toArray = ls at hl ⊢
  exact k_RD_readBuffer l hq C E S a1 r h s.heap [] ls hP va_S.rf hl
/-! ConfigTexts$Reader.readPort(LConfigTexts$Partition;)V -/
def rm_RD_readPort : Room := { frames := 9, cells := 1, slots := 6, locals := 166 }
theorem d_RD_readPort_0 : decode b_RD_readPort 0 = .ok (.aload_n 0, 1) := by decide +kernel
theorem d_RD_readPort_1 : decode b_RD_readPort 1 = .ok (.aload_n 1, 1) := by decide +kernel
theorem d_RD_readPort_2 : decode b_RD_readPort 2 = .ok (.iconst 5, 1) := by decide +kernel
theorem d_RD_readPort_3 : decode b_RD_readPort 3 = .ok (.invokevirtual 76, 3) := by decide +kernel
theorem d_RD_readPort_6 : decode b_RD_readPort 6 = .ok (.astore_n 2, 1) := by decide +kernel
theorem d_RD_readPort_7 : decode b_RD_readPort 7 = .ok (.aload_n 2, 1) := by decide +kernel
theorem d_RD_readPort_8 : decode b_RD_readPort 8 = .ok (.iconst 0, 1) := by decide +kernel
theorem d_RD_readPort_9 : decode b_RD_readPort 9 = .ok (.aload_n 0, 1) := by decide +kernel
theorem d_RD_readPort_10 : decode b_RD_readPort 10 = .ok (.getfield 9, 3) := by decide +kernel
theorem d_RD_readPort_13 : decode b_RD_readPort 13 = .ok (.ldc 171, 2) := by decide +kernel
theorem d_RD_readPort_15 : decode b_RD_readPort 15 = .ok (.invokevirtual 173, 3) := by decide +kernel
theorem d_RD_readPort_18 : decode b_RD_readPort 18 = .ok (.invokevirtual 147, 3) := by decide +kernel
theorem d_RD_readPort_21 : decode b_RD_readPort 21 = .ok (.aload_n 0, 1) := by decide +kernel
theorem d_RD_readPort_22 : decode b_RD_readPort 22 = .ok (.getfield 9, 3) := by decide +kernel
theorem d_RD_readPort_25 : decode b_RD_readPort 25 = .ok (.invokevirtual 114, 3) := by decide +kernel
theorem d_RD_readPort_28 : decode b_RD_readPort 28 = .ok (.aload_n 2, 1) := by decide +kernel
theorem d_RD_readPort_29 : decode b_RD_readPort 29 = .ok (.iconst 1, 1) := by decide +kernel
theorem d_RD_readPort_30 : decode b_RD_readPort 30 = .ok (.aload_n 0, 1) := by decide +kernel
theorem d_RD_readPort_31 : decode b_RD_readPort 31 = .ok (.getfield 9, 3) := by decide +kernel
theorem d_RD_readPort_34 : decode b_RD_readPort 34 = .ok (.ldc 176, 2) := by decide +kernel
theorem d_RD_readPort_36 : decode b_RD_readPort 36 = .ok (.invokevirtual 173, 3) := by decide +kernel
theorem d_RD_readPort_39 : decode b_RD_readPort 39 = .ok (.invokevirtual 147, 3) := by decide +kernel
theorem d_RD_readPort_42 : decode b_RD_readPort 42 = .ok (.aload_n 0, 1) := by decide +kernel
theorem d_RD_readPort_43 : decode b_RD_readPort 43 = .ok (.getfield 9, 3) := by decide +kernel
theorem d_RD_readPort_46 : decode b_RD_readPort 46 = .ok (.invokevirtual 114, 3) := by decide +kernel
theorem d_RD_readPort_49 : decode b_RD_readPort 49 = .ok (.aload_n 2, 1) := by decide +kernel
theorem d_RD_readPort_50 : decode b_RD_readPort 50 = .ok (.iconst 2, 1) := by decide +kernel
theorem d_RD_readPort_51 : decode b_RD_readPort 51 = .ok (.iconst (-1), 1) := by decide +kernel
theorem d_RD_readPort_52 : decode b_RD_readPort 52 = .ok (.invokevirtual 147, 3) := by decide +kernel
theorem d_RD_readPort_55 : decode b_RD_readPort 55 = .ok (.aload_n 0, 1) := by decide +kernel
theorem d_RD_readPort_56 : decode b_RD_readPort 56 = .ok (.getfield 9, 3) := by decide +kernel
theorem d_RD_readPort_59 : decode b_RD_readPort 59 = .ok (.ldc 80, 2) := by decide +kernel
theorem d_RD_readPort_61 : decode b_RD_readPort 61 = .ok (.invokevirtual 82, 3) := by decide +kernel
theorem d_RD_readPort_64 : decode b_RD_readPort 64 = .ok (.return_, 1) := by decide +kernel
def f_RD_readPort (S : XS) (a1 : Nat) : Option ((Unit × XS) ⊕ XS) :=
  (f_RD_nameThing S a1 (5 : Int32)).bind (xT2 fun v3 S4 => (f_WO_expectOneOf S4 16).bind (xT2 fun v8 S9 => if xR v3 then ((f_RO_setLast S9 v3 (0 : Int32) v8).bind fun q13 => (f_WO_next q13).bind (xT2 fun _ S17 => (f_WO_expectOneOf S17 17).bind (xT2 fun v21 S22 => (f_RO_setLast S22 v3 (1 : Int32) v21).bind fun q25 => (f_WO_next q25).bind (xT2 fun _ S29 => (f_RO_setLast S29 v3 (2 : Int32) (-1 : Int32)).bind fun q32 => (f_WO_expect q32 6).bind (xT2 fun _ S36 => some (.inl ((), S36))))))) else none))
set_option maxHeartbeats 4000000 in
set_option maxRecDepth 100000 in
theorem k_RD_readPort (l : Launch) (hq : l.stackTraces = false) {p : Program} {e : Env} {s : State} {m : MethodId} {args : Array Value} {below : List Frame} {meth : Method} {c : Code} {D : va_G} {lay : Nat → Nat} {cA : Nat → ClassId} {adK adV : Nat → Nat} {s0 : State} (C : xB p s m args meth c R_RD b_RD_readPort ((Option.none : Option Jvm.ClassFile.FieldType)) 3) (E : xE D lay cA adK adV s0 s s.heap) : ∀ (S : XS) (a1 : Nat) (r : (Unit × XS) ⊕ XS) (_ : f_RD_readPort S a1 = some r) (H : Heap) (locs : List Loc) (ls : Array Slot), va_P D xcl (xw lay cA S) H → va_S (xI lay) s.heap H locs → lv_has ls 3 [(0, .ref (lay 179)), (1, .ref (lay a1))] → W p l e rm_RD_readPort s m args below meth c H locs 0 0 (XF below (xrv D lay cA r) (xrt D lay cA r) s 0 0 1 6 (xI lay)) (F0 m 0 ls []) := by
  obtain ⟨hx, hb, hr, hml, hown, hts, hlk, hnh⟩ := id C
  have hK := E.K
  intro S a1 r h H locs ls hP hS hl
  unfold f_RD_readPort at h
  refine lv_aload_n hx hb d_RD_readPort_0 rfl (lv_at hl 0 rfl) ?_
  refine lv_aload_n hx hb d_RD_readPort_1 rfl (lv_at hl 1 rfl) ?_
  refine lv_iconst (v := (5 : Int32)) hx hb d_RD_readPort_2 (by decide) ?_
  obtain ⟨q2, e1, h⟩ := xb h
  refine xk_r (xrunV (As := [.ref (lay a1), .int (5 : Int32)]) (rest := []) ⟨hx, hb, hml, hown, hts⟩ (c_RD_nameThing l hq D lay cA adK adV s0 S a1 (5 : Int32) q2 e1) (cwV 2 hts (xT_V wd_543 wd_545 wp_9 wd_6 wd_546) rfl rfl rfl (by decide +kernel) ⟨Nat.le_of_ble_eq_true rfl, Nat.le_of_ble_eq_true rfl⟩) (xpV E hP hS (by decide) (xc_179 _ _ _ _) rfl) rfl rfl hl.1 rfl (lv_room (Nat.le_of_ble_eq_true rfl)) d_RD_readPort_3 ⟨Nat.le_of_ble_eq_true rfl, Nat.le_of_ble_eq_true rfl⟩) hS hnh hlk (fun S9 e9 => by subst e9; exact (Option.some.inj h).symm) (fun v3 S4 w5 H locs hP hS => ?_)
  subst w5
  dsimp only [xT2] at h
  refine lv_astore_n (lv' := [(2, .ref (lay v3)), (0, .ref (lay 179)), (1, .ref (lay a1))]) hx hb d_RD_readPort_6 rfl hl (by decide) rfl (fun ls hl => ?_)
  refine lv_aload_n hx hb d_RD_readPort_7 rfl (lv_at hl 0 rfl) ?_
  refine lv_iconst (v := (0 : Int32)) hx hb d_RD_readPort_8 (by decide) ?_
  refine lv_aload_n hx hb d_RD_readPort_9 rfl (lv_at hl 1 rfl) ?_
  refine va_get (v := .ref (lay 2)) (C := R_RD) (T := F_RD) (N := 4) hx hb hts i_RD hown hK hP 179 (xw_at (by decide) (xc_179 _ _ _ _)) rfl 0 (by decide) (hts _ wd_169) (fun _ h9 => h9) rfl d_RD_readPort_10 ?_
  refine va_ldcS hx hb hown (E.lit (List.mem_of_getElem? (i := 17) rfl : ("ConfigTexts$Reader", 171, "in out", 16) ∈ xlits)) d_RD_readPort_13 ?_
  obtain ⟨q7, e6, h⟩ := xb h
  refine xk_i (xrunV (As := [.ref (adK 16)]) (rest := [.int (0 : Int32), .ref (lay v3)]) ⟨hx, hb, hml, hown, hts⟩ (c_WO_expectOneOf l hq D lay cA adK adV s0 S4 16 q7 e6) (cwV 1 hts (xT_V wd_594 wd_595 wd_596 wd_2 wd_597) rfl rfl rfl (by decide +kernel) ⟨Nat.le_of_ble_eq_true rfl, Nat.le_of_ble_eq_true rfl⟩) (xpV E hP hS (by decide) (xc_2 _ _ _ _) rfl) rfl rfl hl.1 rfl (lv_room (Nat.le_of_ble_eq_true rfl)) d_RD_readPort_15 ⟨Nat.le_of_ble_eq_true rfl, Nat.le_of_ble_eq_true rfl⟩) hS hnh hlk (fun S9 e9 => by subst e9; exact (Option.some.inj h).symm) (fun v8 S9 w10 H locs hP hS => ?_)
  subst w10
  dsimp only [xT2] at h
  obtain ⟨hk11, h⟩ := xg h
  obtain ⟨q13, e12, h⟩ := xb h
  refine xc_v (va_runV (As := [.int (0 : Int32), .int v8]) (rest := []) ⟨hx, hb, hml, hown, hts⟩ (c_RO_setLast l D lay cA adK adV s0 S9 v3 (0 : Int32) v8 q13 e12) (cwV 2 hts (xT_V wd_565 wd_566 wd_567 wd_5 wd_568) rfl rfl rfl (by decide +kernel) ⟨Nat.le_of_ble_eq_true rfl, Nat.le_of_ble_eq_true rfl⟩) (xpV E hP hS (xR_lt hk11).1 (xc_RO _ _ _ _ hk11) rfl) rfl rfl hl.1 rfl (lv_room (Nat.le_of_ble_eq_true rfl)) d_RD_readPort_18 ⟨Nat.le_of_ble_eq_true rfl, Nat.le_of_ble_eq_true rfl⟩) hS (fun H locs hP hS => ?_)
  refine lv_aload_n hx hb d_RD_readPort_21 rfl (lv_at hl 1 rfl) ?_
  refine va_get (v := .ref (lay 2)) (C := R_RD) (T := F_RD) (N := 4) hx hb hts i_RD hown hK hP 179 (xw_at (by decide) (xc_179 _ _ _ _)) rfl 0 (by decide) (hts _ wd_169) (fun _ h9 => h9) rfl d_RD_readPort_22 ?_
  obtain ⟨q15, e14, h⟩ := xb h
  refine xk_v (xrunV (As := []) (rest := []) ⟨hx, hb, hml, hown, hts⟩ (c_WO_next l hq D lay cA adK adV s0 q13 q15 e14) (cwV 0 hts (xT_V wd_522 wd_285 wd_286 wd_2 wd_287) rfl rfl rfl (by decide +kernel) ⟨Nat.le_of_ble_eq_true rfl, Nat.le_of_ble_eq_true rfl⟩) (xpV E hP hS (by decide) (xc_2 _ _ _ _) rfl) rfl rfl hl.1 rfl (lv_room (Nat.le_of_ble_eq_true rfl)) d_RD_readPort_25 ⟨Nat.le_of_ble_eq_true rfl, Nat.le_of_ble_eq_true rfl⟩) hS hnh hlk (fun S9 e9 => by subst e9; exact (Option.some.inj h).symm) (fun v16 S17 w18 H locs hP hS => ?_)
  subst w18
  dsimp only [xT2] at h
  refine lv_aload_n hx hb d_RD_readPort_28 rfl (lv_at hl 0 rfl) ?_
  refine lv_iconst (v := (1 : Int32)) hx hb d_RD_readPort_29 (by decide) ?_
  refine lv_aload_n hx hb d_RD_readPort_30 rfl (lv_at hl 1 rfl) ?_
  refine va_get (v := .ref (lay 2)) (C := R_RD) (T := F_RD) (N := 4) hx hb hts i_RD hown hK hP 179 (xw_at (by decide) (xc_179 _ _ _ _)) rfl 0 (by decide) (hts _ wd_169) (fun _ h9 => h9) rfl d_RD_readPort_31 ?_
  refine va_ldcS hx hb hown (E.lit (List.mem_of_getElem? (i := 18) rfl : ("ConfigTexts$Reader", 176, "sampling queuing", 17) ∈ xlits)) d_RD_readPort_34 ?_
  obtain ⟨q20, e19, h⟩ := xb h
  refine xk_i (xrunV (As := [.ref (adK 17)]) (rest := [.int (1 : Int32), .ref (lay v3)]) ⟨hx, hb, hml, hown, hts⟩ (c_WO_expectOneOf l hq D lay cA adK adV s0 S17 17 q20 e19) (cwV 1 hts (xT_V wd_594 wd_595 wd_596 wd_2 wd_597) rfl rfl rfl (by decide +kernel) ⟨Nat.le_of_ble_eq_true rfl, Nat.le_of_ble_eq_true rfl⟩) (xpV E hP hS (by decide) (xc_2 _ _ _ _) rfl) rfl rfl hl.1 rfl (lv_room (Nat.le_of_ble_eq_true rfl)) d_RD_readPort_36 ⟨Nat.le_of_ble_eq_true rfl, Nat.le_of_ble_eq_true rfl⟩) hS hnh hlk (fun S9 e9 => by subst e9; exact (Option.some.inj h).symm) (fun v21 S22 w23 H locs hP hS => ?_)
  subst w23
  dsimp only [xT2] at h
  obtain ⟨q25, e24, h⟩ := xb h
  refine xc_v (va_runV (As := [.int (1 : Int32), .int v21]) (rest := []) ⟨hx, hb, hml, hown, hts⟩ (c_RO_setLast l D lay cA adK adV s0 S22 v3 (1 : Int32) v21 q25 e24) (cwV 2 hts (xT_V wd_565 wd_566 wd_567 wd_5 wd_568) rfl rfl rfl (by decide +kernel) ⟨Nat.le_of_ble_eq_true rfl, Nat.le_of_ble_eq_true rfl⟩) (xpV E hP hS (xR_lt hk11).1 (xc_RO _ _ _ _ hk11) rfl) rfl rfl hl.1 rfl (lv_room (Nat.le_of_ble_eq_true rfl)) d_RD_readPort_39 ⟨Nat.le_of_ble_eq_true rfl, Nat.le_of_ble_eq_true rfl⟩) hS (fun H locs hP hS => ?_)
  refine lv_aload_n hx hb d_RD_readPort_42 rfl (lv_at hl 1 rfl) ?_
  refine va_get (v := .ref (lay 2)) (C := R_RD) (T := F_RD) (N := 4) hx hb hts i_RD hown hK hP 179 (xw_at (by decide) (xc_179 _ _ _ _)) rfl 0 (by decide) (hts _ wd_169) (fun _ h9 => h9) rfl d_RD_readPort_43 ?_
  obtain ⟨q27, e26, h⟩ := xb h
  refine xk_v (xrunV (As := []) (rest := []) ⟨hx, hb, hml, hown, hts⟩ (c_WO_next l hq D lay cA adK adV s0 q25 q27 e26) (cwV 0 hts (xT_V wd_522 wd_285 wd_286 wd_2 wd_287) rfl rfl rfl (by decide +kernel) ⟨Nat.le_of_ble_eq_true rfl, Nat.le_of_ble_eq_true rfl⟩) (xpV E hP hS (by decide) (xc_2 _ _ _ _) rfl) rfl rfl hl.1 rfl (lv_room (Nat.le_of_ble_eq_true rfl)) d_RD_readPort_46 ⟨Nat.le_of_ble_eq_true rfl, Nat.le_of_ble_eq_true rfl⟩) hS hnh hlk (fun S9 e9 => by subst e9; exact (Option.some.inj h).symm) (fun v28 S29 w30 H locs hP hS => ?_)
  subst w30
  dsimp only [xT2] at h
  refine lv_aload_n hx hb d_RD_readPort_49 rfl (lv_at hl 0 rfl) ?_
  refine lv_iconst (v := (2 : Int32)) hx hb d_RD_readPort_50 (by decide) ?_
  refine lv_iconst (v := (-1 : Int32)) hx hb d_RD_readPort_51 (by decide) ?_
  obtain ⟨q32, e31, h⟩ := xb h
  refine xc_v (va_runV (As := [.int (2 : Int32), .int (-1 : Int32)]) (rest := []) ⟨hx, hb, hml, hown, hts⟩ (c_RO_setLast l D lay cA adK adV s0 S29 v3 (2 : Int32) (-1 : Int32) q32 e31) (cwV 2 hts (xT_V wd_565 wd_566 wd_567 wd_5 wd_568) rfl rfl rfl (by decide +kernel) ⟨Nat.le_of_ble_eq_true rfl, Nat.le_of_ble_eq_true rfl⟩) (xpV E hP hS (xR_lt hk11).1 (xc_RO _ _ _ _ hk11) rfl) rfl rfl hl.1 rfl (lv_room (Nat.le_of_ble_eq_true rfl)) d_RD_readPort_52 ⟨Nat.le_of_ble_eq_true rfl, Nat.le_of_ble_eq_true rfl⟩) hS (fun H locs hP hS => ?_)
  refine lv_aload_n hx hb d_RD_readPort_55 rfl (lv_at hl 1 rfl) ?_
  refine va_get (v := .ref (lay 2)) (C := R_RD) (T := F_RD) (N := 4) hx hb hts i_RD hown hK hP 179 (xw_at (by decide) (xc_179 _ _ _ _)) rfl 0 (by decide) (hts _ wd_169) (fun _ h9 => h9) rfl d_RD_readPort_56 ?_
  refine va_ldcS hx hb hown (E.lit (List.mem_of_getElem? (i := 7) rfl : ("ConfigTexts$Reader", 80, ";", 6) ∈ xlits)) d_RD_readPort_59 ?_
  obtain ⟨q34, e33, h⟩ := xb h
  refine xk_v (xrunV (As := [.ref (adK 6)]) (rest := []) ⟨hx, hb, hml, hown, hts⟩ (c_WO_expect l hq D lay cA adK adV s0 q32 6 q34 e33) (cwV 1 hts (xT_V wd_493 wd_494 wd_495 wd_2 wd_496) rfl rfl rfl (by decide +kernel) ⟨Nat.le_of_ble_eq_true rfl, Nat.le_of_ble_eq_true rfl⟩) (xpV E hP hS (by decide) (xc_2 _ _ _ _) rfl) rfl rfl hl.1 rfl (lv_room (Nat.le_of_ble_eq_true rfl)) d_RD_readPort_61 ⟨Nat.le_of_ble_eq_true rfl, Nat.le_of_ble_eq_true rfl⟩) hS hnh hlk (fun S9 e9 => by subst e9; exact (Option.some.inj h).symm) (fun v35 S36 w37 H locs hP hS => ?_)
  subst w37
  dsimp only [xT2] at h
  have h9 := Option.some.inj h
  subst h9
  exact xret (W.vret hx hb hr (fun t ht hW => ⟨_, rfl, ⟨⟨(), S36, rfl, rfl, by show va_P D xcl _ t.heap; rw [ht]; exact hP⟩, hS.F ht⟩⟩) hS.2.2 d_RD_readPort_64)
theorem c_RD_readPort (l : Launch) (hq : l.stackTraces = false) (D : va_G) (lay : Nat → Nat) (cA : Nat → ClassId) (adK adV : Nat → Nat) (s0 : State) (S : XS) (a1 : Nat) (r : (Unit × XS) ⊕ XS) (h : f_RD_readPort S a1 = some r) : MetX l y_RD_readPort (.code y_RD_readPort b_RD_readPort 3 ((Option.none : Option Jvm.ClassFile.FieldType)) :: xT) rm_RD_readPort (xPc D lay cA adK adV s0 S [.ref (lay 179), .ref (lay a1)]) (xrv D lay cA r) (xrt D lay cA r) 0 0 1 6 (xI lay) := by
  refine MetX.ofW (cc := b_RD_readPort) (maxL := 3) (ret := (Option.none : Option Jvm.ClassFile.FieldType)) (by decide +kernel) rfl ?_
  intro p e s m args below meth c s₁ B hml hv
  obtain ⟨rfl, hP, E⟩ := hv
  have C := xB_of B hml
  have hl := lv_entry ([.ref (lay 179), .ref (lay a1)]) (n := 3) (Nat.le_of_ble_eq_true rfl)
  rw [lg_entry_eq]
  generalize (lg_sl ([.ref (lay 179), .ref (lay a1)]) ++ List.replicate (3 - (lg_sl ([.ref (lay 179), .ref (lay a1)])).length) Slot.unset).toArray = ls at hl ⊢
  exact k_RD_readPort l hq C E S a1 r h s.heap [] ls hP va_S.rf hl
/-! ConfigTexts$Reader.readAction()I -/
def rm_RD_readAction : Room := { frames := 8, cells := 1, slots := 6, locals := 143 }
theorem d_RD_readAction_0 : decode b_RD_readAction 0 = .ok (.aload_n 0, 1) := by decide +kernel
theorem d_RD_readAction_1 : decode b_RD_readAction 1 = .ok (.getfield 9, 3) := by decide +kernel
theorem d_RD_readAction_4 : decode b_RD_readAction 4 = .ok (.ldc 189, 2) := by decide +kernel
theorem d_RD_readAction_6 : decode b_RD_readAction 6 = .ok (.invokevirtual 173, 3) := by decide +kernel
theorem d_RD_readAction_9 : decode b_RD_readAction 9 = .ok (.istore_n 1, 1) := by decide +kernel
theorem d_RD_readAction_10 : decode b_RD_readAction 10 = .ok (.iload_n 1, 1) := by decide +kernel
theorem d_RD_readAction_11 : decode b_RD_readAction 11 = .ok (.bipush 6, 2) := by decide +kernel
theorem d_RD_readAction_13 : decode b_RD_readAction 13 = .ok (.if_icmp .ne 22, 3) := by decide +kernel
theorem d_RD_readAction_16 : decode b_RD_readAction 16 = .ok (.aload_n 0, 1) := by decide +kernel
theorem d_RD_readAction_17 : decode b_RD_readAction 17 = .ok (.getfield 23, 3) := by decide +kernel
theorem d_RD_readAction_20 : decode b_RD_readAction 20 = .ok (.iconst (-1), 1) := by decide +kernel
theorem d_RD_readAction_21 : decode b_RD_readAction 21 = .ok (.if_icmp .ne 14, 3) := by decide +kernel
theorem d_RD_readAction_24 : decode b_RD_readAction 24 = .ok (.aload_n 0, 1) := by decide +kernel
theorem d_RD_readAction_25 : decode b_RD_readAction 25 = .ok (.aload_n 0, 1) := by decide +kernel
theorem d_RD_readAction_26 : decode b_RD_readAction 26 = .ok (.getfield 9, 3) := by decide +kernel
theorem d_RD_readAction_29 : decode b_RD_readAction 29 = .ok (.getfield 191, 3) := by decide +kernel
theorem d_RD_readAction_32 : decode b_RD_readAction 32 = .ok (.putfield 23, 3) := by decide +kernel
theorem d_RD_readAction_35 : decode b_RD_readAction 35 = .ok (.aload_n 0, 1) := by decide +kernel
theorem d_RD_readAction_36 : decode b_RD_readAction 36 = .ok (.getfield 9, 3) := by decide +kernel
theorem d_RD_readAction_39 : decode b_RD_readAction 39 = .ok (.invokevirtual 114, 3) := by decide +kernel
theorem d_RD_readAction_42 : decode b_RD_readAction 42 = .ok (.iload_n 1, 1) := by decide +kernel
theorem d_RD_readAction_43 : decode b_RD_readAction 43 = .ok (.ireturn, 1) := by decide +kernel
def f_RD_readAction (S : XS)  : Option ((Int32 × XS) ⊕ XS) :=
  (f_WO_expectOneOf S 20).bind (xT2 fun v3 S4 => if v3 = (6 : Int32) then (if (xgi S4 179 3) = (-1 : Int32) then ((f_WO_next (xpi S4 179 3 (xgi S4 2 2))).bind (xT2 fun _ S19 => some (.inl (v3, S19)))) else ((f_WO_next S4).bind (xT2 fun _ S14 => some (.inl (v3, S14))))) else ((f_WO_next S4).bind (xT2 fun _ S9 => some (.inl (v3, S9)))))
set_option maxHeartbeats 4000000 in
set_option maxRecDepth 100000 in
theorem k_RD_readAction (l : Launch) (hq : l.stackTraces = false) {p : Program} {e : Env} {s : State} {m : MethodId} {args : Array Value} {below : List Frame} {meth : Method} {c : Code} {D : va_G} {lay : Nat → Nat} {cA : Nat → ClassId} {adK adV : Nat → Nat} {s0 : State} (C : xB p s m args meth c R_RD b_RD_readAction ((Option.some Jvm.ClassFile.FieldType.int)) 2) (E : xE D lay cA adK adV s0 s s.heap) : ∀ (S : XS)  (r : (Int32 × XS) ⊕ XS) (_ : f_RD_readAction S = some r) (H : Heap) (locs : List Loc) (ls : Array Slot), va_P D xcl (xw lay cA S) H → va_S (xI lay) s.heap H locs → lv_has ls 2 [(0, .ref (lay 179))] → W p l e rm_RD_readAction s m args below meth c H locs 0 0 (XF below (xri D lay cA r) (xrt D lay cA r) s 0 0 1 6 (xI lay)) (F0 m 0 ls []) := by
  obtain ⟨hx, hb, hr, hml, hown, hts, hlk, hnh⟩ := id C
  have hK := E.K
  intro S r h H locs ls hP hS hl
  unfold f_RD_readAction at h
  refine lv_aload_n hx hb d_RD_readAction_0 rfl (lv_at hl 0 rfl) ?_
  refine va_get (v := .ref (lay 2)) (C := R_RD) (T := F_RD) (N := 4) hx hb hts i_RD hown hK hP 179 (xw_at (by decide) (xc_179 _ _ _ _)) rfl 0 (by decide) (hts _ wd_169) (fun _ h9 => h9) rfl d_RD_readAction_1 ?_
  refine va_ldcS hx hb hown (E.lit (List.mem_of_getElem? (i := 21) rfl : ("ConfigTexts$Reader", 189, "skip stop again warm cold idle handle", 20) ∈ xlits)) d_RD_readAction_4 ?_
  obtain ⟨q2, e1, h⟩ := xb h
  refine xk_i (xrunV (As := [.ref (adK 20)]) (rest := []) ⟨hx, hb, hml, hown, hts⟩ (c_WO_expectOneOf l hq D lay cA adK adV s0 S 20 q2 e1) (cwV 1 hts (xT_V wd_594 wd_595 wd_596 wd_2 wd_597) rfl rfl rfl (by decide +kernel) ⟨Nat.le_of_ble_eq_true rfl, Nat.le_of_ble_eq_true rfl⟩) (xpV E hP hS (by decide) (xc_2 _ _ _ _) rfl) rfl rfl hl.1 rfl (lv_room (Nat.le_of_ble_eq_true rfl)) d_RD_readAction_6 ⟨Nat.le_of_ble_eq_true rfl, Nat.le_of_ble_eq_true rfl⟩) hS hnh hlk (fun S9 e9 => by subst e9; exact (Option.some.inj h).symm) (fun v3 S4 w5 H locs hP hS => ?_)
  subst w5
  dsimp only [xT2] at h
  refine lv_istore_n (lv' := [(1, .int v3), (0, .ref (lay 179))]) hx hb d_RD_readAction_9 rfl hl (by decide) rfl (fun ls hl => ?_)
  refine lv_iload_n hx hb d_RD_readAction_10 rfl (lv_at hl 0 rfl) ?_
  refine lv_bipush (v := (6 : Int32)) hx hb d_RD_readAction_11 (by decide) ?_
  refine lv_icmp_ne (tgt := 35) hx hb d_RD_readAction_13 (by decide) (fun c_22 => ?_) (fun c_22 => ?_)
  · have h := xif_f c_22 h
    refine lv_aload_n hx hb d_RD_readAction_35 rfl (lv_at hl 1 rfl) ?_
    refine va_get (v := .ref (lay 2)) (C := R_RD) (T := F_RD) (N := 4) hx hb hts i_RD hown hK hP 179 (xw_at (by decide) (xc_179 _ _ _ _)) rfl 0 (by decide) (hts _ wd_169) (fun _ h9 => h9) rfl d_RD_readAction_36 ?_
    obtain ⟨q7, e6, h⟩ := xb h
    refine xk_v (xrunV (As := []) (rest := []) ⟨hx, hb, hml, hown, hts⟩ (c_WO_next l hq D lay cA adK adV s0 S4 q7 e6) (cwV 0 hts (xT_V wd_522 wd_285 wd_286 wd_2 wd_287) rfl rfl rfl (by decide +kernel) ⟨Nat.le_of_ble_eq_true rfl, Nat.le_of_ble_eq_true rfl⟩) (xpV E hP hS (by decide) (xc_2 _ _ _ _) rfl) rfl rfl hl.1 rfl (lv_room (Nat.le_of_ble_eq_true rfl)) d_RD_readAction_39 ⟨Nat.le_of_ble_eq_true rfl, Nat.le_of_ble_eq_true rfl⟩) hS hnh hlk (fun S9 e9 => by subst e9; exact (Option.some.inj h).symm) (fun v8 S9 w10 H locs hP hS => ?_)
    subst w10
    dsimp only [xT2] at h
    refine lv_iload_n hx hb d_RD_readAction_42 rfl (lv_at hl 0 rfl) ?_
    have h9 := Option.some.inj h
    subst h9
    exact xret (W.iret (v := v3) hx hb hr (fun t ht hW => ⟨_, rfl, ⟨⟨v3, S9, rfl, rfl, by show va_P D xcl _ t.heap; rw [ht]; exact hP⟩, hS.F ht⟩⟩) hS.2.2 d_RD_readAction_43)
  · have h := xif_t c_22 h
    refine lv_aload_n hx hb d_RD_readAction_16 rfl (lv_at hl 1 rfl) ?_
    refine va_get (v := .int (xgi S4 179 3)) (C := R_RD) (T := F_RD) (N := 4) hx hb hts i_RD hown hK hP 179 (xw_at (by decide) (xc_179 _ _ _ _)) rfl 3 (by decide) (hts _ wd_172) (fun _ h9 => h9) rfl d_RD_readAction_17 ?_
    refine lv_iconst (v := (-1 : Int32)) hx hb d_RD_readAction_20 (by decide) ?_
    refine lv_icmp_ne (tgt := 35) hx hb d_RD_readAction_21 (by decide) (fun c_21 => ?_) (fun c_21 => ?_)
    · have h := xif_f c_21 h
      refine lv_aload_n hx hb d_RD_readAction_35 rfl (lv_at hl 1 rfl) ?_
      refine va_get (v := .ref (lay 2)) (C := R_RD) (T := F_RD) (N := 4) hx hb hts i_RD hown hK hP 179 (xw_at (by decide) (xc_179 _ _ _ _)) rfl 0 (by decide) (hts _ wd_169) (fun _ h9 => h9) rfl d_RD_readAction_36 ?_
      obtain ⟨q12, e11, h⟩ := xb h
      refine xk_v (xrunV (As := []) (rest := []) ⟨hx, hb, hml, hown, hts⟩ (c_WO_next l hq D lay cA adK adV s0 S4 q12 e11) (cwV 0 hts (xT_V wd_522 wd_285 wd_286 wd_2 wd_287) rfl rfl rfl (by decide +kernel) ⟨Nat.le_of_ble_eq_true rfl, Nat.le_of_ble_eq_true rfl⟩) (xpV E hP hS (by decide) (xc_2 _ _ _ _) rfl) rfl rfl hl.1 rfl (lv_room (Nat.le_of_ble_eq_true rfl)) d_RD_readAction_39 ⟨Nat.le_of_ble_eq_true rfl, Nat.le_of_ble_eq_true rfl⟩) hS hnh hlk (fun S9 e9 => by subst e9; exact (Option.some.inj h).symm) (fun v13 S14 w15 H locs hP hS => ?_)
      subst w15
      dsimp only [xT2] at h
      refine lv_iload_n hx hb d_RD_readAction_42 rfl (lv_at hl 0 rfl) ?_
      have h9 := Option.some.inj h
      subst h9
      exact xret (W.iret (v := v3) hx hb hr (fun t ht hW => ⟨_, rfl, ⟨⟨v3, S14, rfl, rfl, by show va_P D xcl _ t.heap; rw [ht]; exact hP⟩, hS.F ht⟩⟩) hS.2.2 d_RD_readAction_43)
    · have h := xif_t c_21 h
      refine lv_aload_n hx hb d_RD_readAction_24 rfl (lv_at hl 1 rfl) ?_
      refine lv_aload_n hx hb d_RD_readAction_25 rfl (lv_at hl 1 rfl) ?_
      refine va_get (v := .ref (lay 2)) (C := R_RD) (T := F_RD) (N := 4) hx hb hts i_RD hown hK hP 179 (xw_at (by decide) (xc_179 _ _ _ _)) rfl 0 (by decide) (hts _ wd_169) (fun _ h9 => h9) rfl d_RD_readAction_26 ?_
      refine va_getN (v := .int (xgi S4 2 2)) (C := R_WO) (T := F_WO) (N := 9) hx hb hts i_WO hown hK hP 2 (xw_at (by decide) (xc_2 _ _ _ _)) rfl 2 (by decide) (E.nest wn_35) (fun _ h9 => h9) rfl d_RD_readAction_29 ?_
      refine xput_RD_3 hx hb hts hown E hP hS (hts _ wd_172) d_RD_readAction_32 (fun H locs hP hS => ?_)
      refine lv_aload_n hx hb d_RD_readAction_35 rfl (lv_at hl 1 rfl) ?_
      refine va_get (v := .ref (lay 2)) (C := R_RD) (T := F_RD) (N := 4) hx hb hts i_RD hown hK hP 179 (xw_at (by decide) (xc_179 _ _ _ _)) rfl 0 (by decide) (hts _ wd_169) (fun _ h9 => h9) rfl d_RD_readAction_36 ?_
      obtain ⟨q17, e16, h⟩ := xb h
      refine xk_v (xrunV (As := []) (rest := []) ⟨hx, hb, hml, hown, hts⟩ (c_WO_next l hq D lay cA adK adV s0 (xpi S4 179 3 (xgi S4 2 2)) q17 e16) (cwV 0 hts (xT_V wd_522 wd_285 wd_286 wd_2 wd_287) rfl rfl rfl (by decide +kernel) ⟨Nat.le_of_ble_eq_true rfl, Nat.le_of_ble_eq_true rfl⟩) (xpV E hP hS (by decide) (xc_2 _ _ _ _) rfl) rfl rfl hl.1 rfl (lv_room (Nat.le_of_ble_eq_true rfl)) d_RD_readAction_39 ⟨Nat.le_of_ble_eq_true rfl, Nat.le_of_ble_eq_true rfl⟩) hS hnh hlk (fun S9 e9 => by subst e9; exact (Option.some.inj h).symm) (fun v18 S19 w20 H locs hP hS => ?_)
      subst w20
      dsimp only [xT2] at h
      refine lv_iload_n hx hb d_RD_readAction_42 rfl (lv_at hl 0 rfl) ?_
      have h9 := Option.some.inj h
      subst h9
      exact xret (W.iret (v := v3) hx hb hr (fun t ht hW => ⟨_, rfl, ⟨⟨v3, S19, rfl, rfl, by show va_P D xcl _ t.heap; rw [ht]; exact hP⟩, hS.F ht⟩⟩) hS.2.2 d_RD_readAction_43)
theorem c_RD_readAction (l : Launch) (hq : l.stackTraces = false) (D : va_G) (lay : Nat → Nat) (cA : Nat → ClassId) (adK adV : Nat → Nat) (s0 : State) (S : XS)  (r : (Int32 × XS) ⊕ XS) (h : f_RD_readAction S  = some r) : MetX l y_RD_readAction (.code y_RD_readAction b_RD_readAction 2 ((Option.some Jvm.ClassFile.FieldType.int)) :: xT) rm_RD_readAction (xPc D lay cA adK adV s0 S [.ref (lay 179)]) (xri D lay cA r) (xrt D lay cA r) 0 0 1 6 (xI lay) := by
  refine MetX.ofW (cc := b_RD_readAction) (maxL := 2) (ret := (Option.some Jvm.ClassFile.FieldType.int)) (by decide +kernel) rfl ?_
  intro p e s m args below meth c s₁ B hml hv
  obtain ⟨rfl, hP, E⟩ := hv
  have C := xB_of B hml
  have hl := lv_entry ([.ref (lay 179)]) (n := 2) (Nat.le_of_ble_eq_true rfl)
  rw [lg_entry_eq]
  generalize (lg_sl ([.ref (lay 179)]) ++ List.replicate (2 - (lg_sl ([.ref (lay 179)])).length) Slot.unset).toArray = ls at hl ⊢
  exact k_RD_readAction l hq C E S  r h s.heap [] ls hP va_S.rf hl
/-! ConfigTexts$Reader.readErrors(LConfigTexts$Partition;)V -/
def rm_RD_readErrors : Room := { frames := 9, cells := 1, slots := 6, locals := 164 }
theorem d_RD_readErrors_0 : decode b_RD_readErrors 0 = .ok (.aload_n 0, 1) := by decide +kernel
theorem d_RD_readErrors_1 : decode b_RD_readErrors 1 = .ok (.getfield 19, 3) := by decide +kernel
theorem d_RD_readErrors_4 : decode b_RD_readErrors 4 = .ok (.ifCond .eq 24, 3) := by decide +kernel
theorem d_RD_readErrors_7 : decode b_RD_readErrors 7 = .ok (.aload_n 0, 1) := by decide +kernel
theorem d_RD_readErrors_8 : decode b_RD_readErrors 8 = .ok (.getfield 9, 3) := by decide +kernel
theorem d_RD_readErrors_11 : decode b_RD_readErrors 11 = .ok (.ldc 178, 2) := by decide +kernel
theorem d_RD_readErrors_13 : decode b_RD_readErrors 13 = .ok (.invokevirtual 51, 3) := by decide +kernel
theorem d_RD_readErrors_16 : decode b_RD_readErrors 16 = .ok (.ifCond .eq 12, 3) := by decide +kernel
theorem d_RD_readErrors_19 : decode b_RD_readErrors 19 = .ok (.aload_n 0, 1) := by decide +kernel
theorem d_RD_readErrors_20 : decode b_RD_readErrors 20 = .ok (.getfield 9, 3) := by decide +kernel
theorem d_RD_readErrors_23 : decode b_RD_readErrors 23 = .ok (.bipush 7, 2) := by decide +kernel
theorem d_RD_readErrors_25 : decode b_RD_readErrors 25 = .ok (.invokevirtual 98, 3) := by decide +kernel
theorem d_RD_readErrors_28 : decode b_RD_readErrors 28 = .ok (.aload_n 0, 1) := by decide +kernel
theorem d_RD_readErrors_29 : decode b_RD_readErrors 29 = .ok (.getfield 9, 3) := by decide +kernel
theorem d_RD_readErrors_32 : decode b_RD_readErrors 32 = .ok (.ldc 178, 2) := by decide +kernel
theorem d_RD_readErrors_34 : decode b_RD_readErrors 34 = .ok (.invokevirtual 82, 3) := by decide +kernel
theorem d_RD_readErrors_37 : decode b_RD_readErrors 37 = .ok (.aload_n 0, 1) := by decide +kernel
theorem d_RD_readErrors_38 : decode b_RD_readErrors 38 = .ok (.iconst 1, 1) := by decide +kernel
theorem d_RD_readErrors_39 : decode b_RD_readErrors 39 = .ok (.putfield 19, 3) := by decide +kernel
theorem d_RD_readErrors_42 : decode b_RD_readErrors 42 = .ok (.aload_n 0, 1) := by decide +kernel
theorem d_RD_readErrors_43 : decode b_RD_readErrors 43 = .ok (.getfield 9, 3) := by decide +kernel
theorem d_RD_readErrors_46 : decode b_RD_readErrors 46 = .ok (.ldc 117, 2) := by decide +kernel
theorem d_RD_readErrors_48 : decode b_RD_readErrors 48 = .ok (.invokevirtual 82, 3) := by decide +kernel
theorem d_RD_readErrors_51 : decode b_RD_readErrors 51 = .ok (.iconst 0, 1) := by decide +kernel
theorem d_RD_readErrors_52 : decode b_RD_readErrors 52 = .ok (.istore_n 2, 1) := by decide +kernel
theorem d_RD_readErrors_53 : decode b_RD_readErrors 53 = .ok (.iconst 0, 1) := by decide +kernel
theorem d_RD_readErrors_54 : decode b_RD_readErrors 54 = .ok (.istore_n 3, 1) := by decide +kernel
theorem d_RD_readErrors_55 : decode b_RD_readErrors 55 = .ok (.iload_n 3, 1) := by decide +kernel
theorem d_RD_readErrors_56 : decode b_RD_readErrors 56 = .ok (.iconst 4, 1) := by decide +kernel
theorem d_RD_readErrors_57 : decode b_RD_readErrors 57 = .ok (.if_icmp .gt 96, 3) := by decide +kernel
theorem d_RD_readErrors_60 : decode b_RD_readErrors 60 = .ok (.iload_n 3, 1) := by decide +kernel
theorem d_RD_readErrors_61 : decode b_RD_readErrors 61 = .ok (.ifCond .eq 15, 3) := by decide +kernel
theorem d_RD_readErrors_64 : decode b_RD_readErrors 64 = .ok (.aload_n 0, 1) := by decide +kernel
theorem d_RD_readErrors_65 : decode b_RD_readErrors 65 = .ok (.getfield 9, 3) := by decide +kernel
theorem d_RD_readErrors_68 : decode b_RD_readErrors 68 = .ok (.ldc 49, 2) := by decide +kernel
theorem d_RD_readErrors_70 : decode b_RD_readErrors 70 = .ok (.invokevirtual 51, 3) := by decide +kernel
theorem d_RD_readErrors_73 : decode b_RD_readErrors 73 = .ok (.ifCond .ne 80, 3) := by decide +kernel
theorem d_RD_readErrors_76 : decode b_RD_readErrors 76 = .ok (.aload_n 0, 1) := by decide +kernel
theorem d_RD_readErrors_77 : decode b_RD_readErrors 77 = .ok (.getfield 9, 3) := by decide +kernel
theorem d_RD_readErrors_80 : decode b_RD_readErrors 80 = .ok (.ldc 180, 2) := by decide +kernel
theorem d_RD_readErrors_82 : decode b_RD_readErrors 82 = .ok (.invokevirtual 173, 3) := by decide +kernel
theorem d_RD_readErrors_85 : decode b_RD_readErrors 85 = .ok (.istore 4, 2) := by decide +kernel
theorem d_RD_readErrors_87 : decode b_RD_readErrors 87 = .ok (.iload_n 2, 1) := by decide +kernel
theorem d_RD_readErrors_88 : decode b_RD_readErrors 88 = .ok (.iconst 1, 1) := by decide +kernel
theorem d_RD_readErrors_89 : decode b_RD_readErrors 89 = .ok (.iload 4, 2) := by decide +kernel
theorem d_RD_readErrors_91 : decode b_RD_readErrors 91 = .ok (.ishl, 1) := by decide +kernel
theorem d_RD_readErrors_92 : decode b_RD_readErrors 92 = .ok (.iand, 1) := by decide +kernel
theorem d_RD_readErrors_93 : decode b_RD_readErrors 93 = .ok (.ifCond .eq 12, 3) := by decide +kernel
theorem d_RD_readErrors_96 : decode b_RD_readErrors 96 = .ok (.aload_n 0, 1) := by decide +kernel
theorem d_RD_readErrors_97 : decode b_RD_readErrors 97 = .ok (.getfield 9, 3) := by decide +kernel
theorem d_RD_readErrors_100 : decode b_RD_readErrors 100 = .ok (.bipush 7, 2) := by decide +kernel
theorem d_RD_readErrors_102 : decode b_RD_readErrors 102 = .ok (.invokevirtual 98, 3) := by decide +kernel
theorem d_RD_readErrors_105 : decode b_RD_readErrors 105 = .ok (.iload_n 2, 1) := by decide +kernel
theorem d_RD_readErrors_106 : decode b_RD_readErrors 106 = .ok (.iconst 1, 1) := by decide +kernel
theorem d_RD_readErrors_107 : decode b_RD_readErrors 107 = .ok (.iload 4, 2) := by decide +kernel
theorem d_RD_readErrors_109 : decode b_RD_readErrors 109 = .ok (.ishl, 1) := by decide +kernel
theorem d_RD_readErrors_110 : decode b_RD_readErrors 110 = .ok (.ior, 1) := by decide +kernel
theorem d_RD_readErrors_111 : decode b_RD_readErrors 111 = .ok (.istore_n 2, 1) := by decide +kernel
theorem d_RD_readErrors_112 : decode b_RD_readErrors 112 = .ok (.aload_n 0, 1) := by decide +kernel
theorem d_RD_readErrors_113 : decode b_RD_readErrors 113 = .ok (.getfield 9, 3) := by decide +kernel
theorem d_RD_readErrors_116 : decode b_RD_readErrors 116 = .ok (.invokevirtual 114, 3) := by decide +kernel
theorem d_RD_readErrors_119 : decode b_RD_readErrors 119 = .ok (.aload_n 0, 1) := by decide +kernel
theorem d_RD_readErrors_120 : decode b_RD_readErrors 120 = .ok (.getfield 9, 3) := by decide +kernel
theorem d_RD_readErrors_123 : decode b_RD_readErrors 123 = .ok (.ldc 163, 2) := by decide +kernel
theorem d_RD_readErrors_125 : decode b_RD_readErrors 125 = .ok (.invokevirtual 82, 3) := by decide +kernel
theorem d_RD_readErrors_128 : decode b_RD_readErrors 128 = .ok (.aload_n 1, 1) := by decide +kernel
theorem d_RD_readErrors_129 : decode b_RD_readErrors 129 = .ok (.iload 4, 2) := by decide +kernel
theorem d_RD_readErrors_131 : decode b_RD_readErrors 131 = .ok (.aload_n 0, 1) := by decide +kernel
theorem d_RD_readErrors_132 : decode b_RD_readErrors 132 = .ok (.invokevirtual 182, 3) := by decide +kernel
theorem d_RD_readErrors_135 : decode b_RD_readErrors 135 = .ok (.invokevirtual 186, 3) := by decide +kernel
theorem d_RD_readErrors_138 : decode b_RD_readErrors 138 = .ok (.aload_n 0, 1) := by decide +kernel
theorem d_RD_readErrors_139 : decode b_RD_readErrors 139 = .ok (.getfield 9, 3) := by decide +kernel
theorem d_RD_readErrors_142 : decode b_RD_readErrors 142 = .ok (.ldc 80, 2) := by decide +kernel
theorem d_RD_readErrors_144 : decode b_RD_readErrors 144 = .ok (.invokevirtual 82, 3) := by decide +kernel
theorem d_RD_readErrors_147 : decode b_RD_readErrors 147 = .ok (.iinc 3 1, 3) := by decide +kernel
theorem d_RD_readErrors_150 : decode b_RD_readErrors 150 = .ok (.goto (-95), 3) := by decide +kernel
theorem d_RD_readErrors_153 : decode b_RD_readErrors 153 = .ok (.aload_n 0, 1) := by decide +kernel
theorem d_RD_readErrors_154 : decode b_RD_readErrors 154 = .ok (.getfield 9, 3) := by decide +kernel
theorem d_RD_readErrors_157 : decode b_RD_readErrors 157 = .ok (.ldc 49, 2) := by decide +kernel
theorem d_RD_readErrors_159 : decode b_RD_readErrors 159 = .ok (.invokevirtual 82, 3) := by decide +kernel
theorem d_RD_readErrors_162 : decode b_RD_readErrors 162 = .ok (.return_, 1) := by decide +kernel
def f_RD_readErrors_55 : Nat → XS → Nat → Int32 → Int32 → Option ((Unit × XS) ⊕ XS)
  | 0, _, _, _, _ => none
  | n + 1, S, a1, a2, a3 =>
    if (4 : Int32) < a3 then ((f_WO_expect S 7).bind (xT2 fun _ S23 => some (.inl ((), S23)))) else (if a3 = 0 then ((f_WO_expectOneOf S 19).bind (xT2 fun v27 S28 => if (a2 &&& ((1 : Int32) <<< (v27 &&& 31))) = 0 then ((f_WO_next S28).bind (xT2 fun _ S33 => (f_WO_expect S33 15).bind (xT2 fun _ S38 => (f_RD_readAction S38).bind (xT2 fun v42 S43 => if xP a1 then ((f_PA_setAction S43 a1 v27 v42).bind fun q47 => (f_WO_expect q47 6).bind (xT2 fun _ S51 => f_RD_readErrors_55 n S51 a1 (a2 ||| ((1 : Int32) <<< (v27 &&& 31))) (a3 + (1 : Int32)))) else none)))) else ((f_WO_fail S28 (7 : Int32)).bind (xT2 fun _ S56 => (f_WO_next S56).bind (xT2 fun _ S61 => (f_WO_expect S61 15).bind (xT2 fun _ S66 => (f_RD_readAction S66).bind (xT2 fun v70 S71 => if xP a1 then ((f_PA_setAction S71 a1 v27 v70).bind fun q75 => (f_WO_expect q75 6).bind (xT2 fun _ S79 => f_RD_readErrors_55 n S79 a1 (a2 ||| ((1 : Int32) <<< (v27 &&& 31))) (a3 + (1 : Int32)))) else none))))))) else ((f_WO_is S 7).bind fun q83 => if q83 = 0 then ((f_WO_expectOneOf S 19).bind (xT2 fun v91 S92 => if (a2 &&& ((1 : Int32) <<< (v91 &&& 31))) = 0 then ((f_WO_next S92).bind (xT2 fun _ S97 => (f_WO_expect S97 15).bind (xT2 fun _ S102 => (f_RD_readAction S102).bind (xT2 fun v106 S107 => if xP a1 then ((f_PA_setAction S107 a1 v91 v106).bind fun q111 => (f_WO_expect q111 6).bind (xT2 fun _ S115 => f_RD_readErrors_55 n S115 a1 (a2 ||| ((1 : Int32) <<< (v91 &&& 31))) (a3 + (1 : Int32)))) else none)))) else ((f_WO_fail S92 (7 : Int32)).bind (xT2 fun _ S120 => (f_WO_next S120).bind (xT2 fun _ S125 => (f_WO_expect S125 15).bind (xT2 fun _ S130 => (f_RD_readAction S130).bind (xT2 fun v134 S135 => if xP a1 then ((f_PA_setAction S135 a1 v91 v134).bind fun q139 => (f_WO_expect q139 6).bind (xT2 fun _ S143 => f_RD_readErrors_55 n S143 a1 (a2 ||| ((1 : Int32) <<< (v91 &&& 31))) (a3 + (1 : Int32)))) else none))))))) else ((f_WO_expect S 7).bind (xT2 fun _ S87 => some (.inl ((), S87))))))
set_option maxHeartbeats 4000000 in
set_option maxRecDepth 100000 in
theorem k_RD_readErrors_55 (l : Launch) (hq : l.stackTraces = false) {p : Program} {e : Env} {s : State} {m : MethodId} {args : Array Value} {below : List Frame} {meth : Method} {c : Code} {D : va_G} {lay : Nat → Nat} {cA : Nat → ClassId} {adK adV : Nat → Nat} {s0 : State} (C : xB p s m args meth c R_RD b_RD_readErrors ((Option.none : Option Jvm.ClassFile.FieldType)) 5) (E : xE D lay cA adK adV s0 s s.heap) : ∀ (n : Nat) (S : XS) (a1 : Nat) (a2 : Int32) (a3 : Int32) (r : (Unit × XS) ⊕ XS) (_ : f_RD_readErrors_55 n S a1 a2 a3 = some r) (H : Heap) (locs : List Loc) (ls : Array Slot), va_P D xcl (xw lay cA S) H → va_S (xI lay) s.heap H locs → lv_has ls 5 [(0, .ref (lay 179)), (1, .ref (lay a1)), (2, .int a2), (3, .int a3)] → W p l e rm_RD_readErrors s m args below meth c H locs 0 0 (XF below (xrv D lay cA r) (xrt D lay cA r) s 0 0 1 6 (xI lay)) (F0 m 55 ls []) := by
  obtain ⟨hx, hb, hr, hml, hown, hts, hlk, hnh⟩ := id C
  have hK := E.K
  intro n
  induction n with
  | zero => intro S a1 a2 a3 r h; rw [f_RD_readErrors_55] at h; cases h
  | succ n ih =>
    intro S a1 a2 a3 r h H locs ls hP hS hl
    rw [f_RD_readErrors_55] at h
    refine lv_iload_n hx hb d_RD_readErrors_55 rfl (lv_at hl 3 rfl) ?_
    refine lv_iconst (v := (4 : Int32)) hx hb d_RD_readErrors_56 (by decide) ?_
    refine lv_icmp_gt (tgt := 153) hx hb d_RD_readErrors_57 (by decide) (fun c_148 => ?_) (fun c_148 => ?_)
    · have h := xif_t c_148 h
      refine lv_aload_n hx hb d_RD_readErrors_153 rfl (lv_at hl 0 rfl) ?_
      refine va_get (v := .ref (lay 2)) (C := R_RD) (T := F_RD) (N := 4) hx hb hts i_RD hown hK hP 179 (xw_at (by decide) (xc_179 _ _ _ _)) rfl 0 (by decide) (hts _ wd_169) (fun _ h9 => h9) rfl d_RD_readErrors_154 ?_
      refine va_ldcS hx hb hown (E.lit (List.mem_of_getElem? (i := 8) rfl : ("ConfigTexts$Reader", 49, "}", 7) ∈ xlits)) d_RD_readErrors_157 ?_
      obtain ⟨q21, e20, h⟩ := xb h
      refine xk_v (xrunV (As := [.ref (adK 7)]) (rest := []) ⟨hx, hb, hml, hown, hts⟩ (c_WO_expect l hq D lay cA adK adV s0 S 7 q21 e20) (cwV 1 hts (xT_V wd_493 wd_494 wd_495 wd_2 wd_496) rfl rfl rfl (by decide +kernel) ⟨Nat.le_of_ble_eq_true rfl, Nat.le_of_ble_eq_true rfl⟩) (xpV E hP hS (by decide) (xc_2 _ _ _ _) rfl) rfl rfl hl.1 rfl (lv_room (Nat.le_of_ble_eq_true rfl)) d_RD_readErrors_159 ⟨Nat.le_of_ble_eq_true rfl, Nat.le_of_ble_eq_true rfl⟩) hS hnh hlk (fun S9 e9 => by subst e9; exact (Option.some.inj h).symm) (fun v22 S23 w24 H locs hP hS => ?_)
      subst w24
      dsimp only [xT2] at h
      have h9 := Option.some.inj h
      subst h9
      exact xret (W.vret hx hb hr (fun t ht hW => ⟨_, rfl, ⟨⟨(), S23, rfl, rfl, by show va_P D xcl _ t.heap; rw [ht]; exact hP⟩, hS.F ht⟩⟩) hS.2.2 d_RD_readErrors_162)
    · have h := xif_f c_148 h
      refine lv_iload_n hx hb d_RD_readErrors_60 rfl (lv_at hl 3 rfl) ?_
      refine lv_if_eq (tgt := 76) hx hb d_RD_readErrors_61 (by decide) (fun c_147 => ?_) (fun c_147 => ?_)
      · have h := xif_t c_147 h
        refine lv_aload_n hx hb d_RD_readErrors_76 rfl (lv_at hl 0 rfl) ?_
        refine va_get (v := .ref (lay 2)) (C := R_RD) (T := F_RD) (N := 4) hx hb hts i_RD hown hK hP 179 (xw_at (by decide) (xc_179 _ _ _ _)) rfl 0 (by decide) (hts _ wd_169) (fun _ h9 => h9) rfl d_RD_readErrors_77 ?_
        refine va_ldcS hx hb hown (E.lit (List.mem_of_getElem? (i := 20) rfl : ("ConfigTexts$Reader", 180, "illegal memory late raised", 19) ∈ xlits)) d_RD_readErrors_80 ?_
        obtain ⟨q26, e25, h⟩ := xb h
        refine xk_i (xrunV (As := [.ref (adK 19)]) (rest := []) ⟨hx, hb, hml, hown, hts⟩ (c_WO_expectOneOf l hq D lay cA adK adV s0 S 19 q26 e25) (cwV 1 hts (xT_V wd_594 wd_595 wd_596 wd_2 wd_597) rfl rfl rfl (by decide +kernel) ⟨Nat.le_of_ble_eq_true rfl, Nat.le_of_ble_eq_true rfl⟩) (xpV E hP hS (by decide) (xc_2 _ _ _ _) rfl) rfl rfl hl.1 rfl (lv_room (Nat.le_of_ble_eq_true rfl)) d_RD_readErrors_82 ⟨Nat.le_of_ble_eq_true rfl, Nat.le_of_ble_eq_true rfl⟩) hS hnh hlk (fun S9 e9 => by subst e9; exact (Option.some.inj h).symm) (fun v27 S28 w29 H locs hP hS => ?_)
        subst w29
        dsimp only [xT2] at h
        refine lv_istore (lv' := [(4, .int v27), (0, .ref (lay 179)), (1, .ref (lay a1)), (2, .int a2), (3, .int a3)]) hx hb d_RD_readErrors_85 hl (by decide) rfl (fun ls hl => ?_)
        refine lv_iload_n hx hb d_RD_readErrors_87 rfl (lv_at hl 3 rfl) ?_
        refine lv_iconst (v := (1 : Int32)) hx hb d_RD_readErrors_88 (by decide) ?_
        refine lv_iload hx hb d_RD_readErrors_89 (lv_at hl 0 rfl) ?_
        refine lv_ishl hx hb d_RD_readErrors_91 ?_
        refine lv_iand hx hb d_RD_readErrors_92 ?_
        refine lv_if_eq (tgt := 105) hx hb d_RD_readErrors_93 (by decide) (fun c_81 => ?_) (fun c_81 => ?_)
        · have h := xif_t c_81 h
          refine lv_iload_n hx hb d_RD_readErrors_105 rfl (lv_at hl 3 rfl) ?_
          refine lv_iconst (v := (1 : Int32)) hx hb d_RD_readErrors_106 (by decide) ?_
          refine lv_iload hx hb d_RD_readErrors_107 (lv_at hl 0 rfl) ?_
          refine lv_ishl hx hb d_RD_readErrors_109 ?_
          refine lv_ior hx hb d_RD_readErrors_110 ?_
          refine lv_istore_n (lv' := [(2, .int (a2 ||| ((1 : Int32) <<< (v27 &&& 31)))), (4, .int v27), (0, .ref (lay 179)), (1, .ref (lay a1)), (3, .int a3)]) hx hb d_RD_readErrors_111 rfl hl (by decide) rfl (fun ls hl => ?_)
          refine lv_aload_n hx hb d_RD_readErrors_112 rfl (lv_at hl 2 rfl) ?_
          refine va_get (v := .ref (lay 2)) (C := R_RD) (T := F_RD) (N := 4) hx hb hts i_RD hown hK hP 179 (xw_at (by decide) (xc_179 _ _ _ _)) rfl 0 (by decide) (hts _ wd_169) (fun _ h9 => h9) rfl d_RD_readErrors_113 ?_
          obtain ⟨q31, e30, h⟩ := xb h
          refine xk_v (xrunV (As := []) (rest := []) ⟨hx, hb, hml, hown, hts⟩ (c_WO_next l hq D lay cA adK adV s0 S28 q31 e30) (cwV 0 hts (xT_V wd_522 wd_285 wd_286 wd_2 wd_287) rfl rfl rfl (by decide +kernel) ⟨Nat.le_of_ble_eq_true rfl, Nat.le_of_ble_eq_true rfl⟩) (xpV E hP hS (by decide) (xc_2 _ _ _ _) rfl) rfl rfl hl.1 rfl (lv_room (Nat.le_of_ble_eq_true rfl)) d_RD_readErrors_116 ⟨Nat.le_of_ble_eq_true rfl, Nat.le_of_ble_eq_true rfl⟩) hS hnh hlk (fun S9 e9 => by subst e9; exact (Option.some.inj h).symm) (fun v32 S33 w34 H locs hP hS => ?_)
          subst w34
          dsimp only [xT2] at h
          refine lv_aload_n hx hb d_RD_readErrors_119 rfl (lv_at hl 2 rfl) ?_
          refine va_get (v := .ref (lay 2)) (C := R_RD) (T := F_RD) (N := 4) hx hb hts i_RD hown hK hP 179 (xw_at (by decide) (xc_179 _ _ _ _)) rfl 0 (by decide) (hts _ wd_169) (fun _ h9 => h9) rfl d_RD_readErrors_120 ?_
          refine va_ldcS hx hb hown (E.lit (List.mem_of_getElem? (i := 16) rfl : ("ConfigTexts$Reader", 163, ":", 15) ∈ xlits)) d_RD_readErrors_123 ?_
          obtain ⟨q36, e35, h⟩ := xb h
          refine xk_v (xrunV (As := [.ref (adK 15)]) (rest := []) ⟨hx, hb, hml, hown, hts⟩ (c_WO_expect l hq D lay cA adK adV s0 S33 15 q36 e35) (cwV 1 hts (xT_V wd_493 wd_494 wd_495 wd_2 wd_496) rfl rfl rfl (by decide +kernel) ⟨Nat.le_of_ble_eq_true rfl, Nat.le_of_ble_eq_true rfl⟩) (xpV E hP hS (by decide) (xc_2 _ _ _ _) rfl) rfl rfl hl.1 rfl (lv_room (Nat.le_of_ble_eq_true rfl)) d_RD_readErrors_125 ⟨Nat.le_of_ble_eq_true rfl, Nat.le_of_ble_eq_true rfl⟩) hS hnh hlk (fun S9 e9 => by subst e9; exact (Option.some.inj h).symm) (fun v37 S38 w39 H locs hP hS => ?_)
          subst w39
          dsimp only [xT2] at h
          refine lv_aload_n hx hb d_RD_readErrors_128 rfl (lv_at hl 3 rfl) ?_
          refine lv_iload hx hb d_RD_readErrors_129 (lv_at hl 1 rfl) ?_
          refine lv_aload_n hx hb d_RD_readErrors_131 rfl (lv_at hl 2 rfl) ?_
          obtain ⟨q41, e40, h⟩ := xb h
          refine xk_i (xrunV (As := []) (rest := [.int v27, .ref (lay a1)]) ⟨hx, hb, hml, hown, hts⟩ (c_RD_readAction l hq D lay cA adK adV s0 S38 q41 e40) (cwV 0 hts (xT_V wd_605 wd_607 wp_14 wd_6 wd_608) rfl rfl rfl (by decide +kernel) ⟨Nat.le_of_ble_eq_true rfl, Nat.le_of_ble_eq_true rfl⟩) (xpV E hP hS (by decide) (xc_179 _ _ _ _) rfl) rfl rfl hl.1 rfl (lv_room (Nat.le_of_ble_eq_true rfl)) d_RD_readErrors_132 ⟨Nat.le_of_ble_eq_true rfl, Nat.le_of_ble_eq_true rfl⟩) hS hnh hlk (fun S9 e9 => by subst e9; exact (Option.some.inj h).symm) (fun v42 S43 w44 H locs hP hS => ?_)
          subst w44
          dsimp only [xT2] at h
          obtain ⟨hk45, h⟩ := xg h
          obtain ⟨q47, e46, h⟩ := xb h
          refine xc_v (va_runV (As := [.int v27, .int v42]) (rest := []) ⟨hx, hb, hml, hown, hts⟩ (c_PA_setAction l D lay cA adK adV s0 S43 a1 v27 v42 q47 e46) (cwV 2 hts (xT_V wd_610 wd_611 wd_612 wd_4 wd_613) rfl rfl rfl (by decide +kernel) ⟨Nat.le_of_ble_eq_true rfl, Nat.le_of_ble_eq_true rfl⟩) (xpV E hP hS (xP_lt hk45).1 (xc_PA _ _ _ _ hk45) rfl) rfl rfl hl.1 rfl (lv_room (Nat.le_of_ble_eq_true rfl)) d_RD_readErrors_135 ⟨Nat.le_of_ble_eq_true rfl, Nat.le_of_ble_eq_true rfl⟩) hS (fun H locs hP hS => ?_)
          refine lv_aload_n hx hb d_RD_readErrors_138 rfl (lv_at hl 2 rfl) ?_
          refine va_get (v := .ref (lay 2)) (C := R_RD) (T := F_RD) (N := 4) hx hb hts i_RD hown hK hP 179 (xw_at (by decide) (xc_179 _ _ _ _)) rfl 0 (by decide) (hts _ wd_169) (fun _ h9 => h9) rfl d_RD_readErrors_139 ?_
          refine va_ldcS hx hb hown (E.lit (List.mem_of_getElem? (i := 7) rfl : ("ConfigTexts$Reader", 80, ";", 6) ∈ xlits)) d_RD_readErrors_142 ?_
          obtain ⟨q49, e48, h⟩ := xb h
          refine xk_v (xrunV (As := [.ref (adK 6)]) (rest := []) ⟨hx, hb, hml, hown, hts⟩ (c_WO_expect l hq D lay cA adK adV s0 q47 6 q49 e48) (cwV 1 hts (xT_V wd_493 wd_494 wd_495 wd_2 wd_496) rfl rfl rfl (by decide +kernel) ⟨Nat.le_of_ble_eq_true rfl, Nat.le_of_ble_eq_true rfl⟩) (xpV E hP hS (by decide) (xc_2 _ _ _ _) rfl) rfl rfl hl.1 rfl (lv_room (Nat.le_of_ble_eq_true rfl)) d_RD_readErrors_144 ⟨Nat.le_of_ble_eq_true rfl, Nat.le_of_ble_eq_true rfl⟩) hS hnh hlk (fun S9 e9 => by subst e9; exact (Option.some.inj h).symm) (fun v50 S51 w52 H locs hP hS => ?_)
          subst w52
          dsimp only [xT2] at h
          refine lv_iinc (v := a3 + (1 : Int32)) (lv' := [(3, .int (a3 + (1 : Int32))), (2, .int (a2 ||| ((1 : Int32) <<< (v27 &&& 31)))), (4, .int v27), (0, .ref (lay 179)), (1, .ref (lay a1))]) hx hb d_RD_readErrors_147 hl (k := 4) rfl (by rfl) (by decide) rfl (fun ls hl => ?_)
          refine lv_goto (tgt := 55) hx hb d_RD_readErrors_150 (by decide) ?_
          exact ih S51 a1 (a2 ||| ((1 : Int32) <<< (v27 &&& 31))) (a3 + (1 : Int32)) _ h H locs ls hP hS (lv_sub hl [3, 4, 1, 0] rfl)
        · have h := xif_f c_81 h
          refine lv_aload_n hx hb d_RD_readErrors_96 rfl (lv_at hl 1 rfl) ?_
          refine va_get (v := .ref (lay 2)) (C := R_RD) (T := F_RD) (N := 4) hx hb hts i_RD hown hK hP 179 (xw_at (by decide) (xc_179 _ _ _ _)) rfl 0 (by decide) (hts _ wd_169) (fun _ h9 => h9) rfl d_RD_readErrors_97 ?_
          refine lv_bipush (v := (7 : Int32)) hx hb d_RD_readErrors_100 (by decide) ?_
          obtain ⟨q54, e53, h⟩ := xb h
          refine xk_v (xrunV (As := [.int (7 : Int32)]) (rest := []) ⟨hx, hb, hml, hown, hts⟩ (c_WO_fail l hq D lay cA adK adV s0 S28 (7 : Int32) q54 e53) (cwV 1 hts (xT_V wd_502 wd_386 wd_387 wd_2 wd_388) rfl rfl rfl (by decide +kernel) ⟨Nat.le_of_ble_eq_true rfl, Nat.le_of_ble_eq_true rfl⟩) (xpV E hP hS (by decide) (xc_2 _ _ _ _) rfl) rfl rfl hl.1 rfl (lv_room (Nat.le_of_ble_eq_true rfl)) d_RD_readErrors_102 ⟨Nat.le_of_ble_eq_true rfl, Nat.le_of_ble_eq_true rfl⟩) hS hnh hlk (fun S9 e9 => by subst e9; exact (Option.some.inj h).symm) (fun v55 S56 w57 H locs hP hS => ?_)
          subst w57
          dsimp only [xT2] at h
          refine lv_iload_n hx hb d_RD_readErrors_105 rfl (lv_at hl 3 rfl) ?_
          refine lv_iconst (v := (1 : Int32)) hx hb d_RD_readErrors_106 (by decide) ?_
          refine lv_iload hx hb d_RD_readErrors_107 (lv_at hl 0 rfl) ?_
          refine lv_ishl hx hb d_RD_readErrors_109 ?_
          refine lv_ior hx hb d_RD_readErrors_110 ?_
          refine lv_istore_n (lv' := [(2, .int (a2 ||| ((1 : Int32) <<< (v27 &&& 31)))), (4, .int v27), (0, .ref (lay 179)), (1, .ref (lay a1)), (3, .int a3)]) hx hb d_RD_readErrors_111 rfl hl (by decide) rfl (fun ls hl => ?_)
          refine lv_aload_n hx hb d_RD_readErrors_112 rfl (lv_at hl 2 rfl) ?_
          refine va_get (v := .ref (lay 2)) (C := R_RD) (T := F_RD) (N := 4) hx hb hts i_RD hown hK hP 179 (xw_at (by decide) (xc_179 _ _ _ _)) rfl 0 (by decide) (hts _ wd_169) (fun _ h9 => h9) rfl d_RD_readErrors_113 ?_
          obtain ⟨q59, e58, h⟩ := xb h
          refine xk_v (xrunV (As := []) (rest := []) ⟨hx, hb, hml, hown, hts⟩ (c_WO_next l hq D lay cA adK adV s0 S56 q59 e58) (cwV 0 hts (xT_V wd_522 wd_285 wd_286 wd_2 wd_287) rfl rfl rfl (by decide +kernel) ⟨Nat.le_of_ble_eq_true rfl, Nat.le_of_ble_eq_true rfl⟩) (xpV E hP hS (by decide) (xc_2 _ _ _ _) rfl) rfl rfl hl.1 rfl (lv_room (Nat.le_of_ble_eq_true rfl)) d_RD_readErrors_116 ⟨Nat.le_of_ble_eq_true rfl, Nat.le_of_ble_eq_true rfl⟩) hS hnh hlk (fun S9 e9 => by subst e9; exact (Option.some.inj h).symm) (fun v60 S61 w62 H locs hP hS => ?_)
          subst w62
          dsimp only [xT2] at h
          refine lv_aload_n hx hb d_RD_readErrors_119 rfl (lv_at hl 2 rfl) ?_
          refine va_get (v := .ref (lay 2)) (C := R_RD) (T := F_RD) (N := 4) hx hb hts i_RD hown hK hP 179 (xw_at (by decide) (xc_179 _ _ _ _)) rfl 0 (by decide) (hts _ wd_169) (fun _ h9 => h9) rfl d_RD_readErrors_120 ?_
          refine va_ldcS hx hb hown (E.lit (List.mem_of_getElem? (i := 16) rfl : ("ConfigTexts$Reader", 163, ":", 15) ∈ xlits)) d_RD_readErrors_123 ?_
          obtain ⟨q64, e63, h⟩ := xb h
          refine xk_v (xrunV (As := [.ref (adK 15)]) (rest := []) ⟨hx, hb, hml, hown, hts⟩ (c_WO_expect l hq D lay cA adK adV s0 S61 15 q64 e63) (cwV 1 hts (xT_V wd_493 wd_494 wd_495 wd_2 wd_496) rfl rfl rfl (by decide +kernel) ⟨Nat.le_of_ble_eq_true rfl, Nat.le_of_ble_eq_true rfl⟩) (xpV E hP hS (by decide) (xc_2 _ _ _ _) rfl) rfl rfl hl.1 rfl (lv_room (Nat.le_of_ble_eq_true rfl)) d_RD_readErrors_125 ⟨Nat.le_of_ble_eq_true rfl, Nat.le_of_ble_eq_true rfl⟩) hS hnh hlk (fun S9 e9 => by subst e9; exact (Option.some.inj h).symm) (fun v65 S66 w67 H locs hP hS => ?_)
          subst w67
          dsimp only [xT2] at h
          refine lv_aload_n hx hb d_RD_readErrors_128 rfl (lv_at hl 3 rfl) ?_
          refine lv_iload hx hb d_RD_readErrors_129 (lv_at hl 1 rfl) ?_
          refine lv_aload_n hx hb d_RD_readErrors_131 rfl (lv_at hl 2 rfl) ?_
          obtain ⟨q69, e68, h⟩ := xb h
          refine xk_i (xrunV (As := []) (rest := [.int v27, .ref (lay a1)]) ⟨hx, hb, hml, hown, hts⟩ (c_RD_readAction l hq D lay cA adK adV s0 S66 q69 e68) (cwV 0 hts (xT_V wd_605 wd_607 wp_14 wd_6 wd_608) rfl rfl rfl (by decide +kernel) ⟨Nat.le_of_ble_eq_true rfl, Nat.le_of_ble_eq_true rfl⟩) (xpV E hP hS (by decide) (xc_179 _ _ _ _) rfl) rfl rfl hl.1 rfl (lv_room (Nat.le_of_ble_eq_true rfl)) d_RD_readErrors_132 ⟨Nat.le_of_ble_eq_true rfl, Nat.le_of_ble_eq_true rfl⟩) hS hnh hlk (fun S9 e9 => by subst e9; exact (Option.some.inj h).symm) (fun v70 S71 w72 H locs hP hS => ?_)
          subst w72
          dsimp only [xT2] at h
          obtain ⟨hk73, h⟩ := xg h
          obtain ⟨q75, e74, h⟩ := xb h
          refine xc_v (va_runV (As := [.int v27, .int v70]) (rest := []) ⟨hx, hb, hml, hown, hts⟩ (c_PA_setAction l D lay cA adK adV s0 S71 a1 v27 v70 q75 e74) (cwV 2 hts (xT_V wd_610 wd_611 wd_612 wd_4 wd_613) rfl rfl rfl (by decide +kernel) ⟨Nat.le_of_ble_eq_true rfl, Nat.le_of_ble_eq_true rfl⟩) (xpV E hP hS (xP_lt hk73).1 (xc_PA _ _ _ _ hk73) rfl) rfl rfl hl.1 rfl (lv_room (Nat.le_of_ble_eq_true rfl)) d_RD_readErrors_135 ⟨Nat.le_of_ble_eq_true rfl, Nat.le_of_ble_eq_true rfl⟩) hS (fun H locs hP hS => ?_)
          refine lv_aload_n hx hb d_RD_readErrors_138 rfl (lv_at hl 2 rfl) ?_
          refine va_get (v := .ref (lay 2)) (C := R_RD) (T := F_RD) (N := 4) hx hb hts i_RD hown hK hP 179 (xw_at (by decide) (xc_179 _ _ _ _)) rfl 0 (by decide) (hts _ wd_169) (fun _ h9 => h9) rfl d_RD_readErrors_139 ?_
          refine va_ldcS hx hb hown (E.lit (List.mem_of_getElem? (i := 7) rfl : ("ConfigTexts$Reader", 80, ";", 6) ∈ xlits)) d_RD_readErrors_142 ?_
          obtain ⟨q77, e76, h⟩ := xb h
          refine xk_v (xrunV (As := [.ref (adK 6)]) (rest := []) ⟨hx, hb, hml, hown, hts⟩ (c_WO_expect l hq D lay cA adK adV s0 q75 6 q77 e76) (cwV 1 hts (xT_V wd_493 wd_494 wd_495 wd_2 wd_496) rfl rfl rfl (by decide +kernel) ⟨Nat.le_of_ble_eq_true rfl, Nat.le_of_ble_eq_true rfl⟩) (xpV E hP hS (by decide) (xc_2 _ _ _ _) rfl) rfl rfl hl.1 rfl (lv_room (Nat.le_of_ble_eq_true rfl)) d_RD_readErrors_144 ⟨Nat.le_of_ble_eq_true rfl, Nat.le_of_ble_eq_true rfl⟩) hS hnh hlk (fun S9 e9 => by subst e9; exact (Option.some.inj h).symm) (fun v78 S79 w80 H locs hP hS => ?_)
          subst w80
          dsimp only [xT2] at h
          refine lv_iinc (v := a3 + (1 : Int32)) (lv' := [(3, .int (a3 + (1 : Int32))), (2, .int (a2 ||| ((1 : Int32) <<< (v27 &&& 31)))), (4, .int v27), (0, .ref (lay 179)), (1, .ref (lay a1))]) hx hb d_RD_readErrors_147 hl (k := 4) rfl (by rfl) (by decide) rfl (fun ls hl => ?_)
          refine lv_goto (tgt := 55) hx hb d_RD_readErrors_150 (by decide) ?_
          exact ih S79 a1 (a2 ||| ((1 : Int32) <<< (v27 &&& 31))) (a3 + (1 : Int32)) _ h H locs ls hP hS (lv_sub hl [3, 4, 1, 0] rfl)
      · have h := xif_f c_147 h
        refine lv_aload_n hx hb d_RD_readErrors_64 rfl (lv_at hl 0 rfl) ?_
        refine va_get (v := .ref (lay 2)) (C := R_RD) (T := F_RD) (N := 4) hx hb hts i_RD hown hK hP 179 (xw_at (by decide) (xc_179 _ _ _ _)) rfl 0 (by decide) (hts _ wd_169) (fun _ h9 => h9) rfl d_RD_readErrors_65 ?_
        refine va_ldcS hx hb hown (E.lit (List.mem_of_getElem? (i := 8) rfl : ("ConfigTexts$Reader", 49, "}", 7) ∈ xlits)) d_RD_readErrors_68 ?_
        obtain ⟨q83, e82, h⟩ := xb h
        refine xc_i (va_runV (As := [.ref (adK 7)]) (rest := []) ⟨hx, hb, hml, hown, hts⟩ (c_WO_is l D lay cA adK adV s0 S 7 q83 e82) (cwV 1 hts (xT_V wd_536 wd_456 wd_457 wd_2 wd_458) rfl rfl rfl (by decide +kernel) ⟨Nat.le_of_ble_eq_true rfl, Nat.le_of_ble_eq_true rfl⟩) (xpV E hP hS (by decide) (xc_2 _ _ _ _) rfl) rfl rfl hl.1 rfl (lv_room (Nat.le_of_ble_eq_true rfl)) d_RD_readErrors_70 ⟨Nat.le_of_ble_eq_true rfl, Nat.le_of_ble_eq_true rfl⟩) hS (fun H locs hP hS => ?_)
        refine lv_if_ne (tgt := 153) hx hb d_RD_readErrors_73 (by decide) (fun c_146 => ?_) (fun c_146 => ?_)
        · have h := xif_f c_146 h
          refine lv_aload_n hx hb d_RD_readErrors_153 rfl (lv_at hl 0 rfl) ?_
          refine va_get (v := .ref (lay 2)) (C := R_RD) (T := F_RD) (N := 4) hx hb hts i_RD hown hK hP 179 (xw_at (by decide) (xc_179 _ _ _ _)) rfl 0 (by decide) (hts _ wd_169) (fun _ h9 => h9) rfl d_RD_readErrors_154 ?_
          refine va_ldcS hx hb hown (E.lit (List.mem_of_getElem? (i := 8) rfl : ("ConfigTexts$Reader", 49, "}", 7) ∈ xlits)) d_RD_readErrors_157 ?_
          obtain ⟨q85, e84, h⟩ := xb h
          refine xk_v (xrunV (As := [.ref (adK 7)]) (rest := []) ⟨hx, hb, hml, hown, hts⟩ (c_WO_expect l hq D lay cA adK adV s0 S 7 q85 e84) (cwV 1 hts (xT_V wd_493 wd_494 wd_495 wd_2 wd_496) rfl rfl rfl (by decide +kernel) ⟨Nat.le_of_ble_eq_true rfl, Nat.le_of_ble_eq_true rfl⟩) (xpV E hP hS (by decide) (xc_2 _ _ _ _) rfl) rfl rfl hl.1 rfl (lv_room (Nat.le_of_ble_eq_true rfl)) d_RD_readErrors_159 ⟨Nat.le_of_ble_eq_true rfl, Nat.le_of_ble_eq_true rfl⟩) hS hnh hlk (fun S9 e9 => by subst e9; exact (Option.some.inj h).symm) (fun v86 S87 w88 H locs hP hS => ?_)
          subst w88
          dsimp only [xT2] at h
          have h9 := Option.some.inj h
          subst h9
          exact xret (W.vret hx hb hr (fun t ht hW => ⟨_, rfl, ⟨⟨(), S87, rfl, rfl, by show va_P D xcl _ t.heap; rw [ht]; exact hP⟩, hS.F ht⟩⟩) hS.2.2 d_RD_readErrors_162)
        · have h := xif_t c_146 h
          refine lv_aload_n hx hb d_RD_readErrors_76 rfl (lv_at hl 0 rfl) ?_
          refine va_get (v := .ref (lay 2)) (C := R_RD) (T := F_RD) (N := 4) hx hb hts i_RD hown hK hP 179 (xw_at (by decide) (xc_179 _ _ _ _)) rfl 0 (by decide) (hts _ wd_169) (fun _ h9 => h9) rfl d_RD_readErrors_77 ?_
          refine va_ldcS hx hb hown (E.lit (List.mem_of_getElem? (i := 20) rfl : ("ConfigTexts$Reader", 180, "illegal memory late raised", 19) ∈ xlits)) d_RD_readErrors_80 ?_
          obtain ⟨q90, e89, h⟩ := xb h
          refine xk_i (xrunV (As := [.ref (adK 19)]) (rest := []) ⟨hx, hb, hml, hown, hts⟩ (c_WO_expectOneOf l hq D lay cA adK adV s0 S 19 q90 e89) (cwV 1 hts (xT_V wd_594 wd_595 wd_596 wd_2 wd_597) rfl rfl rfl (by decide +kernel) ⟨Nat.le_of_ble_eq_true rfl, Nat.le_of_ble_eq_true rfl⟩) (xpV E hP hS (by decide) (xc_2 _ _ _ _) rfl) rfl rfl hl.1 rfl (lv_room (Nat.le_of_ble_eq_true rfl)) d_RD_readErrors_82 ⟨Nat.le_of_ble_eq_true rfl, Nat.le_of_ble_eq_true rfl⟩) hS hnh hlk (fun S9 e9 => by subst e9; exact (Option.some.inj h).symm) (fun v91 S92 w93 H locs hP hS => ?_)
          subst w93
          dsimp only [xT2] at h
          refine lv_istore (lv' := [(4, .int v91), (0, .ref (lay 179)), (1, .ref (lay a1)), (2, .int a2), (3, .int a3)]) hx hb d_RD_readErrors_85 hl (by decide) rfl (fun ls hl => ?_)
          refine lv_iload_n hx hb d_RD_readErrors_87 rfl (lv_at hl 3 rfl) ?_
          refine lv_iconst (v := (1 : Int32)) hx hb d_RD_readErrors_88 (by decide) ?_
          refine lv_iload hx hb d_RD_readErrors_89 (lv_at hl 0 rfl) ?_
          refine lv_ishl hx hb d_RD_readErrors_91 ?_
          refine lv_iand hx hb d_RD_readErrors_92 ?_
          refine lv_if_eq (tgt := 105) hx hb d_RD_readErrors_93 (by decide) (fun c_145 => ?_) (fun c_145 => ?_)
          · have h := xif_t c_145 h
            refine lv_iload_n hx hb d_RD_readErrors_105 rfl (lv_at hl 3 rfl) ?_
            refine lv_iconst (v := (1 : Int32)) hx hb d_RD_readErrors_106 (by decide) ?_
            refine lv_iload hx hb d_RD_readErrors_107 (lv_at hl 0 rfl) ?_
            refine lv_ishl hx hb d_RD_readErrors_109 ?_
            refine lv_ior hx hb d_RD_readErrors_110 ?_
            refine lv_istore_n (lv' := [(2, .int (a2 ||| ((1 : Int32) <<< (v91 &&& 31)))), (4, .int v91), (0, .ref (lay 179)), (1, .ref (lay a1)), (3, .int a3)]) hx hb d_RD_readErrors_111 rfl hl (by decide) rfl (fun ls hl => ?_)
            refine lv_aload_n hx hb d_RD_readErrors_112 rfl (lv_at hl 2 rfl) ?_
            refine va_get (v := .ref (lay 2)) (C := R_RD) (T := F_RD) (N := 4) hx hb hts i_RD hown hK hP 179 (xw_at (by decide) (xc_179 _ _ _ _)) rfl 0 (by decide) (hts _ wd_169) (fun _ h9 => h9) rfl d_RD_readErrors_113 ?_
            obtain ⟨q95, e94, h⟩ := xb h
            refine xk_v (xrunV (As := []) (rest := []) ⟨hx, hb, hml, hown, hts⟩ (c_WO_next l hq D lay cA adK adV s0 S92 q95 e94) (cwV 0 hts (xT_V wd_522 wd_285 wd_286 wd_2 wd_287) rfl rfl rfl (by decide +kernel) ⟨Nat.le_of_ble_eq_true rfl, Nat.le_of_ble_eq_true rfl⟩) (xpV E hP hS (by decide) (xc_2 _ _ _ _) rfl) rfl rfl hl.1 rfl (lv_room (Nat.le_of_ble_eq_true rfl)) d_RD_readErrors_116 ⟨Nat.le_of_ble_eq_true rfl, Nat.le_of_ble_eq_true rfl⟩) hS hnh hlk (fun S9 e9 => by subst e9; exact (Option.some.inj h).symm) (fun v96 S97 w98 H locs hP hS => ?_)
            subst w98
            dsimp only [xT2] at h
            refine lv_aload_n hx hb d_RD_readErrors_119 rfl (lv_at hl 2 rfl) ?_
            refine va_get (v := .ref (lay 2)) (C := R_RD) (T := F_RD) (N := 4) hx hb hts i_RD hown hK hP 179 (xw_at (by decide) (xc_179 _ _ _ _)) rfl 0 (by decide) (hts _ wd_169) (fun _ h9 => h9) rfl d_RD_readErrors_120 ?_
            refine va_ldcS hx hb hown (E.lit (List.mem_of_getElem? (i := 16) rfl : ("ConfigTexts$Reader", 163, ":", 15) ∈ xlits)) d_RD_readErrors_123 ?_
            obtain ⟨q100, e99, h⟩ := xb h
            refine xk_v (xrunV (As := [.ref (adK 15)]) (rest := []) ⟨hx, hb, hml, hown, hts⟩ (c_WO_expect l hq D lay cA adK adV s0 S97 15 q100 e99) (cwV 1 hts (xT_V wd_493 wd_494 wd_495 wd_2 wd_496) rfl rfl rfl (by decide +kernel) ⟨Nat.le_of_ble_eq_true rfl, Nat.le_of_ble_eq_true rfl⟩) (xpV E hP hS (by decide) (xc_2 _ _ _ _) rfl) rfl rfl hl.1 rfl (lv_room (Nat.le_of_ble_eq_true rfl)) d_RD_readErrors_125 ⟨Nat.le_of_ble_eq_true rfl, Nat.le_of_ble_eq_true rfl⟩) hS hnh hlk (fun S9 e9 => by subst e9; exact (Option.some.inj h).symm) (fun v101 S102 w103 H locs hP hS => ?_)
            subst w103
            dsimp only [xT2] at h
            refine lv_aload_n hx hb d_RD_readErrors_128 rfl (lv_at hl 3 rfl) ?_
            refine lv_iload hx hb d_RD_readErrors_129 (lv_at hl 1 rfl) ?_
            refine lv_aload_n hx hb d_RD_readErrors_131 rfl (lv_at hl 2 rfl) ?_
            obtain ⟨q105, e104, h⟩ := xb h
            refine xk_i (xrunV (As := []) (rest := [.int v91, .ref (lay a1)]) ⟨hx, hb, hml, hown, hts⟩ (c_RD_readAction l hq D lay cA adK adV s0 S102 q105 e104) (cwV 0 hts (xT_V wd_605 wd_607 wp_14 wd_6 wd_608) rfl rfl rfl (by decide +kernel) ⟨Nat.le_of_ble_eq_true rfl, Nat.le_of_ble_eq_true rfl⟩) (xpV E hP hS (by decide) (xc_179 _ _ _ _) rfl) rfl rfl hl.1 rfl (lv_room (Nat.le_of_ble_eq_true rfl)) d_RD_readErrors_132 ⟨Nat.le_of_ble_eq_true rfl, Nat.le_of_ble_eq_true rfl⟩) hS hnh hlk (fun S9 e9 => by subst e9; exact (Option.some.inj h).symm) (fun v106 S107 w108 H locs hP hS => ?_)
            subst w108
            dsimp only [xT2] at h
            obtain ⟨hk109, h⟩ := xg h
            obtain ⟨q111, e110, h⟩ := xb h
            refine xc_v (va_runV (As := [.int v91, .int v106]) (rest := []) ⟨hx, hb, hml, hown, hts⟩ (c_PA_setAction l D lay cA adK adV s0 S107 a1 v91 v106 q111 e110) (cwV 2 hts (xT_V wd_610 wd_611 wd_612 wd_4 wd_613) rfl rfl rfl (by decide +kernel) ⟨Nat.le_of_ble_eq_true rfl, Nat.le_of_ble_eq_true rfl⟩) (xpV E hP hS (xP_lt hk109).1 (xc_PA _ _ _ _ hk109) rfl) rfl rfl hl.1 rfl (lv_room (Nat.le_of_ble_eq_true rfl)) d_RD_readErrors_135 ⟨Nat.le_of_ble_eq_true rfl, Nat.le_of_ble_eq_true rfl⟩) hS (fun H locs hP hS => ?_)
            refine lv_aload_n hx hb d_RD_readErrors_138 rfl (lv_at hl 2 rfl) ?_
            refine va_get (v := .ref (lay 2)) (C := R_RD) (T := F_RD) (N := 4) hx hb hts i_RD hown hK hP 179 (xw_at (by decide) (xc_179 _ _ _ _)) rfl 0 (by decide) (hts _ wd_169) (fun _ h9 => h9) rfl d_RD_readErrors_139 ?_
            refine va_ldcS hx hb hown (E.lit (List.mem_of_getElem? (i := 7) rfl : ("ConfigTexts$Reader", 80, ";", 6) ∈ xlits)) d_RD_readErrors_142 ?_
            obtain ⟨q113, e112, h⟩ := xb h
            refine xk_v (xrunV (As := [.ref (adK 6)]) (rest := []) ⟨hx, hb, hml, hown, hts⟩ (c_WO_expect l hq D lay cA adK adV s0 q111 6 q113 e112) (cwV 1 hts (xT_V wd_493 wd_494 wd_495 wd_2 wd_496) rfl rfl rfl (by decide +kernel) ⟨Nat.le_of_ble_eq_true rfl, Nat.le_of_ble_eq_true rfl⟩) (xpV E hP hS (by decide) (xc_2 _ _ _ _) rfl) rfl rfl hl.1 rfl (lv_room (Nat.le_of_ble_eq_true rfl)) d_RD_readErrors_144 ⟨Nat.le_of_ble_eq_true rfl, Nat.le_of_ble_eq_true rfl⟩) hS hnh hlk (fun S9 e9 => by subst e9; exact (Option.some.inj h).symm) (fun v114 S115 w116 H locs hP hS => ?_)
            subst w116
            dsimp only [xT2] at h
            refine lv_iinc (v := a3 + (1 : Int32)) (lv' := [(3, .int (a3 + (1 : Int32))), (2, .int (a2 ||| ((1 : Int32) <<< (v91 &&& 31)))), (4, .int v91), (0, .ref (lay 179)), (1, .ref (lay a1))]) hx hb d_RD_readErrors_147 hl (k := 4) rfl (by rfl) (by decide) rfl (fun ls hl => ?_)
            refine lv_goto (tgt := 55) hx hb d_RD_readErrors_150 (by decide) ?_
            exact ih S115 a1 (a2 ||| ((1 : Int32) <<< (v91 &&& 31))) (a3 + (1 : Int32)) _ h H locs ls hP hS (lv_sub hl [3, 4, 1, 0] rfl)
          · have h := xif_f c_145 h
            refine lv_aload_n hx hb d_RD_readErrors_96 rfl (lv_at hl 1 rfl) ?_
            refine va_get (v := .ref (lay 2)) (C := R_RD) (T := F_RD) (N := 4) hx hb hts i_RD hown hK hP 179 (xw_at (by decide) (xc_179 _ _ _ _)) rfl 0 (by decide) (hts _ wd_169) (fun _ h9 => h9) rfl d_RD_readErrors_97 ?_
            refine lv_bipush (v := (7 : Int32)) hx hb d_RD_readErrors_100 (by decide) ?_
            obtain ⟨q118, e117, h⟩ := xb h
            refine xk_v (xrunV (As := [.int (7 : Int32)]) (rest := []) ⟨hx, hb, hml, hown, hts⟩ (c_WO_fail l hq D lay cA adK adV s0 S92 (7 : Int32) q118 e117) (cwV 1 hts (xT_V wd_502 wd_386 wd_387 wd_2 wd_388) rfl rfl rfl (by decide +kernel) ⟨Nat.le_of_ble_eq_true rfl, Nat.le_of_ble_eq_true rfl⟩) (xpV E hP hS (by decide) (xc_2 _ _ _ _) rfl) rfl rfl hl.1 rfl (lv_room (Nat.le_of_ble_eq_true rfl)) d_RD_readErrors_102 ⟨Nat.le_of_ble_eq_true rfl, Nat.le_of_ble_eq_true rfl⟩) hS hnh hlk (fun S9 e9 => by subst e9; exact (Option.some.inj h).symm) (fun v119 S120 w121 H locs hP hS => ?_)
            subst w121
            dsimp only [xT2] at h
            refine lv_iload_n hx hb d_RD_readErrors_105 rfl (lv_at hl 3 rfl) ?_
            refine lv_iconst (v := (1 : Int32)) hx hb d_RD_readErrors_106 (by decide) ?_
            refine lv_iload hx hb d_RD_readErrors_107 (lv_at hl 0 rfl) ?_
            refine lv_ishl hx hb d_RD_readErrors_109 ?_
            refine lv_ior hx hb d_RD_readErrors_110 ?_
            refine lv_istore_n (lv' := [(2, .int (a2 ||| ((1 : Int32) <<< (v91 &&& 31)))), (4, .int v91), (0, .ref (lay 179)), (1, .ref (lay a1)), (3, .int a3)]) hx hb d_RD_readErrors_111 rfl hl (by decide) rfl (fun ls hl => ?_)
            refine lv_aload_n hx hb d_RD_readErrors_112 rfl (lv_at hl 2 rfl) ?_
            refine va_get (v := .ref (lay 2)) (C := R_RD) (T := F_RD) (N := 4) hx hb hts i_RD hown hK hP 179 (xw_at (by decide) (xc_179 _ _ _ _)) rfl 0 (by decide) (hts _ wd_169) (fun _ h9 => h9) rfl d_RD_readErrors_113 ?_
            obtain ⟨q123, e122, h⟩ := xb h
            refine xk_v (xrunV (As := []) (rest := []) ⟨hx, hb, hml, hown, hts⟩ (c_WO_next l hq D lay cA adK adV s0 S120 q123 e122) (cwV 0 hts (xT_V wd_522 wd_285 wd_286 wd_2 wd_287) rfl rfl rfl (by decide +kernel) ⟨Nat.le_of_ble_eq_true rfl, Nat.le_of_ble_eq_true rfl⟩) (xpV E hP hS (by decide) (xc_2 _ _ _ _) rfl) rfl rfl hl.1 rfl (lv_room (Nat.le_of_ble_eq_true rfl)) d_RD_readErrors_116 ⟨Nat.le_of_ble_eq_true rfl, Nat.le_of_ble_eq_true rfl⟩) hS hnh hlk (fun S9 e9 => by subst e9; exact (Option.some.inj h).symm) (fun v124 S125 w126 H locs hP hS => ?_)
            subst w126
            dsimp only [xT2] at h
            refine lv_aload_n hx hb d_RD_readErrors_119 rfl (lv_at hl 2 rfl) ?_
            refine va_get (v := .ref (lay 2)) (C := R_RD) (T := F_RD) (N := 4) hx hb hts i_RD hown hK hP 179 (xw_at (by decide) (xc_179 _ _ _ _)) rfl 0 (by decide) (hts _ wd_169) (fun _ h9 => h9) rfl d_RD_readErrors_120 ?_
            refine va_ldcS hx hb hown (E.lit (List.mem_of_getElem? (i := 16) rfl : ("ConfigTexts$Reader", 163, ":", 15) ∈ xlits)) d_RD_readErrors_123 ?_
            obtain ⟨q128, e127, h⟩ := xb h
            refine xk_v (xrunV (As := [.ref (adK 15)]) (rest := []) ⟨hx, hb, hml, hown, hts⟩ (c_WO_expect l hq D lay cA adK adV s0 S125 15 q128 e127) (cwV 1 hts (xT_V wd_493 wd_494 wd_495 wd_2 wd_496) rfl rfl rfl (by decide +kernel) ⟨Nat.le_of_ble_eq_true rfl, Nat.le_of_ble_eq_true rfl⟩) (xpV E hP hS (by decide) (xc_2 _ _ _ _) rfl) rfl rfl hl.1 rfl (lv_room (Nat.le_of_ble_eq_true rfl)) d_RD_readErrors_125 ⟨Nat.le_of_ble_eq_true rfl, Nat.le_of_ble_eq_true rfl⟩) hS hnh hlk (fun S9 e9 => by subst e9; exact (Option.some.inj h).symm) (fun v129 S130 w131 H locs hP hS => ?_)
            subst w131
            dsimp only [xT2] at h
            refine lv_aload_n hx hb d_RD_readErrors_128 rfl (lv_at hl 3 rfl) ?_
            refine lv_iload hx hb d_RD_readErrors_129 (lv_at hl 1 rfl) ?_
            refine lv_aload_n hx hb d_RD_readErrors_131 rfl (lv_at hl 2 rfl) ?_
            obtain ⟨q133, e132, h⟩ := xb h
            refine xk_i (xrunV (As := []) (rest := [.int v91, .ref (lay a1)]) ⟨hx, hb, hml, hown, hts⟩ (c_RD_readAction l hq D lay cA adK adV s0 S130 q133 e132) (cwV 0 hts (xT_V wd_605 wd_607 wp_14 wd_6 wd_608) rfl rfl rfl (by decide +kernel) ⟨Nat.le_of_ble_eq_true rfl, Nat.le_of_ble_eq_true rfl⟩) (xpV E hP hS (by decide) (xc_179 _ _ _ _) rfl) rfl rfl hl.1 rfl (lv_room (Nat.le_of_ble_eq_true rfl)) d_RD_readErrors_132 ⟨Nat.le_of_ble_eq_true rfl, Nat.le_of_ble_eq_true rfl⟩) hS hnh hlk (fun S9 e9 => by subst e9; exact (Option.some.inj h).symm) (fun v134 S135 w136 H locs hP hS => ?_)
            subst w136
            dsimp only [xT2] at h
            obtain ⟨hk137, h⟩ := xg h
            obtain ⟨q139, e138, h⟩ := xb h
            refine xc_v (va_runV (As := [.int v91, .int v134]) (rest := []) ⟨hx, hb, hml, hown, hts⟩ (c_PA_setAction l D lay cA adK adV s0 S135 a1 v91 v134 q139 e138) (cwV 2 hts (xT_V wd_610 wd_611 wd_612 wd_4 wd_613) rfl rfl rfl (by decide +kernel) ⟨Nat.le_of_ble_eq_true rfl, Nat.le_of_ble_eq_true rfl⟩) (xpV E hP hS (xP_lt hk137).1 (xc_PA _ _ _ _ hk137) rfl) rfl rfl hl.1 rfl (lv_room (Nat.le_of_ble_eq_true rfl)) d_RD_readErrors_135 ⟨Nat.le_of_ble_eq_true rfl, Nat.le_of_ble_eq_true rfl⟩) hS (fun H locs hP hS => ?_)
            refine lv_aload_n hx hb d_RD_readErrors_138 rfl (lv_at hl 2 rfl) ?_
            refine va_get (v := .ref (lay 2)) (C := R_RD) (T := F_RD) (N := 4) hx hb hts i_RD hown hK hP 179 (xw_at (by decide) (xc_179 _ _ _ _)) rfl 0 (by decide) (hts _ wd_169) (fun _ h9 => h9) rfl d_RD_readErrors_139 ?_
            refine va_ldcS hx hb hown (E.lit (List.mem_of_getElem? (i := 7) rfl : ("ConfigTexts$Reader", 80, ";", 6) ∈ xlits)) d_RD_readErrors_142 ?_
            obtain ⟨q141, e140, h⟩ := xb h
            refine xk_v (xrunV (As := [.ref (adK 6)]) (rest := []) ⟨hx, hb, hml, hown, hts⟩ (c_WO_expect l hq D lay cA adK adV s0 q139 6 q141 e140) (cwV 1 hts (xT_V wd_493 wd_494 wd_495 wd_2 wd_496) rfl rfl rfl (by decide +kernel) ⟨Nat.le_of_ble_eq_true rfl, Nat.le_of_ble_eq_true rfl⟩) (xpV E hP hS (by decide) (xc_2 _ _ _ _) rfl) rfl rfl hl.1 rfl (lv_room (Nat.le_of_ble_eq_true rfl)) d_RD_readErrors_144 ⟨Nat.le_of_ble_eq_true rfl, Nat.le_of_ble_eq_true rfl⟩) hS hnh hlk (fun S9 e9 => by subst e9; exact (Option.some.inj h).symm) (fun v142 S143 w144 H locs hP hS => ?_)
            subst w144
            dsimp only [xT2] at h
            refine lv_iinc (v := a3 + (1 : Int32)) (lv' := [(3, .int (a3 + (1 : Int32))), (2, .int (a2 ||| ((1 : Int32) <<< (v91 &&& 31)))), (4, .int v91), (0, .ref (lay 179)), (1, .ref (lay a1))]) hx hb d_RD_readErrors_147 hl (k := 4) rfl (by rfl) (by decide) rfl (fun ls hl => ?_)
            refine lv_goto (tgt := 55) hx hb d_RD_readErrors_150 (by decide) ?_
            exact ih S143 a1 (a2 ||| ((1 : Int32) <<< (v91 &&& 31))) (a3 + (1 : Int32)) _ h H locs ls hP hS (lv_sub hl [3, 4, 1, 0] rfl)
def f_RD_readErrors_28 (S : XS) (a1 : Nat) : Option ((Unit × XS) ⊕ XS) :=
  (f_WO_expect S 18).bind (xT2 fun _ S13 => (f_WO_expect (xpi S13 179 2 (1 : Int32)) 4).bind (xT2 fun _ S18 => f_RD_readErrors_55 4096 S18 a1 (0 : Int32) (0 : Int32)))
set_option maxHeartbeats 4000000 in
set_option maxRecDepth 100000 in
theorem k_RD_readErrors_28 (l : Launch) (hq : l.stackTraces = false) {p : Program} {e : Env} {s : State} {m : MethodId} {args : Array Value} {below : List Frame} {meth : Method} {c : Code} {D : va_G} {lay : Nat → Nat} {cA : Nat → ClassId} {adK adV : Nat → Nat} {s0 : State} (C : xB p s m args meth c R_RD b_RD_readErrors ((Option.none : Option Jvm.ClassFile.FieldType)) 5) (E : xE D lay cA adK adV s0 s s.heap) : ∀ (S : XS) (a1 : Nat) (r : (Unit × XS) ⊕ XS) (_ : f_RD_readErrors_28 S a1 = some r) (H : Heap) (locs : List Loc) (ls : Array Slot), va_P D xcl (xw lay cA S) H → va_S (xI lay) s.heap H locs → lv_has ls 5 [(0, .ref (lay 179)), (1, .ref (lay a1))] → W p l e rm_RD_readErrors s m args below meth c H locs 0 0 (XF below (xrv D lay cA r) (xrt D lay cA r) s 0 0 1 6 (xI lay)) (F0 m 28 ls []) := by
  obtain ⟨hx, hb, hr, hml, hown, hts, hlk, hnh⟩ := id C
  have hK := E.K
  intro S a1 r h H locs ls hP hS hl
  unfold f_RD_readErrors_28 at h
  refine lv_aload_n hx hb d_RD_readErrors_28 rfl (lv_at hl 0 rfl) ?_
  refine va_get (v := .ref (lay 2)) (C := R_RD) (T := F_RD) (N := 4) hx hb hts i_RD hown hK hP 179 (xw_at (by decide) (xc_179 _ _ _ _)) rfl 0 (by decide) (hts _ wd_169) (fun _ h9 => h9) rfl d_RD_readErrors_29 ?_
  refine va_ldcS hx hb hown (E.lit (List.mem_of_getElem? (i := 19) rfl : ("ConfigTexts$Reader", 178, "errors", 18) ∈ xlits)) d_RD_readErrors_32 ?_
  obtain ⟨q11, e10, h⟩ := xb h
  refine xk_v (xrunV (As := [.ref (adK 18)]) (rest := []) ⟨hx, hb, hml, hown, hts⟩ (c_WO_expect l hq D lay cA adK adV s0 S 18 q11 e10) (cwV 1 hts (xT_V wd_493 wd_494 wd_495 wd_2 wd_496) rfl rfl rfl (by decide +kernel) ⟨Nat.le_of_ble_eq_true rfl, Nat.le_of_ble_eq_true rfl⟩) (xpV E hP hS (by decide) (xc_2 _ _ _ _) rfl) rfl rfl hl.1 rfl (lv_room (Nat.le_of_ble_eq_true rfl)) d_RD_readErrors_34 ⟨Nat.le_of_ble_eq_true rfl, Nat.le_of_ble_eq_true rfl⟩) hS hnh hlk (fun S9 e9 => by subst e9; exact (Option.some.inj h).symm) (fun v12 S13 w14 H locs hP hS => ?_)
  subst w14
  dsimp only [xT2] at h
  refine lv_aload_n hx hb d_RD_readErrors_37 rfl (lv_at hl 0 rfl) ?_
  refine lv_iconst (v := (1 : Int32)) hx hb d_RD_readErrors_38 (by decide) ?_
  refine xput_RD_2 hx hb hts hown E hP hS (hts _ wd_171) d_RD_readErrors_39 (by decide) (by decide) (fun H locs hP hS => ?_)
  refine lv_aload_n hx hb d_RD_readErrors_42 rfl (lv_at hl 0 rfl) ?_
  refine va_get (v := .ref (lay 2)) (C := R_RD) (T := F_RD) (N := 4) hx hb hts i_RD hown hK hP 179 (xw_at (by decide) (xc_179 _ _ _ _)) rfl 0 (by decide) (hts _ wd_169) (fun _ h9 => h9) rfl d_RD_readErrors_43 ?_
  refine va_ldcS hx hb hown (E.lit (List.mem_of_getElem? (i := 5) rfl : ("ConfigTexts$Reader", 117, "{", 4) ∈ xlits)) d_RD_readErrors_46 ?_
  obtain ⟨q16, e15, h⟩ := xb h
  refine xk_v (xrunV (As := [.ref (adK 4)]) (rest := []) ⟨hx, hb, hml, hown, hts⟩ (c_WO_expect l hq D lay cA adK adV s0 (xpi S13 179 2 (1 : Int32)) 4 q16 e15) (cwV 1 hts (xT_V wd_493 wd_494 wd_495 wd_2 wd_496) rfl rfl rfl (by decide +kernel) ⟨Nat.le_of_ble_eq_true rfl, Nat.le_of_ble_eq_true rfl⟩) (xpV E hP hS (by decide) (xc_2 _ _ _ _) rfl) rfl rfl hl.1 rfl (lv_room (Nat.le_of_ble_eq_true rfl)) d_RD_readErrors_48 ⟨Nat.le_of_ble_eq_true rfl, Nat.le_of_ble_eq_true rfl⟩) hS hnh hlk (fun S9 e9 => by subst e9; exact (Option.some.inj h).symm) (fun v17 S18 w19 H locs hP hS => ?_)
  subst w19
  dsimp only [xT2] at h
  refine lv_iconst (v := (0 : Int32)) hx hb d_RD_readErrors_51 (by decide) ?_
  refine lv_istore_n (lv' := [(2, .int (0 : Int32)), (0, .ref (lay 179)), (1, .ref (lay a1))]) hx hb d_RD_readErrors_52 rfl hl (by decide) rfl (fun ls hl => ?_)
  refine lv_iconst (v := (0 : Int32)) hx hb d_RD_readErrors_53 (by decide) ?_
  refine lv_istore_n (lv' := [(3, .int (0 : Int32)), (2, .int (0 : Int32)), (0, .ref (lay 179)), (1, .ref (lay a1))]) hx hb d_RD_readErrors_54 rfl hl (by decide) rfl (fun ls hl => ?_)
  exact k_RD_readErrors_55 l hq C E 4096 S18 a1 (0 : Int32) (0 : Int32) _ h H locs ls hP hS (lv_sub hl [2, 3, 1, 0] rfl)
def f_RD_readErrors (S : XS) (a1 : Nat) : Option ((Unit × XS) ⊕ XS) :=
  if (xgi S 179 2) = 0 then (f_RD_readErrors_28 S a1) else ((f_WO_is S 18).bind fun q2 => if q2 = 0 then (f_RD_readErrors_28 S a1) else ((f_WO_fail S (7 : Int32)).bind (xT2 fun _ S6 => f_RD_readErrors_28 S6 a1)))
set_option maxHeartbeats 4000000 in
set_option maxRecDepth 100000 in
theorem k_RD_readErrors (l : Launch) (hq : l.stackTraces = false) {p : Program} {e : Env} {s : State} {m : MethodId} {args : Array Value} {below : List Frame} {meth : Method} {c : Code} {D : va_G} {lay : Nat → Nat} {cA : Nat → ClassId} {adK adV : Nat → Nat} {s0 : State} (C : xB p s m args meth c R_RD b_RD_readErrors ((Option.none : Option Jvm.ClassFile.FieldType)) 5) (E : xE D lay cA adK adV s0 s s.heap) : ∀ (S : XS) (a1 : Nat) (r : (Unit × XS) ⊕ XS) (_ : f_RD_readErrors S a1 = some r) (H : Heap) (locs : List Loc) (ls : Array Slot), va_P D xcl (xw lay cA S) H → va_S (xI lay) s.heap H locs → lv_has ls 5 [(0, .ref (lay 179)), (1, .ref (lay a1))] → W p l e rm_RD_readErrors s m args below meth c H locs 0 0 (XF below (xrv D lay cA r) (xrt D lay cA r) s 0 0 1 6 (xI lay)) (F0 m 0 ls []) := by
  obtain ⟨hx, hb, hr, hml, hown, hts, hlk, hnh⟩ := id C
  have hK := E.K
  intro S a1 r h H locs ls hP hS hl
  unfold f_RD_readErrors at h
  refine lv_aload_n hx hb d_RD_readErrors_0 rfl (lv_at hl 0 rfl) ?_
  refine va_get (v := .int (xgi S 179 2)) (C := R_RD) (T := F_RD) (N := 4) hx hb hts i_RD hown hK hP 179 (xw_at (by decide) (xc_179 _ _ _ _)) rfl 2 (by decide) (hts _ wd_171) (fun _ h9 => h9) rfl d_RD_readErrors_1 ?_
  refine lv_if_eq (tgt := 28) hx hb d_RD_readErrors_4 (by decide) (fun c_9 => ?_) (fun c_9 => ?_)
  · have h := xif_t c_9 h
    exact k_RD_readErrors_28 l hq C E S a1 _ h H locs ls hP hS hl
  · have h := xif_f c_9 h
    refine lv_aload_n hx hb d_RD_readErrors_7 rfl (lv_at hl 0 rfl) ?_
    refine va_get (v := .ref (lay 2)) (C := R_RD) (T := F_RD) (N := 4) hx hb hts i_RD hown hK hP 179 (xw_at (by decide) (xc_179 _ _ _ _)) rfl 0 (by decide) (hts _ wd_169) (fun _ h9 => h9) rfl d_RD_readErrors_8 ?_
    refine va_ldcS hx hb hown (E.lit (List.mem_of_getElem? (i := 19) rfl : ("ConfigTexts$Reader", 178, "errors", 18) ∈ xlits)) d_RD_readErrors_11 ?_
    obtain ⟨q2, e1, h⟩ := xb h
    refine xc_i (va_runV (As := [.ref (adK 18)]) (rest := []) ⟨hx, hb, hml, hown, hts⟩ (c_WO_is l D lay cA adK adV s0 S 18 q2 e1) (cwV 1 hts (xT_V wd_536 wd_456 wd_457 wd_2 wd_458) rfl rfl rfl (by decide +kernel) ⟨Nat.le_of_ble_eq_true rfl, Nat.le_of_ble_eq_true rfl⟩) (xpV E hP hS (by decide) (xc_2 _ _ _ _) rfl) rfl rfl hl.1 rfl (lv_room (Nat.le_of_ble_eq_true rfl)) d_RD_readErrors_13 ⟨Nat.le_of_ble_eq_true rfl, Nat.le_of_ble_eq_true rfl⟩) hS (fun H locs hP hS => ?_)
    refine lv_if_eq (tgt := 28) hx hb d_RD_readErrors_16 (by decide) (fun c_8 => ?_) (fun c_8 => ?_)
    · have h := xif_t c_8 h
      exact k_RD_readErrors_28 l hq C E S a1 _ h H locs ls hP hS hl
    · have h := xif_f c_8 h
      refine lv_aload_n hx hb d_RD_readErrors_19 rfl (lv_at hl 0 rfl) ?_
      refine va_get (v := .ref (lay 2)) (C := R_RD) (T := F_RD) (N := 4) hx hb hts i_RD hown hK hP 179 (xw_at (by decide) (xc_179 _ _ _ _)) rfl 0 (by decide) (hts _ wd_169) (fun _ h9 => h9) rfl d_RD_readErrors_20 ?_
      refine lv_bipush (v := (7 : Int32)) hx hb d_RD_readErrors_23 (by decide) ?_
      obtain ⟨q4, e3, h⟩ := xb h
      refine xk_v (xrunV (As := [.int (7 : Int32)]) (rest := []) ⟨hx, hb, hml, hown, hts⟩ (c_WO_fail l hq D lay cA adK adV s0 S (7 : Int32) q4 e3) (cwV 1 hts (xT_V wd_502 wd_386 wd_387 wd_2 wd_388) rfl rfl rfl (by decide +kernel) ⟨Nat.le_of_ble_eq_true rfl, Nat.le_of_ble_eq_true rfl⟩) (xpV E hP hS (by decide) (xc_2 _ _ _ _) rfl) rfl rfl hl.1 rfl (lv_room (Nat.le_of_ble_eq_true rfl)) d_RD_readErrors_25 ⟨Nat.le_of_ble_eq_true rfl, Nat.le_of_ble_eq_true rfl⟩) hS hnh hlk (fun S9 e9 => by subst e9; exact (Option.some.inj h).symm) (fun v5 S6 w7 H locs hP hS => ?_)
      subst w7
      dsimp only [xT2] at h
      exact k_RD_readErrors_28 l hq C E S6 a1 _ h H locs ls hP hS hl
theorem c_RD_readErrors (l : Launch) (hq : l.stackTraces = false) (D : va_G) (lay : Nat → Nat) (cA : Nat → ClassId) (adK adV : Nat → Nat) (s0 : State) (S : XS) (a1 : Nat) (r : (Unit × XS) ⊕ XS) (h : f_RD_readErrors S a1 = some r) : MetX l y_RD_readErrors (.code y_RD_readErrors b_RD_readErrors 5 ((Option.none : Option Jvm.ClassFile.FieldType)) :: xT) rm_RD_readErrors (xPc D lay cA adK adV s0 S [.ref (lay 179), .ref (lay a1)]) (xrv D lay cA r) (xrt D lay cA r) 0 0 1 6 (xI lay) := by
  refine MetX.ofW (cc := b_RD_readErrors) (maxL := 5) (ret := (Option.none : Option Jvm.ClassFile.FieldType)) (by decide +kernel) rfl ?_
  intro p e s m args below meth c s₁ B hml hv
  obtain ⟨rfl, hP, E⟩ := hv
  have C := xB_of B hml
  have hl := lv_entry ([.ref (lay 179), .ref (lay a1)]) (n := 5) (Nat.le_of_ble_eq_true rfl)
  rw [lg_entry_eq]
  generalize (lg_sl ([.ref (lay 179), .ref (lay a1)]) ++ List.replicate (5 - (lg_sl ([.ref (lay 179), .ref (lay a1)])).length) Slot.unset).toArray = ls at hl ⊢
  exact k_RD_readErrors l hq C E S a1 r h s.heap [] ls hP va_S.rf hl
/-! ConfigTexts$Reader.closePartition(LConfigTexts$Partition;)V -/
def rm_RD_closePartition : Room := { frames := 9, cells := 1, slots := 6, locals := 162 }
theorem d_RD_closePartition_0 : decode b_RD_closePartition 0 = .ok (.aload_n 0, 1) := by decide +kernel
theorem d_RD_closePartition_1 : decode b_RD_closePartition 1 = .ok (.getfield 9, 3) := by decide +kernel
theorem d_RD_closePartition_4 : decode b_RD_closePartition 4 = .ok (.ldc 49, 2) := by decide +kernel
theorem d_RD_closePartition_6 : decode b_RD_closePartition 6 = .ok (.invokevirtual 51, 3) := by decide +kernel
theorem d_RD_closePartition_9 : decode b_RD_closePartition 9 = .ok (.ifCond .eq 32, 3) := by decide +kernel
theorem d_RD_closePartition_12 : decode b_RD_closePartition 12 = .ok (.aload_n 0, 1) := by decide +kernel
theorem d_RD_closePartition_13 : decode b_RD_closePartition 13 = .ok (.getfield 23, 3) := by decide +kernel
theorem d_RD_closePartition_16 : decode b_RD_closePartition 16 = .ok (.iconst (-1), 1) := by decide +kernel
theorem d_RD_closePartition_17 : decode b_RD_closePartition 17 = .ok (.if_icmp .eq 24, 3) := by decide +kernel
theorem d_RD_closePartition_20 : decode b_RD_closePartition 20 = .ok (.aload_n 1, 1) := by decide +kernel
theorem d_RD_closePartition_21 : decode b_RD_closePartition 21 = .ok (.getfield 119, 3) := by decide +kernel
theorem d_RD_closePartition_24 : decode b_RD_closePartition 24 = .ok (.iconst (-1), 1) := by decide +kernel
theorem d_RD_closePartition_25 : decode b_RD_closePartition 25 = .ok (.if_icmp .ne 16, 3) := by decide +kernel
theorem d_RD_closePartition_28 : decode b_RD_closePartition 28 = .ok (.aload_n 0, 1) := by decide +kernel
theorem d_RD_closePartition_29 : decode b_RD_closePartition 29 = .ok (.getfield 9, 3) := by decide +kernel
theorem d_RD_closePartition_32 : decode b_RD_closePartition 32 = .ok (.bipush 7, 2) := by decide +kernel
theorem d_RD_closePartition_34 : decode b_RD_closePartition 34 = .ok (.aload_n 0, 1) := by decide +kernel
theorem d_RD_closePartition_35 : decode b_RD_closePartition 35 = .ok (.getfield 23, 3) := by decide +kernel
theorem d_RD_closePartition_38 : decode b_RD_closePartition 38 = .ok (.invokevirtual 122, 3) := by decide +kernel
theorem d_RD_closePartition_41 : decode b_RD_closePartition 41 = .ok (.aload_n 0, 1) := by decide +kernel
theorem d_RD_closePartition_42 : decode b_RD_closePartition 42 = .ok (.getfield 9, 3) := by decide +kernel
theorem d_RD_closePartition_45 : decode b_RD_closePartition 45 = .ok (.ldc 49, 2) := by decide +kernel
theorem d_RD_closePartition_47 : decode b_RD_closePartition 47 = .ok (.invokevirtual 82, 3) := by decide +kernel
theorem d_RD_closePartition_50 : decode b_RD_closePartition 50 = .ok (.return_, 1) := by decide +kernel
def f_RD_closePartition (S : XS) (a1 : Nat) : Option ((Unit × XS) ⊕ XS) :=
  (f_WO_is S 7).bind fun q2 => if q2 = 0 then ((f_WO_expect S 7).bind (xT2 fun _ S6 => some (.inl ((), S6)))) else (if (xgi S 179 3) = (-1 : Int32) then ((f_WO_expect S 7).bind (xT2 fun _ S11 => some (.inl ((), S11)))) else (if xP a1 then (if (xgi S a1 2) = (-1 : Int32) then ((f_WO_failAt S (7 : Int32) (xgi S 179 3)).bind (xT2 fun _ S22 => (f_WO_expect S22 7).bind (xT2 fun _ S27 => some (.inl ((), S27))))) else ((f_WO_expect S 7).bind (xT2 fun _ S17 => some (.inl ((), S17))))) else none))
set_option maxHeartbeats 4000000 in
set_option maxRecDepth 100000 in
theorem k_RD_closePartition (l : Launch) (hq : l.stackTraces = false) {p : Program} {e : Env} {s : State} {m : MethodId} {args : Array Value} {below : List Frame} {meth : Method} {c : Code} {D : va_G} {lay : Nat → Nat} {cA : Nat → ClassId} {adK adV : Nat → Nat} {s0 : State} (C : xB p s m args meth c R_RD b_RD_closePartition ((Option.none : Option Jvm.ClassFile.FieldType)) 2) (E : xE D lay cA adK adV s0 s s.heap) : ∀ (S : XS) (a1 : Nat) (r : (Unit × XS) ⊕ XS) (_ : f_RD_closePartition S a1 = some r) (H : Heap) (locs : List Loc) (ls : Array Slot), va_P D xcl (xw lay cA S) H → va_S (xI lay) s.heap H locs → lv_has ls 2 [(0, .ref (lay 179)), (1, .ref (lay a1))] → W p l e rm_RD_closePartition s m args below meth c H locs 0 0 (XF below (xrv D lay cA r) (xrt D lay cA r) s 0 0 1 6 (xI lay)) (F0 m 0 ls []) := by
  obtain ⟨hx, hb, hr, hml, hown, hts, hlk, hnh⟩ := id C
  have hK := E.K
  intro S a1 r h H locs ls hP hS hl
  unfold f_RD_closePartition at h
  refine lv_aload_n hx hb d_RD_closePartition_0 rfl (lv_at hl 0 rfl) ?_
  refine va_get (v := .ref (lay 2)) (C := R_RD) (T := F_RD) (N := 4) hx hb hts i_RD hown hK hP 179 (xw_at (by decide) (xc_179 _ _ _ _)) rfl 0 (by decide) (hts _ wd_169) (fun _ h9 => h9) rfl d_RD_closePartition_1 ?_
  refine va_ldcS hx hb hown (E.lit (List.mem_of_getElem? (i := 8) rfl : ("ConfigTexts$Reader", 49, "}", 7) ∈ xlits)) d_RD_closePartition_4 ?_
  obtain ⟨q2, e1, h⟩ := xb h
  refine xc_i (va_runV (As := [.ref (adK 7)]) (rest := []) ⟨hx, hb, hml, hown, hts⟩ (c_WO_is l D lay cA adK adV s0 S 7 q2 e1) (cwV 1 hts (xT_V wd_536 wd_456 wd_457 wd_2 wd_458) rfl rfl rfl (by decide +kernel) ⟨Nat.le_of_ble_eq_true rfl, Nat.le_of_ble_eq_true rfl⟩) (xpV E hP hS (by decide) (xc_2 _ _ _ _) rfl) rfl rfl hl.1 rfl (lv_room (Nat.le_of_ble_eq_true rfl)) d_RD_closePartition_6 ⟨Nat.le_of_ble_eq_true rfl, Nat.le_of_ble_eq_true rfl⟩) hS (fun H locs hP hS => ?_)
  refine lv_if_eq (tgt := 41) hx hb d_RD_closePartition_9 (by decide) (fun c_31 => ?_) (fun c_31 => ?_)
  · have h := xif_t c_31 h
    refine lv_aload_n hx hb d_RD_closePartition_41 rfl (lv_at hl 0 rfl) ?_
    refine va_get (v := .ref (lay 2)) (C := R_RD) (T := F_RD) (N := 4) hx hb hts i_RD hown hK hP 179 (xw_at (by decide) (xc_179 _ _ _ _)) rfl 0 (by decide) (hts _ wd_169) (fun _ h9 => h9) rfl d_RD_closePartition_42 ?_
    refine va_ldcS hx hb hown (E.lit (List.mem_of_getElem? (i := 8) rfl : ("ConfigTexts$Reader", 49, "}", 7) ∈ xlits)) d_RD_closePartition_45 ?_
    obtain ⟨q4, e3, h⟩ := xb h
    refine xk_v (xrunV (As := [.ref (adK 7)]) (rest := []) ⟨hx, hb, hml, hown, hts⟩ (c_WO_expect l hq D lay cA adK adV s0 S 7 q4 e3) (cwV 1 hts (xT_V wd_493 wd_494 wd_495 wd_2 wd_496) rfl rfl rfl (by decide +kernel) ⟨Nat.le_of_ble_eq_true rfl, Nat.le_of_ble_eq_true rfl⟩) (xpV E hP hS (by decide) (xc_2 _ _ _ _) rfl) rfl rfl hl.1 rfl (lv_room (Nat.le_of_ble_eq_true rfl)) d_RD_closePartition_47 ⟨Nat.le_of_ble_eq_true rfl, Nat.le_of_ble_eq_true rfl⟩) hS hnh hlk (fun S9 e9 => by subst e9; exact (Option.some.inj h).symm) (fun v5 S6 w7 H locs hP hS => ?_)
    subst w7
    dsimp only [xT2] at h
    have h9 := Option.some.inj h
    subst h9
    exact xret (W.vret hx hb hr (fun t ht hW => ⟨_, rfl, ⟨⟨(), S6, rfl, rfl, by show va_P D xcl _ t.heap; rw [ht]; exact hP⟩, hS.F ht⟩⟩) hS.2.2 d_RD_closePartition_50)
  · have h := xif_f c_31 h
    refine lv_aload_n hx hb d_RD_closePartition_12 rfl (lv_at hl 0 rfl) ?_
    refine va_get (v := .int (xgi S 179 3)) (C := R_RD) (T := F_RD) (N := 4) hx hb hts i_RD hown hK hP 179 (xw_at (by decide) (xc_179 _ _ _ _)) rfl 3 (by decide) (hts _ wd_172) (fun _ h9 => h9) rfl d_RD_closePartition_13 ?_
    refine lv_iconst (v := (-1 : Int32)) hx hb d_RD_closePartition_16 (by decide) ?_
    refine lv_icmp_eq (tgt := 41) hx hb d_RD_closePartition_17 (by decide) (fun c_30 => ?_) (fun c_30 => ?_)
    · have h := xif_t c_30 h
      refine lv_aload_n hx hb d_RD_closePartition_41 rfl (lv_at hl 0 rfl) ?_
      refine va_get (v := .ref (lay 2)) (C := R_RD) (T := F_RD) (N := 4) hx hb hts i_RD hown hK hP 179 (xw_at (by decide) (xc_179 _ _ _ _)) rfl 0 (by decide) (hts _ wd_169) (fun _ h9 => h9) rfl d_RD_closePartition_42 ?_
      refine va_ldcS hx hb hown (E.lit (List.mem_of_getElem? (i := 8) rfl : ("ConfigTexts$Reader", 49, "}", 7) ∈ xlits)) d_RD_closePartition_45 ?_
      obtain ⟨q9, e8, h⟩ := xb h
      refine xk_v (xrunV (As := [.ref (adK 7)]) (rest := []) ⟨hx, hb, hml, hown, hts⟩ (c_WO_expect l hq D lay cA adK adV s0 S 7 q9 e8) (cwV 1 hts (xT_V wd_493 wd_494 wd_495 wd_2 wd_496) rfl rfl rfl (by decide +kernel) ⟨Nat.le_of_ble_eq_true rfl, Nat.le_of_ble_eq_true rfl⟩) (xpV E hP hS (by decide) (xc_2 _ _ _ _) rfl) rfl rfl hl.1 rfl (lv_room (Nat.le_of_ble_eq_true rfl)) d_RD_closePartition_47 ⟨Nat.le_of_ble_eq_true rfl, Nat.le_of_ble_eq_true rfl⟩) hS hnh hlk (fun S9 e9 => by subst e9; exact (Option.some.inj h).symm) (fun v10 S11 w12 H locs hP hS => ?_)
      subst w12
      dsimp only [xT2] at h
      have h9 := Option.some.inj h
      subst h9
      exact xret (W.vret hx hb hr (fun t ht hW => ⟨_, rfl, ⟨⟨(), S11, rfl, rfl, by show va_P D xcl _ t.heap; rw [ht]; exact hP⟩, hS.F ht⟩⟩) hS.2.2 d_RD_closePartition_50)
    · have h := xif_f c_30 h
      refine lv_aload_n hx hb d_RD_closePartition_20 rfl (lv_at hl 1 rfl) ?_
      obtain ⟨hk13, h⟩ := xg h
      refine va_getN (v := .int (xgi S a1 2)) (C := R_PA) (T := F_PA) (N := 5) hx hb hts i_PA hown hK hP a1 (xw_at (xP_lt hk13).1 (xc_PA _ _ _ _ hk13)) rfl 2 (by decide) (E.nest wn_114) (fun _ h9 => h9) rfl d_RD_closePartition_21 ?_
      refine lv_iconst (v := (-1 : Int32)) hx hb d_RD_closePartition_24 (by decide) ?_
      refine lv_icmp_ne (tgt := 41) hx hb d_RD_closePartition_25 (by decide) (fun c_29 => ?_) (fun c_29 => ?_)
      · have h := xif_f c_29 h
        refine lv_aload_n hx hb d_RD_closePartition_41 rfl (lv_at hl 0 rfl) ?_
        refine va_get (v := .ref (lay 2)) (C := R_RD) (T := F_RD) (N := 4) hx hb hts i_RD hown hK hP 179 (xw_at (by decide) (xc_179 _ _ _ _)) rfl 0 (by decide) (hts _ wd_169) (fun _ h9 => h9) rfl d_RD_closePartition_42 ?_
        refine va_ldcS hx hb hown (E.lit (List.mem_of_getElem? (i := 8) rfl : ("ConfigTexts$Reader", 49, "}", 7) ∈ xlits)) d_RD_closePartition_45 ?_
        obtain ⟨q15, e14, h⟩ := xb h
        refine xk_v (xrunV (As := [.ref (adK 7)]) (rest := []) ⟨hx, hb, hml, hown, hts⟩ (c_WO_expect l hq D lay cA adK adV s0 S 7 q15 e14) (cwV 1 hts (xT_V wd_493 wd_494 wd_495 wd_2 wd_496) rfl rfl rfl (by decide +kernel) ⟨Nat.le_of_ble_eq_true rfl, Nat.le_of_ble_eq_true rfl⟩) (xpV E hP hS (by decide) (xc_2 _ _ _ _) rfl) rfl rfl hl.1 rfl (lv_room (Nat.le_of_ble_eq_true rfl)) d_RD_closePartition_47 ⟨Nat.le_of_ble_eq_true rfl, Nat.le_of_ble_eq_true rfl⟩) hS hnh hlk (fun S9 e9 => by subst e9; exact (Option.some.inj h).symm) (fun v16 S17 w18 H locs hP hS => ?_)
        subst w18
        dsimp only [xT2] at h
        have h9 := Option.some.inj h
        subst h9
        exact xret (W.vret hx hb hr (fun t ht hW => ⟨_, rfl, ⟨⟨(), S17, rfl, rfl, by show va_P D xcl _ t.heap; rw [ht]; exact hP⟩, hS.F ht⟩⟩) hS.2.2 d_RD_closePartition_50)
      · have h := xif_t c_29 h
        refine lv_aload_n hx hb d_RD_closePartition_28 rfl (lv_at hl 0 rfl) ?_
        refine va_get (v := .ref (lay 2)) (C := R_RD) (T := F_RD) (N := 4) hx hb hts i_RD hown hK hP 179 (xw_at (by decide) (xc_179 _ _ _ _)) rfl 0 (by decide) (hts _ wd_169) (fun _ h9 => h9) rfl d_RD_closePartition_29 ?_
        refine lv_bipush (v := (7 : Int32)) hx hb d_RD_closePartition_32 (by decide) ?_
        refine lv_aload_n hx hb d_RD_closePartition_34 rfl (lv_at hl 0 rfl) ?_
        refine va_get (v := .int (xgi S 179 3)) (C := R_RD) (T := F_RD) (N := 4) hx hb hts i_RD hown hK hP 179 (xw_at (by decide) (xc_179 _ _ _ _)) rfl 3 (by decide) (hts _ wd_172) (fun _ h9 => h9) rfl d_RD_closePartition_35 ?_
        obtain ⟨q20, e19, h⟩ := xb h
        refine xk_v (xrunV (As := [.int (7 : Int32), .int (xgi S 179 3)]) (rest := []) ⟨hx, hb, hml, hown, hts⟩ (c_WO_failAt l hq D lay cA adK adV s0 S (7 : Int32) (xgi S 179 3) q20 e19) (cwV 2 hts (xT_V wd_618 wd_619 wd_620 wd_2 wd_621) rfl rfl rfl (by decide +kernel) ⟨Nat.le_of_ble_eq_true rfl, Nat.le_of_ble_eq_true rfl⟩) (xpV E hP hS (by decide) (xc_2 _ _ _ _) rfl) rfl rfl hl.1 rfl (lv_room (Nat.le_of_ble_eq_true rfl)) d_RD_closePartition_38 ⟨Nat.le_of_ble_eq_true rfl, Nat.le_of_ble_eq_true rfl⟩) hS hnh hlk (fun S9 e9 => by subst e9; exact (Option.some.inj h).symm) (fun v21 S22 w23 H locs hP hS => ?_)
        subst w23
        dsimp only [xT2] at h
        refine lv_aload_n hx hb d_RD_closePartition_41 rfl (lv_at hl 0 rfl) ?_
        refine va_get (v := .ref (lay 2)) (C := R_RD) (T := F_RD) (N := 4) hx hb hts i_RD hown hK hP 179 (xw_at (by decide) (xc_179 _ _ _ _)) rfl 0 (by decide) (hts _ wd_169) (fun _ h9 => h9) rfl d_RD_closePartition_42 ?_
        refine va_ldcS hx hb hown (E.lit (List.mem_of_getElem? (i := 8) rfl : ("ConfigTexts$Reader", 49, "}", 7) ∈ xlits)) d_RD_closePartition_45 ?_
        obtain ⟨q25, e24, h⟩ := xb h
        refine xk_v (xrunV (As := [.ref (adK 7)]) (rest := []) ⟨hx, hb, hml, hown, hts⟩ (c_WO_expect l hq D lay cA adK adV s0 S22 7 q25 e24) (cwV 1 hts (xT_V wd_493 wd_494 wd_495 wd_2 wd_496) rfl rfl rfl (by decide +kernel) ⟨Nat.le_of_ble_eq_true rfl, Nat.le_of_ble_eq_true rfl⟩) (xpV E hP hS (by decide) (xc_2 _ _ _ _) rfl) rfl rfl hl.1 rfl (lv_room (Nat.le_of_ble_eq_true rfl)) d_RD_closePartition_47 ⟨Nat.le_of_ble_eq_true rfl, Nat.le_of_ble_eq_true rfl⟩) hS hnh hlk (fun S9 e9 => by subst e9; exact (Option.some.inj h).symm) (fun v26 S27 w28 H locs hP hS => ?_)
        subst w28
        dsimp only [xT2] at h
        have h9 := Option.some.inj h
        subst h9
        exact xret (W.vret hx hb hr (fun t ht hW => ⟨_, rfl, ⟨⟨(), S27, rfl, rfl, by show va_P D xcl _ t.heap; rw [ht]; exact hP⟩, hS.F ht⟩⟩) hS.2.2 d_RD_closePartition_50)
theorem c_RD_closePartition (l : Launch) (hq : l.stackTraces = false) (D : va_G) (lay : Nat → Nat) (cA : Nat → ClassId) (adK adV : Nat → Nat) (s0 : State) (S : XS) (a1 : Nat) (r : (Unit × XS) ⊕ XS) (h : f_RD_closePartition S a1 = some r) : MetX l y_RD_closePartition (.code y_RD_closePartition b_RD_closePartition 2 ((Option.none : Option Jvm.ClassFile.FieldType)) :: xT) rm_RD_closePartition (xPc D lay cA adK adV s0 S [.ref (lay 179), .ref (lay a1)]) (xrv D lay cA r) (xrt D lay cA r) 0 0 1 6 (xI lay) := by
  refine MetX.ofW (cc := b_RD_closePartition) (maxL := 2) (ret := (Option.none : Option Jvm.ClassFile.FieldType)) (by decide +kernel) rfl ?_
  intro p e s m args below meth c s₁ B hml hv
  obtain ⟨rfl, hP, E⟩ := hv
  have C := xB_of B hml
  have hl := lv_entry ([.ref (lay 179), .ref (lay a1)]) (n := 2) (Nat.le_of_ble_eq_true rfl)
  rw [lg_entry_eq]
  generalize (lg_sl ([.ref (lay 179), .ref (lay a1)]) ++ List.replicate (2 - (lg_sl ([.ref (lay 179), .ref (lay a1)])).length) Slot.unset).toArray = ls at hl ⊢
  exact k_RD_closePartition l hq C E S a1 r h s.heap [] ls hP va_S.rf hl
/-! ConfigTexts$Reader.readPartition()V -/
def rm_RD_readPartition : Room := { frames := 11, cells := 1, slots := 6, locals := 212 }
theorem d_RD_readPartition_0 : decode b_RD_readPartition 0 = .ok (.aload_n 0, 1) := by decide +kernel
theorem d_RD_readPartition_1 : decode b_RD_readPartition 1 = .ok (.invokevirtual 27, 3) := by decide +kernel
theorem d_RD_readPartition_4 : decode b_RD_readPartition 4 = .ok (.aload_n 0, 1) := by decide +kernel
theorem d_RD_readPartition_5 : decode b_RD_readPartition 5 = .ok (.getfield 15, 3) := by decide +kernel
theorem d_RD_readPartition_8 : decode b_RD_readPartition 8 = .ok (.aload_n 0, 1) := by decide +kernel
theorem d_RD_readPartition_9 : decode b_RD_readPartition 9 = .ok (.getfield 15, 3) := by decide +kernel
theorem d_RD_readPartition_12 : decode b_RD_readPartition 12 = .ok (.getfield 30, 3) := by decide +kernel
theorem d_RD_readPartition_15 : decode b_RD_readPartition 15 = .ok (.iconst 1, 1) := by decide +kernel
theorem d_RD_readPartition_16 : decode b_RD_readPartition 16 = .ok (.isub, 1) := by decide +kernel
theorem d_RD_readPartition_17 : decode b_RD_readPartition 17 = .ok (.invokevirtual 35, 3) := by decide +kernel
theorem d_RD_readPartition_20 : decode b_RD_readPartition 20 = .ok (.astore_n 1, 1) := by decide +kernel
theorem d_RD_readPartition_21 : decode b_RD_readPartition 21 = .ok (.aload_n 1, 1) := by decide +kernel
theorem d_RD_readPartition_22 : decode b_RD_readPartition 22 = .ok (.ifnonnull 4, 3) := by decide +kernel
theorem d_RD_readPartition_25 : decode b_RD_readPartition 25 = .ok (.return_, 1) := by decide +kernel
theorem d_RD_readPartition_26 : decode b_RD_readPartition 26 = .ok (.aload_n 1, 1) := by decide +kernel
theorem d_RD_readPartition_27 : decode b_RD_readPartition 27 = .ok (.aload_n 0, 1) := by decide +kernel
theorem d_RD_readPartition_28 : decode b_RD_readPartition 28 = .ok (.ldc 39, 2) := by decide +kernel
theorem d_RD_readPartition_30 : decode b_RD_readPartition 30 = .ok (.sipush 256, 3) := by decide +kernel
theorem d_RD_readPartition_33 : decode b_RD_readPartition 33 = .ok (.sipush 4096, 3) := by decide +kernel
theorem d_RD_readPartition_36 : decode b_RD_readPartition 36 = .ok (.sipush 256, 3) := by decide +kernel
theorem d_RD_readPartition_39 : decode b_RD_readPartition 39 = .ok (.invokevirtual 41, 3) := by decide +kernel
theorem d_RD_readPartition_42 : decode b_RD_readPartition 42 = .ok (.putfield 45, 3) := by decide +kernel
theorem d_RD_readPartition_45 : decode b_RD_readPartition 45 = .ok (.iconst 0, 1) := by decide +kernel
theorem d_RD_readPartition_46 : decode b_RD_readPartition 46 = .ok (.istore_n 2, 1) := by decide +kernel
theorem d_RD_readPartition_47 : decode b_RD_readPartition 47 = .ok (.iload_n 2, 1) := by decide +kernel
theorem d_RD_readPartition_48 : decode b_RD_readPartition 48 = .ok (.sipush 2000, 3) := by decide +kernel
theorem d_RD_readPartition_51 : decode b_RD_readPartition 51 = .ok (.if_icmp .ge 116, 3) := by decide +kernel
theorem d_RD_readPartition_54 : decode b_RD_readPartition 54 = .ok (.aload_n 0, 1) := by decide +kernel
theorem d_RD_readPartition_55 : decode b_RD_readPartition 55 = .ok (.getfield 9, 3) := by decide +kernel
theorem d_RD_readPartition_58 : decode b_RD_readPartition 58 = .ok (.ldc 49, 2) := by decide +kernel
theorem d_RD_readPartition_60 : decode b_RD_readPartition 60 = .ok (.invokevirtual 51, 3) := by decide +kernel
theorem d_RD_readPartition_63 : decode b_RD_readPartition 63 = .ok (.ifCond .ne 104, 3) := by decide +kernel
theorem d_RD_readPartition_66 : decode b_RD_readPartition 66 = .ok (.aload_n 0, 1) := by decide +kernel
theorem d_RD_readPartition_67 : decode b_RD_readPartition 67 = .ok (.getfield 9, 3) := by decide +kernel
theorem d_RD_readPartition_70 : decode b_RD_readPartition 70 = .ok (.ldc 57, 2) := by decide +kernel
theorem d_RD_readPartition_72 : decode b_RD_readPartition 72 = .ok (.invokevirtual 59, 3) := by decide +kernel
theorem d_RD_readPartition_75 : decode b_RD_readPartition 75 = .ok (.istore_n 3, 1) := by decide +kernel
theorem d_RD_readPartition_76 : decode b_RD_readPartition 76 = .ok (.iload_n 3, 1) := by decide +kernel
theorem d_RD_readPartition_77 : decode b_RD_readPartition 77 = .ok (.ifCond .ne 11, 3) := by decide +kernel
theorem d_RD_readPartition_80 : decode b_RD_readPartition 80 = .ok (.aload_n 0, 1) := by decide +kernel
theorem d_RD_readPartition_81 : decode b_RD_readPartition 81 = .ok (.aload_n 1, 1) := by decide +kernel
theorem d_RD_readPartition_82 : decode b_RD_readPartition 82 = .ok (.invokevirtual 63, 3) := by decide +kernel
theorem d_RD_readPartition_85 : decode b_RD_readPartition 85 = .ok (.goto 76, 3) := by decide +kernel
theorem d_RD_readPartition_88 : decode b_RD_readPartition 88 = .ok (.iload_n 3, 1) := by decide +kernel
theorem d_RD_readPartition_89 : decode b_RD_readPartition 89 = .ok (.iconst 1, 1) := by decide +kernel
theorem d_RD_readPartition_90 : decode b_RD_readPartition 90 = .ok (.if_icmp .ne 11, 3) := by decide +kernel
theorem d_RD_readPartition_93 : decode b_RD_readPartition 93 = .ok (.aload_n 0, 1) := by decide +kernel
theorem d_RD_readPartition_94 : decode b_RD_readPartition 94 = .ok (.aload_n 1, 1) := by decide +kernel
theorem d_RD_readPartition_95 : decode b_RD_readPartition 95 = .ok (.invokevirtual 67, 3) := by decide +kernel
theorem d_RD_readPartition_98 : decode b_RD_readPartition 98 = .ok (.goto 63, 3) := by decide +kernel
theorem d_RD_readPartition_101 : decode b_RD_readPartition 101 = .ok (.iload_n 3, 1) := by decide +kernel
theorem d_RD_readPartition_102 : decode b_RD_readPartition 102 = .ok (.iconst 3, 1) := by decide +kernel
theorem d_RD_readPartition_103 : decode b_RD_readPartition 103 = .ok (.if_icmp .ne 11, 3) := by decide +kernel
theorem d_RD_readPartition_106 : decode b_RD_readPartition 106 = .ok (.aload_n 0, 1) := by decide +kernel
theorem d_RD_readPartition_107 : decode b_RD_readPartition 107 = .ok (.aload_n 1, 1) := by decide +kernel
theorem d_RD_readPartition_108 : decode b_RD_readPartition 108 = .ok (.invokevirtual 70, 3) := by decide +kernel
theorem d_RD_readPartition_111 : decode b_RD_readPartition 111 = .ok (.goto 50, 3) := by decide +kernel
theorem d_RD_readPartition_114 : decode b_RD_readPartition 114 = .ok (.iload_n 3, 1) := by decide +kernel
theorem d_RD_readPartition_115 : decode b_RD_readPartition 115 = .ok (.iconst 5, 1) := by decide +kernel
theorem d_RD_readPartition_116 : decode b_RD_readPartition 116 = .ok (.if_icmp .ne 11, 3) := by decide +kernel
theorem d_RD_readPartition_119 : decode b_RD_readPartition 119 = .ok (.aload_n 0, 1) := by decide +kernel
theorem d_RD_readPartition_120 : decode b_RD_readPartition 120 = .ok (.aload_n 1, 1) := by decide +kernel
theorem d_RD_readPartition_121 : decode b_RD_readPartition 121 = .ok (.invokevirtual 73, 3) := by decide +kernel
theorem d_RD_readPartition_124 : decode b_RD_readPartition 124 = .ok (.goto 37, 3) := by decide +kernel
theorem d_RD_readPartition_127 : decode b_RD_readPartition 127 = .ok (.iload_n 3, 1) := by decide +kernel
theorem d_RD_readPartition_128 : decode b_RD_readPartition 128 = .ok (.iconst 2, 1) := by decide +kernel
theorem d_RD_readPartition_129 : decode b_RD_readPartition 129 = .ok (.if_icmp .eq 8, 3) := by decide +kernel
theorem d_RD_readPartition_132 : decode b_RD_readPartition 132 = .ok (.iload_n 3, 1) := by decide +kernel
theorem d_RD_readPartition_133 : decode b_RD_readPartition 133 = .ok (.iconst 4, 1) := by decide +kernel
theorem d_RD_readPartition_134 : decode b_RD_readPartition 134 = .ok (.if_icmp .ne 22, 3) := by decide +kernel
theorem d_RD_readPartition_137 : decode b_RD_readPartition 137 = .ok (.aload_n 0, 1) := by decide +kernel
theorem d_RD_readPartition_138 : decode b_RD_readPartition 138 = .ok (.aload_n 1, 1) := by decide +kernel
theorem d_RD_readPartition_139 : decode b_RD_readPartition 139 = .ok (.iload_n 3, 1) := by decide +kernel
theorem d_RD_readPartition_140 : decode b_RD_readPartition 140 = .ok (.invokevirtual 76, 3) := by decide +kernel
theorem d_RD_readPartition_143 : decode b_RD_readPartition 143 = .ok (.pop, 1) := by decide +kernel
theorem d_RD_readPartition_144 : decode b_RD_readPartition 144 = .ok (.aload_n 0, 1) := by decide +kernel
theorem d_RD_readPartition_145 : decode b_RD_readPartition 145 = .ok (.getfield 9, 3) := by decide +kernel
theorem d_RD_readPartition_148 : decode b_RD_readPartition 148 = .ok (.ldc 80, 2) := by decide +kernel
theorem d_RD_readPartition_150 : decode b_RD_readPartition 150 = .ok (.invokevirtual 82, 3) := by decide +kernel
theorem d_RD_readPartition_153 : decode b_RD_readPartition 153 = .ok (.goto 8, 3) := by decide +kernel
theorem d_RD_readPartition_156 : decode b_RD_readPartition 156 = .ok (.aload_n 0, 1) := by decide +kernel
theorem d_RD_readPartition_157 : decode b_RD_readPartition 157 = .ok (.aload_n 1, 1) := by decide +kernel
theorem d_RD_readPartition_158 : decode b_RD_readPartition 158 = .ok (.invokevirtual 86, 3) := by decide +kernel
theorem d_RD_readPartition_161 : decode b_RD_readPartition 161 = .ok (.iinc 2 1, 3) := by decide +kernel
theorem d_RD_readPartition_164 : decode b_RD_readPartition 164 = .ok (.goto (-117), 3) := by decide +kernel
theorem d_RD_readPartition_167 : decode b_RD_readPartition 167 = .ok (.aload_n 0, 1) := by decide +kernel
theorem d_RD_readPartition_168 : decode b_RD_readPartition 168 = .ok (.aload_n 1, 1) := by decide +kernel
theorem d_RD_readPartition_169 : decode b_RD_readPartition 169 = .ok (.invokevirtual 89, 3) := by decide +kernel
theorem d_RD_readPartition_172 : decode b_RD_readPartition 172 = .ok (.return_, 1) := by decide +kernel
def f_RD_readPartition_47 : Nat → XS → Nat → Int32 → Option ((Unit × XS) ⊕ XS)
  | 0, _, _, _ => none
  | n + 1, S, a1, a2 =>
    if (2000 : Int32) ≤ a2 then ((f_RD_closePartition S a1).bind (xT2 fun _ S18 => some (.inl ((), S18)))) else ((f_WO_is S 7).bind fun q21 => if q21 = 0 then ((f_WO_whichOf S 8).bind fun q28 => if q28 = 0 then ((f_RD_readProcess S a1).bind (xT2 fun _ S77 => f_RD_readPartition_47 n S77 a1 (a2 + (1 : Int32)))) else (if q28 = (1 : Int32) then ((f_RD_readSemaphore S a1).bind (xT2 fun _ S71 => f_RD_readPartition_47 n S71 a1 (a2 + (1 : Int32)))) else (if q28 = (3 : Int32) then ((f_RD_readBuffer S a1).bind (xT2 fun _ S65 => f_RD_readPartition_47 n S65 a1 (a2 + (1 : Int32)))) else (if q28 = (5 : Int32) then ((f_RD_readPort S a1).bind (xT2 fun _ S59 => f_RD_readPartition_47 n S59 a1 (a2 + (1 : Int32)))) else (if q28 = (2 : Int32) then ((f_RD_nameThing S a1 q28).bind (xT2 fun v31 S32 => (f_WO_expect S32 6).bind (xT2 fun _ S37 => f_RD_readPartition_47 n S37 a1 (a2 + (1 : Int32))))) else (if q28 = (4 : Int32) then ((f_RD_nameThing S a1 q28).bind (xT2 fun v46 S47 => (f_WO_expect S47 6).bind (xT2 fun _ S52 => f_RD_readPartition_47 n S52 a1 (a2 + (1 : Int32))))) else ((f_RD_readErrors S a1).bind (xT2 fun _ S42 => f_RD_readPartition_47 n S42 a1 (a2 + (1 : Int32)))))))))) else ((f_RD_closePartition S a1).bind (xT2 fun _ S25 => some (.inl ((), S25)))))
set_option maxHeartbeats 4000000 in
set_option maxRecDepth 100000 in
theorem k_RD_readPartition_47 (l : Launch) (hq : l.stackTraces = false) {p : Program} {e : Env} {s : State} {m : MethodId} {args : Array Value} {below : List Frame} {meth : Method} {c : Code} {D : va_G} {lay : Nat → Nat} {cA : Nat → ClassId} {adK adV : Nat → Nat} {s0 : State} (C : xB p s m args meth c R_RD b_RD_readPartition ((Option.none : Option Jvm.ClassFile.FieldType)) 4) (E : xE D lay cA adK adV s0 s s.heap) : ∀ (n : Nat) (S : XS) (a1 : Nat) (a2 : Int32) (r : (Unit × XS) ⊕ XS) (_ : f_RD_readPartition_47 n S a1 a2 = some r) (H : Heap) (locs : List Loc) (ls : Array Slot), va_P D xcl (xw lay cA S) H → va_S (xI lay) s.heap H locs → lv_has ls 4 [(0, .ref (lay 179)), (1, .ref (lay a1)), (2, .int a2)] → W p l e rm_RD_readPartition s m args below meth c H locs 0 0 (XF below (xrv D lay cA r) (xrt D lay cA r) s 0 0 1 6 (xI lay)) (F0 m 47 ls []) := by
  obtain ⟨hx, hb, hr, hml, hown, hts, hlk, hnh⟩ := id C
  have hK := E.K
  intro n
  induction n with
  | zero => intro S a1 a2 r h; rw [f_RD_readPartition_47] at h; cases h
  | succ n ih =>
    intro S a1 a2 r h H locs ls hP hS hl
    rw [f_RD_readPartition_47] at h
    refine lv_iload_n hx hb d_RD_readPartition_47 rfl (lv_at hl 2 rfl) ?_
    refine lv_sipush (v := (2000 : Int32)) hx hb d_RD_readPartition_48 (by decide) ?_
    refine lv_icmp_ge (tgt := 167) hx hb d_RD_readPartition_51 (by decide) (fun c_81 => ?_) (fun c_81 => ?_)
    · have h := xif_t c_81 h
      refine lv_aload_n hx hb d_RD_readPartition_167 rfl (lv_at hl 0 rfl) ?_
      refine lv_aload_n hx hb d_RD_readPartition_168 rfl (lv_at hl 1 rfl) ?_
      obtain ⟨q16, e15, h⟩ := xb h
      refine xk_v (xrunV (As := [.ref (lay a1)]) (rest := []) ⟨hx, hb, hml, hown, hts⟩ (c_RD_closePartition l hq D lay cA adK adV s0 S a1 q16 e15) (cwV 1 hts (xT_V wd_614 wd_616 wp_15 wd_6 wd_617) rfl rfl rfl (by decide +kernel) ⟨Nat.le_of_ble_eq_true rfl, Nat.le_of_ble_eq_true rfl⟩) (xpV E hP hS (by decide) (xc_179 _ _ _ _) rfl) rfl rfl hl.1 rfl (lv_room (Nat.le_of_ble_eq_true rfl)) d_RD_readPartition_169 ⟨Nat.le_of_ble_eq_true rfl, Nat.le_of_ble_eq_true rfl⟩) hS hnh hlk (fun S9 e9 => by subst e9; exact (Option.some.inj h).symm) (fun v17 S18 w19 H locs hP hS => ?_)
      subst w19
      dsimp only [xT2] at h
      have h9 := Option.some.inj h
      subst h9
      exact xret (W.vret hx hb hr (fun t ht hW => ⟨_, rfl, ⟨⟨(), S18, rfl, rfl, by show va_P D xcl _ t.heap; rw [ht]; exact hP⟩, hS.F ht⟩⟩) hS.2.2 d_RD_readPartition_172)
    · have h := xif_f c_81 h
      refine lv_aload_n hx hb d_RD_readPartition_54 rfl (lv_at hl 0 rfl) ?_
      refine va_get (v := .ref (lay 2)) (C := R_RD) (T := F_RD) (N := 4) hx hb hts i_RD hown hK hP 179 (xw_at (by decide) (xc_179 _ _ _ _)) rfl 0 (by decide) (hts _ wd_169) (fun _ h9 => h9) rfl d_RD_readPartition_55 ?_
      refine va_ldcS hx hb hown (E.lit (List.mem_of_getElem? (i := 8) rfl : ("ConfigTexts$Reader", 49, "}", 7) ∈ xlits)) d_RD_readPartition_58 ?_
      obtain ⟨q21, e20, h⟩ := xb h
      refine xc_i (va_runV (As := [.ref (adK 7)]) (rest := []) ⟨hx, hb, hml, hown, hts⟩ (c_WO_is l D lay cA adK adV s0 S 7 q21 e20) (cwV 1 hts (xT_V wd_536 wd_456 wd_457 wd_2 wd_458) rfl rfl rfl (by decide +kernel) ⟨Nat.le_of_ble_eq_true rfl, Nat.le_of_ble_eq_true rfl⟩) (xpV E hP hS (by decide) (xc_2 _ _ _ _) rfl) rfl rfl hl.1 rfl (lv_room (Nat.le_of_ble_eq_true rfl)) d_RD_readPartition_60 ⟨Nat.le_of_ble_eq_true rfl, Nat.le_of_ble_eq_true rfl⟩) hS (fun H locs hP hS => ?_)
      refine lv_if_ne (tgt := 167) hx hb d_RD_readPartition_63 (by decide) (fun c_80 => ?_) (fun c_80 => ?_)
      · have h := xif_f c_80 h
        refine lv_aload_n hx hb d_RD_readPartition_167 rfl (lv_at hl 0 rfl) ?_
        refine lv_aload_n hx hb d_RD_readPartition_168 rfl (lv_at hl 1 rfl) ?_
        obtain ⟨q23, e22, h⟩ := xb h
        refine xk_v (xrunV (As := [.ref (lay a1)]) (rest := []) ⟨hx, hb, hml, hown, hts⟩ (c_RD_closePartition l hq D lay cA adK adV s0 S a1 q23 e22) (cwV 1 hts (xT_V wd_614 wd_616 wp_15 wd_6 wd_617) rfl rfl rfl (by decide +kernel) ⟨Nat.le_of_ble_eq_true rfl, Nat.le_of_ble_eq_true rfl⟩) (xpV E hP hS (by decide) (xc_179 _ _ _ _) rfl) rfl rfl hl.1 rfl (lv_room (Nat.le_of_ble_eq_true rfl)) d_RD_readPartition_169 ⟨Nat.le_of_ble_eq_true rfl, Nat.le_of_ble_eq_true rfl⟩) hS hnh hlk (fun S9 e9 => by subst e9; exact (Option.some.inj h).symm) (fun v24 S25 w26 H locs hP hS => ?_)
        subst w26
        dsimp only [xT2] at h
        have h9 := Option.some.inj h
        subst h9
        exact xret (W.vret hx hb hr (fun t ht hW => ⟨_, rfl, ⟨⟨(), S25, rfl, rfl, by show va_P D xcl _ t.heap; rw [ht]; exact hP⟩, hS.F ht⟩⟩) hS.2.2 d_RD_readPartition_172)
      · have h := xif_t c_80 h
        refine lv_aload_n hx hb d_RD_readPartition_66 rfl (lv_at hl 0 rfl) ?_
        refine va_get (v := .ref (lay 2)) (C := R_RD) (T := F_RD) (N := 4) hx hb hts i_RD hown hK hP 179 (xw_at (by decide) (xc_179 _ _ _ _)) rfl 0 (by decide) (hts _ wd_169) (fun _ h9 => h9) rfl d_RD_readPartition_67 ?_
        refine va_ldcS hx hb hown (E.lit (List.mem_of_getElem? (i := 9) rfl : ("ConfigTexts$Reader", 57, "process semaphore event buffer board port", 8) ∈ xlits)) d_RD_readPartition_70 ?_
        obtain ⟨q28, e27, h⟩ := xb h
        refine xc_i (va_runV (As := [.ref (adK 8)]) (rest := []) ⟨hx, hb, hml, hown, hts⟩ (c_WO_whichOf l D lay cA adK adV s0 S 8 q28 e27) (cwV 1 hts (xT_V wd_538 wd_460 wd_461 wd_2 wd_462) rfl rfl rfl (by decide +kernel) ⟨Nat.le_of_ble_eq_true rfl, Nat.le_of_ble_eq_true rfl⟩) (xpV E hP hS (by decide) (xc_2 _ _ _ _) rfl) rfl rfl hl.1 rfl (lv_room (Nat.le_of_ble_eq_true rfl)) d_RD_readPartition_72 ⟨Nat.le_of_ble_eq_true rfl, Nat.le_of_ble_eq_true rfl⟩) hS (fun H locs hP hS => ?_)
        refine lv_istore_n (lv' := [(3, .int q28), (0, .ref (lay 179)), (1, .ref (lay a1)), (2, .int a2)]) hx hb d_RD_readPartition_75 rfl hl (by decide) rfl (fun ls hl => ?_)
        refine lv_iload_n hx hb d_RD_readPartition_76 rfl (lv_at hl 0 rfl) ?_
        refine lv_if_ne (tgt := 88) hx hb d_RD_readPartition_77 (by decide) (fun c_79 => ?_) (fun c_79 => ?_)
        · have h := xif_f c_79 h
          refine lv_iload_n hx hb d_RD_readPartition_88 rfl (lv_at hl 0 rfl) ?_
          refine lv_iconst (v := (1 : Int32)) hx hb d_RD_readPartition_89 (by decide) ?_
          refine lv_icmp_ne (tgt := 101) hx hb d_RD_readPartition_90 (by decide) (fun c_73 => ?_) (fun c_73 => ?_)
          · have h := xif_f c_73 h
            refine lv_iload_n hx hb d_RD_readPartition_101 rfl (lv_at hl 0 rfl) ?_
            refine lv_iconst (v := (3 : Int32)) hx hb d_RD_readPartition_102 (by decide) ?_
            refine lv_icmp_ne (tgt := 114) hx hb d_RD_readPartition_103 (by decide) (fun c_67 => ?_) (fun c_67 => ?_)
            · have h := xif_f c_67 h
              refine lv_iload_n hx hb d_RD_readPartition_114 rfl (lv_at hl 0 rfl) ?_
              refine lv_iconst (v := (5 : Int32)) hx hb d_RD_readPartition_115 (by decide) ?_
              refine lv_icmp_ne (tgt := 127) hx hb d_RD_readPartition_116 (by decide) (fun c_61 => ?_) (fun c_61 => ?_)
              · have h := xif_f c_61 h
                refine lv_iload_n hx hb d_RD_readPartition_127 rfl (lv_at hl 0 rfl) ?_
                refine lv_iconst (v := (2 : Int32)) hx hb d_RD_readPartition_128 (by decide) ?_
                refine lv_icmp_eq (tgt := 137) hx hb d_RD_readPartition_129 (by decide) (fun c_55 => ?_) (fun c_55 => ?_)
                · have h := xif_t c_55 h
                  refine lv_aload_n hx hb d_RD_readPartition_137 rfl (lv_at hl 1 rfl) ?_
                  refine lv_aload_n hx hb d_RD_readPartition_138 rfl (lv_at hl 2 rfl) ?_
                  refine lv_iload_n hx hb d_RD_readPartition_139 rfl (lv_at hl 0 rfl) ?_
                  obtain ⟨q30, e29, h⟩ := xb h
                  refine xk_r (xrunV (As := [.ref (lay a1), .int q28]) (rest := []) ⟨hx, hb, hml, hown, hts⟩ (c_RD_nameThing l hq D lay cA adK adV s0 S a1 q28 q30 e29) (cwV 2 hts (xT_V wd_543 wd_545 wp_9 wd_6 wd_546) rfl rfl rfl (by decide +kernel) ⟨Nat.le_of_ble_eq_true rfl, Nat.le_of_ble_eq_true rfl⟩) (xpV E hP hS (by decide) (xc_179 _ _ _ _) rfl) rfl rfl hl.1 rfl (lv_room (Nat.le_of_ble_eq_true rfl)) d_RD_readPartition_140 ⟨Nat.le_of_ble_eq_true rfl, Nat.le_of_ble_eq_true rfl⟩) hS hnh hlk (fun S9 e9 => by subst e9; exact (Option.some.inj h).symm) (fun v31 S32 w33 H locs hP hS => ?_)
                  subst w33
                  dsimp only [xT2] at h
                  refine lv_pop hx hb d_RD_readPartition_143 rfl ?_
                  refine lv_aload_n hx hb d_RD_readPartition_144 rfl (lv_at hl 1 rfl) ?_
                  refine va_get (v := .ref (lay 2)) (C := R_RD) (T := F_RD) (N := 4) hx hb hts i_RD hown hK hP 179 (xw_at (by decide) (xc_179 _ _ _ _)) rfl 0 (by decide) (hts _ wd_169) (fun _ h9 => h9) rfl d_RD_readPartition_145 ?_
                  refine va_ldcS hx hb hown (E.lit (List.mem_of_getElem? (i := 7) rfl : ("ConfigTexts$Reader", 80, ";", 6) ∈ xlits)) d_RD_readPartition_148 ?_
                  obtain ⟨q35, e34, h⟩ := xb h
                  refine xk_v (xrunV (As := [.ref (adK 6)]) (rest := []) ⟨hx, hb, hml, hown, hts⟩ (c_WO_expect l hq D lay cA adK adV s0 S32 6 q35 e34) (cwV 1 hts (xT_V wd_493 wd_494 wd_495 wd_2 wd_496) rfl rfl rfl (by decide +kernel) ⟨Nat.le_of_ble_eq_true rfl, Nat.le_of_ble_eq_true rfl⟩) (xpV E hP hS (by decide) (xc_2 _ _ _ _) rfl) rfl rfl hl.1 rfl (lv_room (Nat.le_of_ble_eq_true rfl)) d_RD_readPartition_150 ⟨Nat.le_of_ble_eq_true rfl, Nat.le_of_ble_eq_true rfl⟩) hS hnh hlk (fun S9 e9 => by subst e9; exact (Option.some.inj h).symm) (fun v36 S37 w38 H locs hP hS => ?_)
                  subst w38
                  dsimp only [xT2] at h
                  refine lv_goto (tgt := 161) hx hb d_RD_readPartition_153 (by decide) ?_
                  refine lv_iinc (v := a2 + (1 : Int32)) (lv' := [(2, .int (a2 + (1 : Int32))), (3, .int q28), (0, .ref (lay 179)), (1, .ref (lay a1))]) hx hb d_RD_readPartition_161 hl (k := 3) rfl (by rfl) (by decide) rfl (fun ls hl => ?_)
                  refine lv_goto (tgt := 47) hx hb d_RD_readPartition_164 (by decide) ?_
                  exact ih S37 a1 (a2 + (1 : Int32)) _ h H locs ls hP hS (lv_sub hl [2, 3, 0] rfl)
                · have h := xif_f c_55 h
                  refine lv_iload_n hx hb d_RD_readPartition_132 rfl (lv_at hl 0 rfl) ?_
                  refine lv_iconst (v := (4 : Int32)) hx hb d_RD_readPartition_133 (by decide) ?_
                  refine lv_icmp_ne (tgt := 156) hx hb d_RD_readPartition_134 (by decide) (fun c_54 => ?_) (fun c_54 => ?_)
                  · have h := xif_f c_54 h
                    refine lv_aload_n hx hb d_RD_readPartition_156 rfl (lv_at hl 1 rfl) ?_
                    refine lv_aload_n hx hb d_RD_readPartition_157 rfl (lv_at hl 2 rfl) ?_
                    obtain ⟨q40, e39, h⟩ := xb h
                    refine xk_v (xrunV (As := [.ref (lay a1)]) (rest := []) ⟨hx, hb, hml, hown, hts⟩ (c_RD_readErrors l hq D lay cA adK adV s0 S a1 q40 e39) (cwV 1 hts (xT_V wd_599 wd_601 wp_13 wd_6 wd_602) rfl rfl rfl (by decide +kernel) ⟨Nat.le_of_ble_eq_true rfl, Nat.le_of_ble_eq_true rfl⟩) (xpV E hP hS (by decide) (xc_179 _ _ _ _) rfl) rfl rfl hl.1 rfl (lv_room (Nat.le_of_ble_eq_true rfl)) d_RD_readPartition_158 ⟨Nat.le_of_ble_eq_true rfl, Nat.le_of_ble_eq_true rfl⟩) hS hnh hlk (fun S9 e9 => by subst e9; exact (Option.some.inj h).symm) (fun v41 S42 w43 H locs hP hS => ?_)
                    subst w43
                    dsimp only [xT2] at h
                    refine lv_iinc (v := a2 + (1 : Int32)) (lv' := [(2, .int (a2 + (1 : Int32))), (3, .int q28), (0, .ref (lay 179)), (1, .ref (lay a1))]) hx hb d_RD_readPartition_161 hl (k := 3) rfl (by rfl) (by decide) rfl (fun ls hl => ?_)
                    refine lv_goto (tgt := 47) hx hb d_RD_readPartition_164 (by decide) ?_
                    exact ih S42 a1 (a2 + (1 : Int32)) _ h H locs ls hP hS (lv_sub hl [2, 3, 0] rfl)
                  · have h := xif_t c_54 h
                    refine lv_aload_n hx hb d_RD_readPartition_137 rfl (lv_at hl 1 rfl) ?_
                    refine lv_aload_n hx hb d_RD_readPartition_138 rfl (lv_at hl 2 rfl) ?_
                    refine lv_iload_n hx hb d_RD_readPartition_139 rfl (lv_at hl 0 rfl) ?_
                    obtain ⟨q45, e44, h⟩ := xb h
                    refine xk_r (xrunV (As := [.ref (lay a1), .int q28]) (rest := []) ⟨hx, hb, hml, hown, hts⟩ (c_RD_nameThing l hq D lay cA adK adV s0 S a1 q28 q45 e44) (cwV 2 hts (xT_V wd_543 wd_545 wp_9 wd_6 wd_546) rfl rfl rfl (by decide +kernel) ⟨Nat.le_of_ble_eq_true rfl, Nat.le_of_ble_eq_true rfl⟩) (xpV E hP hS (by decide) (xc_179 _ _ _ _) rfl) rfl rfl hl.1 rfl (lv_room (Nat.le_of_ble_eq_true rfl)) d_RD_readPartition_140 ⟨Nat.le_of_ble_eq_true rfl, Nat.le_of_ble_eq_true rfl⟩) hS hnh hlk (fun S9 e9 => by subst e9; exact (Option.some.inj h).symm) (fun v46 S47 w48 H locs hP hS => ?_)
                    subst w48
                    dsimp only [xT2] at h
                    refine lv_pop hx hb d_RD_readPartition_143 rfl ?_
                    refine lv_aload_n hx hb d_RD_readPartition_144 rfl (lv_at hl 1 rfl) ?_
                    refine va_get (v := .ref (lay 2)) (C := R_RD) (T := F_RD) (N := 4) hx hb hts i_RD hown hK hP 179 (xw_at (by decide) (xc_179 _ _ _ _)) rfl 0 (by decide) (hts _ wd_169) (fun _ h9 => h9) rfl d_RD_readPartition_145 ?_
                    refine va_ldcS hx hb hown (E.lit (List.mem_of_getElem? (i := 7) rfl : ("ConfigTexts$Reader", 80, ";", 6) ∈ xlits)) d_RD_readPartition_148 ?_
                    obtain ⟨q50, e49, h⟩ := xb h
                    refine xk_v (xrunV (As := [.ref (adK 6)]) (rest := []) ⟨hx, hb, hml, hown, hts⟩ (c_WO_expect l hq D lay cA adK adV s0 S47 6 q50 e49) (cwV 1 hts (xT_V wd_493 wd_494 wd_495 wd_2 wd_496) rfl rfl rfl (by decide +kernel) ⟨Nat.le_of_ble_eq_true rfl, Nat.le_of_ble_eq_true rfl⟩) (xpV E hP hS (by decide) (xc_2 _ _ _ _) rfl) rfl rfl hl.1 rfl (lv_room (Nat.le_of_ble_eq_true rfl)) d_RD_readPartition_150 ⟨Nat.le_of_ble_eq_true rfl, Nat.le_of_ble_eq_true rfl⟩) hS hnh hlk (fun S9 e9 => by subst e9; exact (Option.some.inj h).symm) (fun v51 S52 w53 H locs hP hS => ?_)
                    subst w53
                    dsimp only [xT2] at h
                    refine lv_goto (tgt := 161) hx hb d_RD_readPartition_153 (by decide) ?_
                    refine lv_iinc (v := a2 + (1 : Int32)) (lv' := [(2, .int (a2 + (1 : Int32))), (3, .int q28), (0, .ref (lay 179)), (1, .ref (lay a1))]) hx hb d_RD_readPartition_161 hl (k := 3) rfl (by rfl) (by decide) rfl (fun ls hl => ?_)
                    refine lv_goto (tgt := 47) hx hb d_RD_readPartition_164 (by decide) ?_
                    exact ih S52 a1 (a2 + (1 : Int32)) _ h H locs ls hP hS (lv_sub hl [2, 3, 0] rfl)
              · have h := xif_t c_61 h
                refine lv_aload_n hx hb d_RD_readPartition_119 rfl (lv_at hl 1 rfl) ?_
                refine lv_aload_n hx hb d_RD_readPartition_120 rfl (lv_at hl 2 rfl) ?_
                obtain ⟨q57, e56, h⟩ := xb h
                refine xk_v (xrunV (As := [.ref (lay a1)]) (rest := []) ⟨hx, hb, hml, hown, hts⟩ (c_RD_readPort l hq D lay cA adK adV s0 S a1 q57 e56) (cwV 1 hts (xT_V wd_589 wd_591 wp_12 wd_6 wd_592) rfl rfl rfl (by decide +kernel) ⟨Nat.le_of_ble_eq_true rfl, Nat.le_of_ble_eq_true rfl⟩) (xpV E hP hS (by decide) (xc_179 _ _ _ _) rfl) rfl rfl hl.1 rfl (lv_room (Nat.le_of_ble_eq_true rfl)) d_RD_readPartition_121 ⟨Nat.le_of_ble_eq_true rfl, Nat.le_of_ble_eq_true rfl⟩) hS hnh hlk (fun S9 e9 => by subst e9; exact (Option.some.inj h).symm) (fun v58 S59 w60 H locs hP hS => ?_)
                subst w60
                dsimp only [xT2] at h
                refine lv_goto (tgt := 161) hx hb d_RD_readPartition_124 (by decide) ?_
                refine lv_iinc (v := a2 + (1 : Int32)) (lv' := [(2, .int (a2 + (1 : Int32))), (3, .int q28), (0, .ref (lay 179)), (1, .ref (lay a1))]) hx hb d_RD_readPartition_161 hl (k := 3) rfl (by rfl) (by decide) rfl (fun ls hl => ?_)
                refine lv_goto (tgt := 47) hx hb d_RD_readPartition_164 (by decide) ?_
                exact ih S59 a1 (a2 + (1 : Int32)) _ h H locs ls hP hS (lv_sub hl [2, 3, 0] rfl)
            · have h := xif_t c_67 h
              refine lv_aload_n hx hb d_RD_readPartition_106 rfl (lv_at hl 1 rfl) ?_
              refine lv_aload_n hx hb d_RD_readPartition_107 rfl (lv_at hl 2 rfl) ?_
              obtain ⟨q63, e62, h⟩ := xb h
              refine xk_v (xrunV (As := [.ref (lay a1)]) (rest := []) ⟨hx, hb, hml, hown, hts⟩ (c_RD_readBuffer l hq D lay cA adK adV s0 S a1 q63 e62) (cwV 1 hts (xT_V wd_585 wd_587 wp_11 wd_6 wd_588) rfl rfl rfl (by decide +kernel) ⟨Nat.le_of_ble_eq_true rfl, Nat.le_of_ble_eq_true rfl⟩) (xpV E hP hS (by decide) (xc_179 _ _ _ _) rfl) rfl rfl hl.1 rfl (lv_room (Nat.le_of_ble_eq_true rfl)) d_RD_readPartition_108 ⟨Nat.le_of_ble_eq_true rfl, Nat.le_of_ble_eq_true rfl⟩) hS hnh hlk (fun S9 e9 => by subst e9; exact (Option.some.inj h).symm) (fun v64 S65 w66 H locs hP hS => ?_)
              subst w66
              dsimp only [xT2] at h
              refine lv_goto (tgt := 161) hx hb d_RD_readPartition_111 (by decide) ?_
              refine lv_iinc (v := a2 + (1 : Int32)) (lv' := [(2, .int (a2 + (1 : Int32))), (3, .int q28), (0, .ref (lay 179)), (1, .ref (lay a1))]) hx hb d_RD_readPartition_161 hl (k := 3) rfl (by rfl) (by decide) rfl (fun ls hl => ?_)
              refine lv_goto (tgt := 47) hx hb d_RD_readPartition_164 (by decide) ?_
              exact ih S65 a1 (a2 + (1 : Int32)) _ h H locs ls hP hS (lv_sub hl [2, 3, 0] rfl)
          · have h := xif_t c_73 h
            refine lv_aload_n hx hb d_RD_readPartition_93 rfl (lv_at hl 1 rfl) ?_
            refine lv_aload_n hx hb d_RD_readPartition_94 rfl (lv_at hl 2 rfl) ?_
            obtain ⟨q69, e68, h⟩ := xb h
            refine xk_v (xrunV (As := [.ref (lay a1)]) (rest := []) ⟨hx, hb, hml, hown, hts⟩ (c_RD_readSemaphore l hq D lay cA adK adV s0 S a1 q69 e68) (cwV 1 hts (xT_V wd_579 wd_581 wp_10 wd_6 wd_582) rfl rfl rfl (by decide +kernel) ⟨Nat.le_of_ble_eq_true rfl, Nat.le_of_ble_eq_true rfl⟩) (xpV E hP hS (by decide) (xc_179 _ _ _ _) rfl) rfl rfl hl.1 rfl (lv_room (Nat.le_of_ble_eq_true rfl)) d_RD_readPartition_95 ⟨Nat.le_of_ble_eq_true rfl, Nat.le_of_ble_eq_true rfl⟩) hS hnh hlk (fun S9 e9 => by subst e9; exact (Option.some.inj h).symm) (fun v70 S71 w72 H locs hP hS => ?_)
            subst w72
            dsimp only [xT2] at h
            refine lv_goto (tgt := 161) hx hb d_RD_readPartition_98 (by decide) ?_
            refine lv_iinc (v := a2 + (1 : Int32)) (lv' := [(2, .int (a2 + (1 : Int32))), (3, .int q28), (0, .ref (lay 179)), (1, .ref (lay a1))]) hx hb d_RD_readPartition_161 hl (k := 3) rfl (by rfl) (by decide) rfl (fun ls hl => ?_)
            refine lv_goto (tgt := 47) hx hb d_RD_readPartition_164 (by decide) ?_
            exact ih S71 a1 (a2 + (1 : Int32)) _ h H locs ls hP hS (lv_sub hl [2, 3, 0] rfl)
        · have h := xif_t c_79 h
          refine lv_aload_n hx hb d_RD_readPartition_80 rfl (lv_at hl 1 rfl) ?_
          refine lv_aload_n hx hb d_RD_readPartition_81 rfl (lv_at hl 2 rfl) ?_
          obtain ⟨q75, e74, h⟩ := xb h
          refine xk_v (xrunV (As := [.ref (lay a1)]) (rest := []) ⟨hx, hb, hml, hown, hts⟩ (c_RD_readProcess l hq D lay cA adK adV s0 S a1 q75 e74) (cwV 1 hts (xT_V wd_539 wd_541 wp_8 wd_6 wd_542) rfl rfl rfl (by decide +kernel) ⟨Nat.le_of_ble_eq_true rfl, Nat.le_of_ble_eq_true rfl⟩) (xpV E hP hS (by decide) (xc_179 _ _ _ _) rfl) rfl rfl hl.1 rfl (lv_room (Nat.le_of_ble_eq_true rfl)) d_RD_readPartition_82 ⟨Nat.le_of_ble_eq_true rfl, Nat.le_of_ble_eq_true rfl⟩) hS hnh hlk (fun S9 e9 => by subst e9; exact (Option.some.inj h).symm) (fun v76 S77 w78 H locs hP hS => ?_)
          subst w78
          dsimp only [xT2] at h
          refine lv_goto (tgt := 161) hx hb d_RD_readPartition_85 (by decide) ?_
          refine lv_iinc (v := a2 + (1 : Int32)) (lv' := [(2, .int (a2 + (1 : Int32))), (3, .int q28), (0, .ref (lay 179)), (1, .ref (lay a1))]) hx hb d_RD_readPartition_161 hl (k := 3) rfl (by rfl) (by decide) rfl (fun ls hl => ?_)
          refine lv_goto (tgt := 47) hx hb d_RD_readPartition_164 (by decide) ?_
          exact ih S77 a1 (a2 + (1 : Int32)) _ h H locs ls hP hS (lv_sub hl [2, 3, 0] rfl)
def f_RD_readPartition (S : XS)  : Option ((Unit × XS) ⊕ XS) :=
  (f_RD_openPartition S).bind (xT2 fun _ S4 => (f_CF_partitionAt S4 ((xgi S4 3 1) - (1 : Int32))).bind fun q7 => match q7 with | none => (some (.inl ((), S4))) | some i8 => ((f_RD_readSetting S4 5 (256 : Int32) (4096 : Int32) (256 : Int32)).bind (xT2 fun v11 S12 => if xP i8 then (f_RD_readPartition_47 4096 (xpi S12 i8 1 v11) i8 (0 : Int32)) else none)))
set_option maxHeartbeats 4000000 in
set_option maxRecDepth 100000 in
theorem k_RD_readPartition (l : Launch) (hq : l.stackTraces = false) {p : Program} {e : Env} {s : State} {m : MethodId} {args : Array Value} {below : List Frame} {meth : Method} {c : Code} {D : va_G} {lay : Nat → Nat} {cA : Nat → ClassId} {adK adV : Nat → Nat} {s0 : State} (C : xB p s m args meth c R_RD b_RD_readPartition ((Option.none : Option Jvm.ClassFile.FieldType)) 4) (E : xE D lay cA adK adV s0 s s.heap) : ∀ (S : XS)  (r : (Unit × XS) ⊕ XS) (_ : f_RD_readPartition S = some r) (H : Heap) (locs : List Loc) (ls : Array Slot), va_P D xcl (xw lay cA S) H → va_S (xI lay) s.heap H locs → lv_has ls 4 [(0, .ref (lay 179))] → W p l e rm_RD_readPartition s m args below meth c H locs 0 0 (XF below (xrv D lay cA r) (xrt D lay cA r) s 0 0 1 6 (xI lay)) (F0 m 0 ls []) := by
  obtain ⟨hx, hb, hr, hml, hown, hts, hlk, hnh⟩ := id C
  have hK := E.K
  intro S r h H locs ls hP hS hl
  unfold f_RD_readPartition at h
  refine lv_aload_n hx hb d_RD_readPartition_0 rfl (lv_at hl 0 rfl) ?_
  obtain ⟨q2, e1, h⟩ := xb h
  refine xk_v (xrunV (As := []) (rest := []) ⟨hx, hb, hml, hown, hts⟩ (c_RD_openPartition l hq D lay cA adK adV s0 S q2 e1) (cwV 0 hts (xT_V wd_488 wd_490 wp_6 wd_6 wd_491) rfl rfl rfl (by decide +kernel) ⟨Nat.le_of_ble_eq_true rfl, Nat.le_of_ble_eq_true rfl⟩) (xpV E hP hS (by decide) (xc_179 _ _ _ _) rfl) rfl rfl hl.1 rfl (lv_room (Nat.le_of_ble_eq_true rfl)) d_RD_readPartition_1 ⟨Nat.le_of_ble_eq_true rfl, Nat.le_of_ble_eq_true rfl⟩) hS hnh hlk (fun S9 e9 => by subst e9; exact (Option.some.inj h).symm) (fun v3 S4 w5 H locs hP hS => ?_)
  subst w5
  dsimp only [xT2] at h
  refine lv_aload_n hx hb d_RD_readPartition_4 rfl (lv_at hl 0 rfl) ?_
  refine va_get (v := .ref (lay 3)) (C := R_RD) (T := F_RD) (N := 4) hx hb hts i_RD hown hK hP 179 (xw_at (by decide) (xc_179 _ _ _ _)) rfl 1 (by decide) (hts _ wd_170) (fun _ h9 => h9) rfl d_RD_readPartition_5 ?_
  refine lv_aload_n hx hb d_RD_readPartition_8 rfl (lv_at hl 0 rfl) ?_
  refine va_get (v := .ref (lay 3)) (C := R_RD) (T := F_RD) (N := 4) hx hb hts i_RD hown hK hP 179 (xw_at (by decide) (xc_179 _ _ _ _)) rfl 1 (by decide) (hts _ wd_170) (fun _ h9 => h9) rfl d_RD_readPartition_9 ?_
  refine va_getN (v := .int (xgi S4 3 1)) (C := R_CF) (T := F_CF) (N := 7) hx hb hts i_CF hown hK hP 3 (xw_at (by decide) (xc_3 _ _ _ _)) rfl 1 (by decide) (E.nest wn_134) (fun _ h9 => h9) rfl d_RD_readPartition_12 ?_
  refine lv_iconst (v := (1 : Int32)) hx hb d_RD_readPartition_15 (by decide) ?_
  refine lv_isub hx hb d_RD_readPartition_16 ?_
  obtain ⟨q7, e6, h⟩ := xb h
  refine xc_o (va_runV (As := [.int ((xgi S4 3 1) - (1 : Int32))]) (rest := []) ⟨hx, hb, hml, hown, hts⟩ (c_CF_partitionAt l D lay cA adK adV s0 S4 ((xgi S4 3 1) - (1 : Int32)) q7 e6) (cwV 1 hts (xT_V wd_524 wd_226 wd_227 wd_3 wd_228) rfl rfl rfl (by decide +kernel) ⟨Nat.le_of_ble_eq_true rfl, Nat.le_of_ble_eq_true rfl⟩) (xpV E hP hS (by decide) (xc_3 _ _ _ _) rfl) rfl rfl hl.1 rfl (lv_room (Nat.le_of_ble_eq_true rfl)) d_RD_readPartition_17 ⟨Nat.le_of_ble_eq_true rfl, Nat.le_of_ble_eq_true rfl⟩) hS (fun H locs hP hS => ?_)
  cases q7 with
  | none =>
    dsimp only at h
    refine lv_astore_nN (lv' := [(1, .null), (0, .ref (lay 179))]) hx hb d_RD_readPartition_20 rfl hl (by decide) rfl (fun ls hl => ?_)
    refine lv_aload_nN hx hb d_RD_readPartition_21 rfl (lv_at hl 0 rfl) ?_
    refine lv_ifnonnullN hx hb d_RD_readPartition_22 ?_
    have h9 := Option.some.inj h
    subst h9
    exact xret (W.vret hx hb hr (fun t ht hW => ⟨_, rfl, ⟨⟨(), S4, rfl, rfl, by show va_P D xcl _ t.heap; rw [ht]; exact hP⟩, hS.F ht⟩⟩) hS.2.2 d_RD_readPartition_25)
  | some i8 =>
    dsimp only at h
    refine lv_astore_n (lv' := [(1, .ref (lay i8)), (0, .ref (lay 179))]) hx hb d_RD_readPartition_20 rfl hl (by decide) rfl (fun ls hl => ?_)
    refine lv_aload_n hx hb d_RD_readPartition_21 rfl (lv_at hl 0 rfl) ?_
    refine lv_ifnonnull (tgt := 26) hx hb d_RD_readPartition_22 (by decide) ?_
    refine lv_aload_n hx hb d_RD_readPartition_26 rfl (lv_at hl 0 rfl) ?_
    refine lv_aload_n hx hb d_RD_readPartition_27 rfl (lv_at hl 1 rfl) ?_
    refine va_ldcS hx hb hown (E.lit (List.mem_of_getElem? (i := 6) rfl : ("ConfigTexts$Reader", 39, "memory", 5) ∈ xlits)) d_RD_readPartition_28 ?_
    refine lv_sipush (v := (256 : Int32)) hx hb d_RD_readPartition_30 (by decide) ?_
    refine lv_sipush (v := (4096 : Int32)) hx hb d_RD_readPartition_33 (by decide) ?_
    refine lv_sipush (v := (256 : Int32)) hx hb d_RD_readPartition_36 (by decide) ?_
    obtain ⟨q10, e9, h⟩ := xb h
    refine xk_i (xrunV (As := [.ref (adK 5), .int (256 : Int32), .int (4096 : Int32), .int (256 : Int32)]) (rest := [.ref (lay i8)]) ⟨hx, hb, hml, hown, hts⟩ (c_RD_readSetting l hq D lay cA adK adV s0 S4 5 (256 : Int32) (4096 : Int32) (256 : Int32) q10 e9) (cwV 4 hts (xT_V wd_526 wd_528 wp_7 wd_6 wd_529) rfl rfl rfl (by decide +kernel) ⟨Nat.le_of_ble_eq_true rfl, Nat.le_of_ble_eq_true rfl⟩) (xpV E hP hS (by decide) (xc_179 _ _ _ _) rfl) rfl rfl hl.1 rfl (lv_room (Nat.le_of_ble_eq_true rfl)) d_RD_readPartition_39 ⟨Nat.le_of_ble_eq_true rfl, Nat.le_of_ble_eq_true rfl⟩) hS hnh hlk (fun S9 e9 => by subst e9; exact (Option.some.inj h).symm) (fun v11 S12 w13 H locs hP hS => ?_)
    subst w13
    dsimp only [xT2] at h
    obtain ⟨hk14, h⟩ := xg h
    refine xput_PA_1N hx hb hts hown E hP hS hk14 (E.nest wn_112) d_RD_readPartition_42 (fun H locs hP hS => ?_)
    refine lv_iconst (v := (0 : Int32)) hx hb d_RD_readPartition_45 (by decide) ?_
    refine lv_istore_n (lv' := [(2, .int (0 : Int32)), (1, .ref (lay i8)), (0, .ref (lay 179))]) hx hb d_RD_readPartition_46 rfl hl (by decide) rfl (fun ls hl => ?_)
    exact k_RD_readPartition_47 l hq C E 4096 (xpi S12 i8 1 v11) i8 (0 : Int32) _ h H locs ls hP hS (lv_sub hl [2, 1, 0] rfl)
theorem c_RD_readPartition (l : Launch) (hq : l.stackTraces = false) (D : va_G) (lay : Nat → Nat) (cA : Nat → ClassId) (adK adV : Nat → Nat) (s0 : State) (S : XS)  (r : (Unit × XS) ⊕ XS) (h : f_RD_readPartition S  = some r) : MetX l y_RD_readPartition (.code y_RD_readPartition b_RD_readPartition 4 ((Option.none : Option Jvm.ClassFile.FieldType)) :: xT) rm_RD_readPartition (xPc D lay cA adK adV s0 S [.ref (lay 179)]) (xrv D lay cA r) (xrt D lay cA r) 0 0 1 6 (xI lay) := by
  refine MetX.ofW (cc := b_RD_readPartition) (maxL := 4) (ret := (Option.none : Option Jvm.ClassFile.FieldType)) (by decide +kernel) rfl ?_
  intro p e s m args below meth c s₁ B hml hv
  obtain ⟨rfl, hP, E⟩ := hv
  have C := xB_of B hml
  have hl := lv_entry ([.ref (lay 179)]) (n := 4) (Nat.le_of_ble_eq_true rfl)
  rw [lg_entry_eq]
  generalize (lg_sl ([.ref (lay 179)]) ++ List.replicate (4 - (lg_sl ([.ref (lay 179)])).length) Slot.unset).toArray = ls at hl ⊢
  exact k_RD_readPartition l hq C E S  r h s.heap [] ls hP va_S.rf hl
/-! ConfigTexts$Reader.readPartitionName()I -/
def rm_RD_readPartitionName : Room := { frames := 8, cells := 1, slots := 6, locals := 141 }
theorem d_RD_readPartitionName_0 : decode b_RD_readPartitionName 0 = .ok (.aload_n 0, 1) := by decide +kernel
theorem d_RD_readPartitionName_1 : decode b_RD_readPartitionName 1 = .ok (.getfield 15, 3) := by decide +kernel
theorem d_RD_readPartitionName_4 : decode b_RD_readPartitionName 4 = .ok (.aload_n 0, 1) := by decide +kernel
theorem d_RD_readPartitionName_5 : decode b_RD_readPartitionName 5 = .ok (.getfield 9, 3) := by decide +kernel
theorem d_RD_readPartitionName_8 : decode b_RD_readPartitionName 8 = .ok (.invokevirtual 102, 3) := by decide +kernel
theorem d_RD_readPartitionName_11 : decode b_RD_readPartitionName 11 = .ok (.invokevirtual 106, 3) := by decide +kernel
theorem d_RD_readPartitionName_14 : decode b_RD_readPartitionName 14 = .ok (.istore_n 1, 1) := by decide +kernel
theorem d_RD_readPartitionName_15 : decode b_RD_readPartitionName 15 = .ok (.iload_n 1, 1) := by decide +kernel
theorem d_RD_readPartitionName_16 : decode b_RD_readPartitionName 16 = .ok (.iconst (-1), 1) := by decide +kernel
theorem d_RD_readPartitionName_17 : decode b_RD_readPartitionName 17 = .ok (.if_icmp .ne 12, 3) := by decide +kernel
theorem d_RD_readPartitionName_20 : decode b_RD_readPartitionName 20 = .ok (.aload_n 0, 1) := by decide +kernel
theorem d_RD_readPartitionName_21 : decode b_RD_readPartitionName 21 = .ok (.getfield 9, 3) := by decide +kernel
theorem d_RD_readPartitionName_24 : decode b_RD_readPartitionName 24 = .ok (.bipush 6, 2) := by decide +kernel
theorem d_RD_readPartitionName_26 : decode b_RD_readPartitionName 26 = .ok (.invokevirtual 98, 3) := by decide +kernel
theorem d_RD_readPartitionName_29 : decode b_RD_readPartitionName 29 = .ok (.aload_n 0, 1) := by decide +kernel
theorem d_RD_readPartitionName_30 : decode b_RD_readPartitionName 30 = .ok (.getfield 9, 3) := by decide +kernel
theorem d_RD_readPartitionName_33 : decode b_RD_readPartitionName 33 = .ok (.invokevirtual 114, 3) := by decide +kernel
theorem d_RD_readPartitionName_36 : decode b_RD_readPartitionName 36 = .ok (.iload_n 1, 1) := by decide +kernel
theorem d_RD_readPartitionName_37 : decode b_RD_readPartitionName 37 = .ok (.ireturn, 1) := by decide +kernel
def f_RD_readPartitionName (S : XS)  : Option ((Int32 × XS) ⊕ XS) :=
  (f_WO_expectName S).bind (xT2 fun v3 S4 => (f_CF_findPartition S4 v3).bind fun q7 => if q7 = (-1 : Int32) then ((f_WO_fail S4 (6 : Int32)).bind (xT2 fun _ S16 => (f_WO_next S16).bind (xT2 fun _ S21 => some (.inl (q7, S21))))) else ((f_WO_next S4).bind (xT2 fun _ S11 => some (.inl (q7, S11)))))
set_option maxHeartbeats 4000000 in
set_option maxRecDepth 100000 in
theorem k_RD_readPartitionName (l : Launch) (hq : l.stackTraces = false) {p : Program} {e : Env} {s : State} {m : MethodId} {args : Array Value} {below : List Frame} {meth : Method} {c : Code} {D : va_G} {lay : Nat → Nat} {cA : Nat → ClassId} {adK adV : Nat → Nat} {s0 : State} (C : xB p s m args meth c R_RD b_RD_readPartitionName ((Option.some Jvm.ClassFile.FieldType.int)) 2) (E : xE D lay cA adK adV s0 s s.heap) : ∀ (S : XS)  (r : (Int32 × XS) ⊕ XS) (_ : f_RD_readPartitionName S = some r) (H : Heap) (locs : List Loc) (ls : Array Slot), va_P D xcl (xw lay cA S) H → va_S (xI lay) s.heap H locs → lv_has ls 2 [(0, .ref (lay 179))] → W p l e rm_RD_readPartitionName s m args below meth c H locs 0 0 (XF below (xri D lay cA r) (xrt D lay cA r) s 0 0 1 6 (xI lay)) (F0 m 0 ls []) := by
  obtain ⟨hx, hb, hr, hml, hown, hts, hlk, hnh⟩ := id C
  have hK := E.K
  intro S r h H locs ls hP hS hl
  unfold f_RD_readPartitionName at h
  refine lv_aload_n hx hb d_RD_readPartitionName_0 rfl (lv_at hl 0 rfl) ?_
  refine va_get (v := .ref (lay 3)) (C := R_RD) (T := F_RD) (N := 4) hx hb hts i_RD hown hK hP 179 (xw_at (by decide) (xc_179 _ _ _ _)) rfl 1 (by decide) (hts _ wd_170) (fun _ h9 => h9) rfl d_RD_readPartitionName_1 ?_
  refine lv_aload_n hx hb d_RD_readPartitionName_4 rfl (lv_at hl 0 rfl) ?_
  refine va_get (v := .ref (lay 2)) (C := R_RD) (T := F_RD) (N := 4) hx hb hts i_RD hown hK hP 179 (xw_at (by decide) (xc_179 _ _ _ _)) rfl 0 (by decide) (hts _ wd_169) (fun _ h9 => h9) rfl d_RD_readPartitionName_5 ?_
  obtain ⟨q2, e1, h⟩ := xb h
  refine xk_l (xrunV (As := []) (rest := [.ref (lay 3)]) ⟨hx, hb, hml, hown, hts⟩ (c_WO_expectName l hq D lay cA adK adV s0 S q2 e1) (cwV 0 hts (xT_V wd_503 wd_504 wd_505 wd_2 wd_506) rfl rfl rfl (by decide +kernel) ⟨Nat.le_of_ble_eq_true rfl, Nat.le_of_ble_eq_true rfl⟩) (xpV E hP hS (by decide) (xc_2 _ _ _ _) rfl) rfl rfl hl.1 rfl (lv_room (Nat.le_of_ble_eq_true rfl)) d_RD_readPartitionName_8 ⟨Nat.le_of_ble_eq_true rfl, Nat.le_of_ble_eq_true rfl⟩) hS hnh hlk (fun S9 e9 => by subst e9; exact (Option.some.inj h).symm) (fun v3 S4 w5 H locs hP hS => ?_)
  subst w5
  dsimp only [xT2] at h
  obtain ⟨q7, e6, h⟩ := xb h
  refine xc_i (va_runV (As := [.long v3]) (rest := []) ⟨hx, hb, hml, hown, hts⟩ (c_CF_findPartition l D lay cA adK adV s0 S4 v3 q7 e6) (cwV 1 hts (xT_V wd_508 wd_509 wd_510 wd_3 wd_511) rfl rfl rfl (by decide +kernel) ⟨Nat.le_of_ble_eq_true rfl, Nat.le_of_ble_eq_true rfl⟩) (xpV E hP hS (by decide) (xc_3 _ _ _ _) rfl) rfl rfl hl.1 rfl (lv_room (Nat.le_of_ble_eq_true rfl)) d_RD_readPartitionName_11 ⟨Nat.le_of_ble_eq_true rfl, Nat.le_of_ble_eq_true rfl⟩) hS (fun H locs hP hS => ?_)
  refine lv_istore_n (lv' := [(1, .int q7), (0, .ref (lay 179))]) hx hb d_RD_readPartitionName_14 rfl hl (by decide) rfl (fun ls hl => ?_)
  refine lv_iload_n hx hb d_RD_readPartitionName_15 rfl (lv_at hl 0 rfl) ?_
  refine lv_iconst (v := (-1 : Int32)) hx hb d_RD_readPartitionName_16 (by decide) ?_
  refine lv_icmp_ne (tgt := 29) hx hb d_RD_readPartitionName_17 (by decide) (fun c_23 => ?_) (fun c_23 => ?_)
  · have h := xif_f c_23 h
    refine lv_aload_n hx hb d_RD_readPartitionName_29 rfl (lv_at hl 1 rfl) ?_
    refine va_get (v := .ref (lay 2)) (C := R_RD) (T := F_RD) (N := 4) hx hb hts i_RD hown hK hP 179 (xw_at (by decide) (xc_179 _ _ _ _)) rfl 0 (by decide) (hts _ wd_169) (fun _ h9 => h9) rfl d_RD_readPartitionName_30 ?_
    obtain ⟨q9, e8, h⟩ := xb h
    refine xk_v (xrunV (As := []) (rest := []) ⟨hx, hb, hml, hown, hts⟩ (c_WO_next l hq D lay cA adK adV s0 S4 q9 e8) (cwV 0 hts (xT_V wd_522 wd_285 wd_286 wd_2 wd_287) rfl rfl rfl (by decide +kernel) ⟨Nat.le_of_ble_eq_true rfl, Nat.le_of_ble_eq_true rfl⟩) (xpV E hP hS (by decide) (xc_2 _ _ _ _) rfl) rfl rfl hl.1 rfl (lv_room (Nat.le_of_ble_eq_true rfl)) d_RD_readPartitionName_33 ⟨Nat.le_of_ble_eq_true rfl, Nat.le_of_ble_eq_true rfl⟩) hS hnh hlk (fun S9 e9 => by subst e9; exact (Option.some.inj h).symm) (fun v10 S11 w12 H locs hP hS => ?_)
    subst w12
    dsimp only [xT2] at h
    refine lv_iload_n hx hb d_RD_readPartitionName_36 rfl (lv_at hl 0 rfl) ?_
    have h9 := Option.some.inj h
    subst h9
    exact xret (W.iret (v := q7) hx hb hr (fun t ht hW => ⟨_, rfl, ⟨⟨q7, S11, rfl, rfl, by show va_P D xcl _ t.heap; rw [ht]; exact hP⟩, hS.F ht⟩⟩) hS.2.2 d_RD_readPartitionName_37)
  · have h := xif_t c_23 h
    refine lv_aload_n hx hb d_RD_readPartitionName_20 rfl (lv_at hl 1 rfl) ?_
    refine va_get (v := .ref (lay 2)) (C := R_RD) (T := F_RD) (N := 4) hx hb hts i_RD hown hK hP 179 (xw_at (by decide) (xc_179 _ _ _ _)) rfl 0 (by decide) (hts _ wd_169) (fun _ h9 => h9) rfl d_RD_readPartitionName_21 ?_
    refine lv_bipush (v := (6 : Int32)) hx hb d_RD_readPartitionName_24 (by decide) ?_
    obtain ⟨q14, e13, h⟩ := xb h
    refine xk_v (xrunV (As := [.int (6 : Int32)]) (rest := []) ⟨hx, hb, hml, hown, hts⟩ (c_WO_fail l hq D lay cA adK adV s0 S4 (6 : Int32) q14 e13) (cwV 1 hts (xT_V wd_502 wd_386 wd_387 wd_2 wd_388) rfl rfl rfl (by decide +kernel) ⟨Nat.le_of_ble_eq_true rfl, Nat.le_of_ble_eq_true rfl⟩) (xpV E hP hS (by decide) (xc_2 _ _ _ _) rfl) rfl rfl hl.1 rfl (lv_room (Nat.le_of_ble_eq_true rfl)) d_RD_readPartitionName_26 ⟨Nat.le_of_ble_eq_true rfl, Nat.le_of_ble_eq_true rfl⟩) hS hnh hlk (fun S9 e9 => by subst e9; exact (Option.some.inj h).symm) (fun v15 S16 w17 H locs hP hS => ?_)
    subst w17
    dsimp only [xT2] at h
    refine lv_aload_n hx hb d_RD_readPartitionName_29 rfl (lv_at hl 1 rfl) ?_
    refine va_get (v := .ref (lay 2)) (C := R_RD) (T := F_RD) (N := 4) hx hb hts i_RD hown hK hP 179 (xw_at (by decide) (xc_179 _ _ _ _)) rfl 0 (by decide) (hts _ wd_169) (fun _ h9 => h9) rfl d_RD_readPartitionName_30 ?_
    obtain ⟨q19, e18, h⟩ := xb h
    refine xk_v (xrunV (As := []) (rest := []) ⟨hx, hb, hml, hown, hts⟩ (c_WO_next l hq D lay cA adK adV s0 S16 q19 e18) (cwV 0 hts (xT_V wd_522 wd_285 wd_286 wd_2 wd_287) rfl rfl rfl (by decide +kernel) ⟨Nat.le_of_ble_eq_true rfl, Nat.le_of_ble_eq_true rfl⟩) (xpV E hP hS (by decide) (xc_2 _ _ _ _) rfl) rfl rfl hl.1 rfl (lv_room (Nat.le_of_ble_eq_true rfl)) d_RD_readPartitionName_33 ⟨Nat.le_of_ble_eq_true rfl, Nat.le_of_ble_eq_true rfl⟩) hS hnh hlk (fun S9 e9 => by subst e9; exact (Option.some.inj h).symm) (fun v20 S21 w22 H locs hP hS => ?_)
    subst w22
    dsimp only [xT2] at h
    refine lv_iload_n hx hb d_RD_readPartitionName_36 rfl (lv_at hl 0 rfl) ?_
    have h9 := Option.some.inj h
    subst h9
    exact xret (W.iret (v := q7) hx hb hr (fun t ht hW => ⟨_, rfl, ⟨⟨q7, S21, rfl, rfl, by show va_P D xcl _ t.heap; rw [ht]; exact hP⟩, hS.F ht⟩⟩) hS.2.2 d_RD_readPartitionName_37)
theorem c_RD_readPartitionName (l : Launch) (hq : l.stackTraces = false) (D : va_G) (lay : Nat → Nat) (cA : Nat → ClassId) (adK adV : Nat → Nat) (s0 : State) (S : XS)  (r : (Int32 × XS) ⊕ XS) (h : f_RD_readPartitionName S  = some r) : MetX l y_RD_readPartitionName (.code y_RD_readPartitionName b_RD_readPartitionName 2 ((Option.some Jvm.ClassFile.FieldType.int)) :: xT) rm_RD_readPartitionName (xPc D lay cA adK adV s0 S [.ref (lay 179)]) (xri D lay cA r) (xrt D lay cA r) 0 0 1 6 (xI lay) := by
  refine MetX.ofW (cc := b_RD_readPartitionName) (maxL := 2) (ret := (Option.some Jvm.ClassFile.FieldType.int)) (by decide +kernel) rfl ?_
  intro p e s m args below meth c s₁ B hml hv
  obtain ⟨rfl, hP, E⟩ := hv
  have C := xB_of B hml
  have hl := lv_entry ([.ref (lay 179)]) (n := 2) (Nat.le_of_ble_eq_true rfl)
  rw [lg_entry_eq]
  generalize (lg_sl ([.ref (lay 179)]) ++ List.replicate (2 - (lg_sl ([.ref (lay 179)])).length) Slot.unset).toArray = ls at hl ⊢
  exact k_RD_readPartitionName l hq C E S  r h s.heap [] ls hP va_S.rf hl
/-! ConfigTexts$Reader.readEnd(Ljava/lang/String;II)I -/
def rm_RD_readEnd : Room := { frames := 9, cells := 1, slots := 6, locals := 162 }
theorem d_RD_readEnd_0 : decode b_RD_readEnd 0 = .ok (.aload_n 0, 1) := by decide +kernel
theorem d_RD_readEnd_1 : decode b_RD_readEnd 1 = .ok (.getfield 9, 3) := by decide +kernel
theorem d_RD_readEnd_4 : decode b_RD_readEnd 4 = .ok (.aload_n 1, 1) := by decide +kernel
theorem d_RD_readEnd_5 : decode b_RD_readEnd 5 = .ok (.invokevirtual 51, 3) := by decide +kernel
theorem d_RD_readEnd_8 : decode b_RD_readEnd 8 = .ok (.ifCond .eq 12, 3) := by decide +kernel
theorem d_RD_readEnd_11 : decode b_RD_readEnd 11 = .ok (.aload_n 0, 1) := by decide +kernel
theorem d_RD_readEnd_12 : decode b_RD_readEnd 12 = .ok (.getfield 9, 3) := by decide +kernel
theorem d_RD_readEnd_15 : decode b_RD_readEnd 15 = .ok (.invokevirtual 114, 3) := by decide +kernel
theorem d_RD_readEnd_18 : decode b_RD_readEnd 18 = .ok (.iconst (-1), 1) := by decide +kernel
theorem d_RD_readEnd_19 : decode b_RD_readEnd 19 = .ok (.ireturn, 1) := by decide +kernel
theorem d_RD_readEnd_20 : decode b_RD_readEnd 20 = .ok (.aload_n 0, 1) := by decide +kernel
theorem d_RD_readEnd_21 : decode b_RD_readEnd 21 = .ok (.invokevirtual 221, 3) := by decide +kernel
theorem d_RD_readEnd_24 : decode b_RD_readEnd 24 = .ok (.istore 4, 2) := by decide +kernel
theorem d_RD_readEnd_26 : decode b_RD_readEnd 26 = .ok (.aload_n 0, 1) := by decide +kernel
theorem d_RD_readEnd_27 : decode b_RD_readEnd 27 = .ok (.getfield 9, 3) := by decide +kernel
theorem d_RD_readEnd_30 : decode b_RD_readEnd 30 = .ok (.ldc 224, 2) := by decide +kernel
theorem d_RD_readEnd_32 : decode b_RD_readEnd 32 = .ok (.invokevirtual 82, 3) := by decide +kernel
theorem d_RD_readEnd_35 : decode b_RD_readEnd 35 = .ok (.aload_n 0, 1) := by decide +kernel
theorem d_RD_readEnd_36 : decode b_RD_readEnd 36 = .ok (.getfield 9, 3) := by decide +kernel
theorem d_RD_readEnd_39 : decode b_RD_readEnd 39 = .ok (.invokevirtual 102, 3) := by decide +kernel
theorem d_RD_readEnd_42 : decode b_RD_readEnd 42 = .ok (.lstore 5, 2) := by decide +kernel
theorem d_RD_readEnd_44 : decode b_RD_readEnd 44 = .ok (.aload_n 0, 1) := by decide +kernel
theorem d_RD_readEnd_45 : decode b_RD_readEnd 45 = .ok (.getfield 15, 3) := by decide +kernel
theorem d_RD_readEnd_48 : decode b_RD_readEnd 48 = .ok (.iload 4, 2) := by decide +kernel
theorem d_RD_readEnd_50 : decode b_RD_readEnd 50 = .ok (.invokevirtual 35, 3) := by decide +kernel
theorem d_RD_readEnd_53 : decode b_RD_readEnd 53 = .ok (.astore 7, 2) := by decide +kernel
theorem d_RD_readEnd_55 : decode b_RD_readEnd 55 = .ok (.aload 7, 2) := by decide +kernel
theorem d_RD_readEnd_57 : decode b_RD_readEnd 57 = .ok (.ifnonnull 5, 3) := by decide +kernel
theorem d_RD_readEnd_60 : decode b_RD_readEnd 60 = .ok (.iconst (-1), 1) := by decide +kernel
theorem d_RD_readEnd_61 : decode b_RD_readEnd 61 = .ok (.ireturn, 1) := by decide +kernel
theorem d_RD_readEnd_62 : decode b_RD_readEnd 62 = .ok (.aload 7, 2) := by decide +kernel
theorem d_RD_readEnd_64 : decode b_RD_readEnd 64 = .ok (.getfield 126, 3) := by decide +kernel
theorem d_RD_readEnd_67 : decode b_RD_readEnd 67 = .ok (.iconst 5, 1) := by decide +kernel
theorem d_RD_readEnd_68 : decode b_RD_readEnd 68 = .ok (.aaload, 1) := by decide +kernel
theorem d_RD_readEnd_69 : decode b_RD_readEnd 69 = .ok (.astore 8, 2) := by decide +kernel
theorem d_RD_readEnd_71 : decode b_RD_readEnd 71 = .ok (.aload 8, 2) := by decide +kernel
theorem d_RD_readEnd_73 : decode b_RD_readEnd 73 = .ok (.lload 5, 2) := by decide +kernel
theorem d_RD_readEnd_75 : decode b_RD_readEnd 75 = .ok (.invokevirtual 226, 3) := by decide +kernel
theorem d_RD_readEnd_78 : decode b_RD_readEnd 78 = .ok (.istore 9, 2) := by decide +kernel
theorem d_RD_readEnd_80 : decode b_RD_readEnd 80 = .ok (.iload 9, 2) := by decide +kernel
theorem d_RD_readEnd_82 : decode b_RD_readEnd 82 = .ok (.iconst (-1), 1) := by decide +kernel
theorem d_RD_readEnd_83 : decode b_RD_readEnd 83 = .ok (.if_icmp .ne 12, 3) := by decide +kernel
theorem d_RD_readEnd_86 : decode b_RD_readEnd 86 = .ok (.aload_n 0, 1) := by decide +kernel
theorem d_RD_readEnd_87 : decode b_RD_readEnd 87 = .ok (.getfield 9, 3) := by decide +kernel
theorem d_RD_readEnd_90 : decode b_RD_readEnd 90 = .ok (.bipush 6, 2) := by decide +kernel
theorem d_RD_readEnd_92 : decode b_RD_readEnd 92 = .ok (.invokevirtual 98, 3) := by decide +kernel
theorem d_RD_readEnd_95 : decode b_RD_readEnd 95 = .ok (.aload 8, 2) := by decide +kernel
theorem d_RD_readEnd_97 : decode b_RD_readEnd 97 = .ok (.iload 9, 2) := by decide +kernel
theorem d_RD_readEnd_99 : decode b_RD_readEnd 99 = .ok (.iconst 0, 1) := by decide +kernel
theorem d_RD_readEnd_100 : decode b_RD_readEnd 100 = .ok (.invokevirtual 229, 3) := by decide +kernel
theorem d_RD_readEnd_103 : decode b_RD_readEnd 103 = .ok (.iload_n 2, 1) := by decide +kernel
theorem d_RD_readEnd_104 : decode b_RD_readEnd 104 = .ok (.if_icmp .ne 27, 3) := by decide +kernel
theorem d_RD_readEnd_107 : decode b_RD_readEnd 107 = .ok (.aload 8, 2) := by decide +kernel
theorem d_RD_readEnd_109 : decode b_RD_readEnd 109 = .ok (.iload 9, 2) := by decide +kernel
theorem d_RD_readEnd_111 : decode b_RD_readEnd 111 = .ok (.iconst 1, 1) := by decide +kernel
theorem d_RD_readEnd_112 : decode b_RD_readEnd 112 = .ok (.invokevirtual 229, 3) := by decide +kernel
theorem d_RD_readEnd_115 : decode b_RD_readEnd 115 = .ok (.iload_n 3, 1) := by decide +kernel
theorem d_RD_readEnd_116 : decode b_RD_readEnd 116 = .ok (.if_icmp .ne 15, 3) := by decide +kernel
theorem d_RD_readEnd_119 : decode b_RD_readEnd 119 = .ok (.aload 8, 2) := by decide +kernel
theorem d_RD_readEnd_121 : decode b_RD_readEnd 121 = .ok (.iload 9, 2) := by decide +kernel
theorem d_RD_readEnd_123 : decode b_RD_readEnd 123 = .ok (.iconst 2, 1) := by decide +kernel
theorem d_RD_readEnd_124 : decode b_RD_readEnd 124 = .ok (.invokevirtual 229, 3) := by decide +kernel
theorem d_RD_readEnd_127 : decode b_RD_readEnd 127 = .ok (.iconst (-1), 1) := by decide +kernel
theorem d_RD_readEnd_128 : decode b_RD_readEnd 128 = .ok (.if_icmp .eq 12, 3) := by decide +kernel
theorem d_RD_readEnd_131 : decode b_RD_readEnd 131 = .ok (.aload_n 0, 1) := by decide +kernel
theorem d_RD_readEnd_132 : decode b_RD_readEnd 132 = .ok (.getfield 9, 3) := by decide +kernel
theorem d_RD_readEnd_135 : decode b_RD_readEnd 135 = .ok (.bipush 7, 2) := by decide +kernel
theorem d_RD_readEnd_137 : decode b_RD_readEnd 137 = .ok (.invokevirtual 98, 3) := by decide +kernel
theorem d_RD_readEnd_140 : decode b_RD_readEnd 140 = .ok (.aload 8, 2) := by decide +kernel
theorem d_RD_readEnd_142 : decode b_RD_readEnd 142 = .ok (.iload 9, 2) := by decide +kernel
theorem d_RD_readEnd_144 : decode b_RD_readEnd 144 = .ok (.iconst 2, 1) := by decide +kernel
theorem d_RD_readEnd_145 : decode b_RD_readEnd 145 = .ok (.aload_n 0, 1) := by decide +kernel
theorem d_RD_readEnd_146 : decode b_RD_readEnd 146 = .ok (.getfield 15, 3) := by decide +kernel
theorem d_RD_readEnd_149 : decode b_RD_readEnd 149 = .ok (.getfield 194, 3) := by decide +kernel
theorem d_RD_readEnd_152 : decode b_RD_readEnd 152 = .ok (.getfield 158, 3) := by decide +kernel
theorem d_RD_readEnd_155 : decode b_RD_readEnd 155 = .ok (.iconst 1, 1) := by decide +kernel
theorem d_RD_readEnd_156 : decode b_RD_readEnd 156 = .ok (.isub, 1) := by decide +kernel
theorem d_RD_readEnd_157 : decode b_RD_readEnd 157 = .ok (.invokevirtual 232, 3) := by decide +kernel
theorem d_RD_readEnd_160 : decode b_RD_readEnd 160 = .ok (.aload_n 0, 1) := by decide +kernel
theorem d_RD_readEnd_161 : decode b_RD_readEnd 161 = .ok (.getfield 9, 3) := by decide +kernel
theorem d_RD_readEnd_164 : decode b_RD_readEnd 164 = .ok (.invokevirtual 114, 3) := by decide +kernel
theorem d_RD_readEnd_167 : decode b_RD_readEnd 167 = .ok (.iload 4, 2) := by decide +kernel
theorem d_RD_readEnd_169 : decode b_RD_readEnd 169 = .ok (.ireturn, 1) := by decide +kernel
def f_RD_readEnd_140 (S : XS) (a4 : Int32) (a8 : Nat) (a9 : Int32) : Option ((Int32 × XS) ⊕ XS) :=
  if xR a8 then ((f_RO_set S a8 a9 (2 : Int32) ((xgi S 173 4) - (1 : Int32))).bind fun q55 => (f_WO_next q55).bind (xT2 fun _ S59 => some (.inl (a4, S59)))) else none
set_option maxHeartbeats 4000000 in
set_option maxRecDepth 100000 in
theorem k_RD_readEnd_140 (l : Launch) (hq : l.stackTraces = false) {p : Program} {e : Env} {s : State} {m : MethodId} {args : Array Value} {below : List Frame} {meth : Method} {c : Code} {D : va_G} {lay : Nat → Nat} {cA : Nat → ClassId} {adK adV : Nat → Nat} {s0 : State} (C : xB p s m args meth c R_RD b_RD_readEnd ((Option.some Jvm.ClassFile.FieldType.int)) 10) (E : xE D lay cA adK adV s0 s s.heap) : ∀ (S : XS) (a4 : Int32) (a8 : Nat) (a9 : Int32) (r : (Int32 × XS) ⊕ XS) (_ : f_RD_readEnd_140 S a4 a8 a9 = some r) (H : Heap) (locs : List Loc) (ls : Array Slot), va_P D xcl (xw lay cA S) H → va_S (xI lay) s.heap H locs → lv_has ls 10 [(0, .ref (lay 179)), (4, .int a4), (8, .ref (lay a8)), (9, .int a9)] → W p l e rm_RD_readEnd s m args below meth c H locs 0 0 (XF below (xri D lay cA r) (xrt D lay cA r) s 0 0 1 6 (xI lay)) (F0 m 140 ls []) := by
  obtain ⟨hx, hb, hr, hml, hown, hts, hlk, hnh⟩ := id C
  have hK := E.K
  intro S a4 a8 a9 r h H locs ls hP hS hl
  unfold f_RD_readEnd_140 at h
  refine lv_aload hx hb d_RD_readEnd_140 (lv_at hl 2 rfl) ?_
  refine lv_iload hx hb d_RD_readEnd_142 (lv_at hl 3 rfl) ?_
  refine lv_iconst (v := (2 : Int32)) hx hb d_RD_readEnd_144 (by decide) ?_
  refine lv_aload_n hx hb d_RD_readEnd_145 rfl (lv_at hl 0 rfl) ?_
  refine va_get (v := .ref (lay 3)) (C := R_RD) (T := F_RD) (N := 4) hx hb hts i_RD hown hK hP 179 (xw_at (by decide) (xc_179 _ _ _ _)) rfl 1 (by decide) (hts _ wd_170) (fun _ h9 => h9) rfl d_RD_readEnd_146 ?_
  refine va_getN (v := .ref (lay 173)) (C := R_CF) (T := F_CF) (N := 7) hx hb hts i_CF hown hK hP 3 (xw_at (by decide) (xc_3 _ _ _ _)) rfl 2 (by decide) (E.nest wn_138) (fun _ h9 => h9) rfl d_RD_readEnd_149 ?_
  refine va_getN (v := .int (xgi S 173 4)) (C := R_RO) (T := F_RO) (N := 5) hx hb hts i_RO hown hK hP 173 (xw_at (xR_lt (by decide : xR 173)).1 (xc_RO _ _ _ _ (by decide : xR 173))) rfl 4 (by decide) (E.nest wn_95) (fun _ h9 => h9) rfl d_RD_readEnd_152 ?_
  refine lv_iconst (v := (1 : Int32)) hx hb d_RD_readEnd_155 (by decide) ?_
  refine lv_isub hx hb d_RD_readEnd_156 ?_
  obtain ⟨hk53, h⟩ := xg h
  obtain ⟨q55, e54, h⟩ := xb h
  refine xc_v (va_runV (As := [.int a9, .int (2 : Int32), .int ((xgi S 173 4) - (1 : Int32))]) (rest := []) ⟨hx, hb, hml, hown, hts⟩ (c_RO_set l D lay cA adK adV s0 S a8 a9 (2 : Int32) ((xgi S 173 4) - (1 : Int32)) q55 e54) (cwV 3 hts (xT_V wd_640 wd_570 wd_571 wd_5 wd_572) rfl rfl rfl (by decide +kernel) ⟨Nat.le_of_ble_eq_true rfl, Nat.le_of_ble_eq_true rfl⟩) (xpV E hP hS (xR_lt hk53).1 (xc_RO _ _ _ _ hk53) rfl) rfl rfl hl.1 rfl (lv_room (Nat.le_of_ble_eq_true rfl)) d_RD_readEnd_157 ⟨Nat.le_of_ble_eq_true rfl, Nat.le_of_ble_eq_true rfl⟩) hS (fun H locs hP hS => ?_)
  refine lv_aload_n hx hb d_RD_readEnd_160 rfl (lv_at hl 0 rfl) ?_
  refine va_get (v := .ref (lay 2)) (C := R_RD) (T := F_RD) (N := 4) hx hb hts i_RD hown hK hP 179 (xw_at (by decide) (xc_179 _ _ _ _)) rfl 0 (by decide) (hts _ wd_169) (fun _ h9 => h9) rfl d_RD_readEnd_161 ?_
  obtain ⟨q57, e56, h⟩ := xb h
  refine xk_v (xrunV (As := []) (rest := []) ⟨hx, hb, hml, hown, hts⟩ (c_WO_next l hq D lay cA adK adV s0 q55 q57 e56) (cwV 0 hts (xT_V wd_522 wd_285 wd_286 wd_2 wd_287) rfl rfl rfl (by decide +kernel) ⟨Nat.le_of_ble_eq_true rfl, Nat.le_of_ble_eq_true rfl⟩) (xpV E hP hS (by decide) (xc_2 _ _ _ _) rfl) rfl rfl hl.1 rfl (lv_room (Nat.le_of_ble_eq_true rfl)) d_RD_readEnd_164 ⟨Nat.le_of_ble_eq_true rfl, Nat.le_of_ble_eq_true rfl⟩) hS hnh hlk (fun S9 e9 => by subst e9; exact (Option.some.inj h).symm) (fun v58 S59 w60 H locs hP hS => ?_)
  subst w60
  dsimp only [xT2] at h
  refine lv_iload hx hb d_RD_readEnd_167 (lv_at hl 1 rfl) ?_
  have h9 := Option.some.inj h
  subst h9
  exact xret (W.iret (v := a4) hx hb hr (fun t ht hW => ⟨_, rfl, ⟨⟨a4, S59, rfl, rfl, by show va_P D xcl _ t.heap; rw [ht]; exact hP⟩, hS.F ht⟩⟩) hS.2.2 d_RD_readEnd_169)
def f_RD_readEnd_131 (S : XS) (a4 : Int32) (a8 : Nat) (a9 : Int32) : Option ((Int32 × XS) ⊕ XS) :=
  (f_WO_fail S (7 : Int32)).bind (xT2 fun _ S51 => f_RD_readEnd_140 S51 a4 a8 a9)
set_option maxHeartbeats 4000000 in
set_option maxRecDepth 100000 in
theorem k_RD_readEnd_131 (l : Launch) (hq : l.stackTraces = false) {p : Program} {e : Env} {s : State} {m : MethodId} {args : Array Value} {below : List Frame} {meth : Method} {c : Code} {D : va_G} {lay : Nat → Nat} {cA : Nat → ClassId} {adK adV : Nat → Nat} {s0 : State} (C : xB p s m args meth c R_RD b_RD_readEnd ((Option.some Jvm.ClassFile.FieldType.int)) 10) (E : xE D lay cA adK adV s0 s s.heap) : ∀ (S : XS) (a4 : Int32) (a8 : Nat) (a9 : Int32) (r : (Int32 × XS) ⊕ XS) (_ : f_RD_readEnd_131 S a4 a8 a9 = some r) (H : Heap) (locs : List Loc) (ls : Array Slot), va_P D xcl (xw lay cA S) H → va_S (xI lay) s.heap H locs → lv_has ls 10 [(0, .ref (lay 179)), (4, .int a4), (8, .ref (lay a8)), (9, .int a9)] → W p l e rm_RD_readEnd s m args below meth c H locs 0 0 (XF below (xri D lay cA r) (xrt D lay cA r) s 0 0 1 6 (xI lay)) (F0 m 131 ls []) := by
  obtain ⟨hx, hb, hr, hml, hown, hts, hlk, hnh⟩ := id C
  have hK := E.K
  intro S a4 a8 a9 r h H locs ls hP hS hl
  unfold f_RD_readEnd_131 at h
  refine lv_aload_n hx hb d_RD_readEnd_131 rfl (lv_at hl 0 rfl) ?_
  refine va_get (v := .ref (lay 2)) (C := R_RD) (T := F_RD) (N := 4) hx hb hts i_RD hown hK hP 179 (xw_at (by decide) (xc_179 _ _ _ _)) rfl 0 (by decide) (hts _ wd_169) (fun _ h9 => h9) rfl d_RD_readEnd_132 ?_
  refine lv_bipush (v := (7 : Int32)) hx hb d_RD_readEnd_135 (by decide) ?_
  obtain ⟨q49, e48, h⟩ := xb h
  refine xk_v (xrunV (As := [.int (7 : Int32)]) (rest := []) ⟨hx, hb, hml, hown, hts⟩ (c_WO_fail l hq D lay cA adK adV s0 S (7 : Int32) q49 e48) (cwV 1 hts (xT_V wd_502 wd_386 wd_387 wd_2 wd_388) rfl rfl rfl (by decide +kernel) ⟨Nat.le_of_ble_eq_true rfl, Nat.le_of_ble_eq_true rfl⟩) (xpV E hP hS (by decide) (xc_2 _ _ _ _) rfl) rfl rfl hl.1 rfl (lv_room (Nat.le_of_ble_eq_true rfl)) d_RD_readEnd_137 ⟨Nat.le_of_ble_eq_true rfl, Nat.le_of_ble_eq_true rfl⟩) hS hnh hlk (fun S9 e9 => by subst e9; exact (Option.some.inj h).symm) (fun v50 S51 w52 H locs hP hS => ?_)
  subst w52
  dsimp only [xT2] at h
  exact k_RD_readEnd_140 l hq C E S51 a4 a8 a9 _ h H locs ls hP hS hl
def f_RD_readEnd_95 (S : XS) (a2 : Int32) (a3 : Int32) (a4 : Int32) (a8 : Nat) (a9 : Int32) : Option ((Int32 × XS) ⊕ XS) :=
  if xR a8 then ((f_RO_get S a8 a9 (0 : Int32)).bind fun q40 => if q40 = a2 then ((f_RO_get S a8 a9 (1 : Int32)).bind fun q42 => if q42 = a3 then ((f_RO_get S a8 a9 (2 : Int32)).bind fun q44 => if q44 = (-1 : Int32) then (f_RD_readEnd_140 S a4 a8 a9) else (f_RD_readEnd_131 S a4 a8 a9)) else (f_RD_readEnd_131 S a4 a8 a9)) else (f_RD_readEnd_131 S a4 a8 a9)) else none
set_option maxHeartbeats 4000000 in
set_option maxRecDepth 100000 in
theorem k_RD_readEnd_95 (l : Launch) (hq : l.stackTraces = false) {p : Program} {e : Env} {s : State} {m : MethodId} {args : Array Value} {below : List Frame} {meth : Method} {c : Code} {D : va_G} {lay : Nat → Nat} {cA : Nat → ClassId} {adK adV : Nat → Nat} {s0 : State} (C : xB p s m args meth c R_RD b_RD_readEnd ((Option.some Jvm.ClassFile.FieldType.int)) 10) (E : xE D lay cA adK adV s0 s s.heap) : ∀ (S : XS) (a2 : Int32) (a3 : Int32) (a4 : Int32) (a8 : Nat) (a9 : Int32) (r : (Int32 × XS) ⊕ XS) (_ : f_RD_readEnd_95 S a2 a3 a4 a8 a9 = some r) (H : Heap) (locs : List Loc) (ls : Array Slot), va_P D xcl (xw lay cA S) H → va_S (xI lay) s.heap H locs → lv_has ls 10 [(0, .ref (lay 179)), (2, .int a2), (3, .int a3), (4, .int a4), (8, .ref (lay a8)), (9, .int a9)] → W p l e rm_RD_readEnd s m args below meth c H locs 0 0 (XF below (xri D lay cA r) (xrt D lay cA r) s 0 0 1 6 (xI lay)) (F0 m 95 ls []) := by
  obtain ⟨hx, hb, hr, hml, hown, hts, hlk, hnh⟩ := id C
  have hK := E.K
  intro S a2 a3 a4 a8 a9 r h H locs ls hP hS hl
  unfold f_RD_readEnd_95 at h
  refine lv_aload hx hb d_RD_readEnd_95 (lv_at hl 4 rfl) ?_
  refine lv_iload hx hb d_RD_readEnd_97 (lv_at hl 5 rfl) ?_
  refine lv_iconst (v := (0 : Int32)) hx hb d_RD_readEnd_99 (by decide) ?_
  obtain ⟨hk38, h⟩ := xg h
  obtain ⟨q40, e39, h⟩ := xb h
  refine xc_i (va_runV (As := [.int a9, .int (0 : Int32)]) (rest := []) ⟨hx, hb, hml, hown, hts⟩ (c_RO_get l D lay cA adK adV s0 S a8 a9 (0 : Int32) q40 e39) (cwV 2 hts (xT_V wd_639 wd_242 wd_243 wd_5 wd_244) rfl rfl rfl (by decide +kernel) ⟨Nat.le_of_ble_eq_true rfl, Nat.le_of_ble_eq_true rfl⟩) (xpV E hP hS (xR_lt hk38).1 (xc_RO _ _ _ _ hk38) rfl) rfl rfl hl.1 rfl (lv_room (Nat.le_of_ble_eq_true rfl)) d_RD_readEnd_100 ⟨Nat.le_of_ble_eq_true rfl, Nat.le_of_ble_eq_true rfl⟩) hS (fun H locs hP hS => ?_)
  refine lv_iload_n hx hb d_RD_readEnd_103 rfl (lv_at hl 1 rfl) ?_
  refine lv_icmp_ne (tgt := 131) hx hb d_RD_readEnd_104 (by decide) (fun c_47 => ?_) (fun c_47 => ?_)
  · have h := xif_f c_47 h
    exact k_RD_readEnd_131 l hq C E S a4 a8 a9 _ h H locs ls hP hS (lv_sub hl [0, 3, 4, 5] rfl)
  · have h := xif_t c_47 h
    refine lv_aload hx hb d_RD_readEnd_107 (lv_at hl 4 rfl) ?_
    refine lv_iload hx hb d_RD_readEnd_109 (lv_at hl 5 rfl) ?_
    refine lv_iconst (v := (1 : Int32)) hx hb d_RD_readEnd_111 (by decide) ?_
    obtain ⟨q42, e41, h⟩ := xb h
    refine xc_i (va_runV (As := [.int a9, .int (1 : Int32)]) (rest := []) ⟨hx, hb, hml, hown, hts⟩ (c_RO_get l D lay cA adK adV s0 S a8 a9 (1 : Int32) q42 e41) (cwV 2 hts (xT_V wd_639 wd_242 wd_243 wd_5 wd_244) rfl rfl rfl (by decide +kernel) ⟨Nat.le_of_ble_eq_true rfl, Nat.le_of_ble_eq_true rfl⟩) (xpV E hP hS (xR_lt hk38).1 (xc_RO _ _ _ _ hk38) rfl) rfl rfl hl.1 rfl (lv_room (Nat.le_of_ble_eq_true rfl)) d_RD_readEnd_112 ⟨Nat.le_of_ble_eq_true rfl, Nat.le_of_ble_eq_true rfl⟩) hS (fun H locs hP hS => ?_)
    refine lv_iload_n hx hb d_RD_readEnd_115 rfl (lv_at hl 2 rfl) ?_
    refine lv_icmp_ne (tgt := 131) hx hb d_RD_readEnd_116 (by decide) (fun c_46 => ?_) (fun c_46 => ?_)
    · have h := xif_f c_46 h
      exact k_RD_readEnd_131 l hq C E S a4 a8 a9 _ h H locs ls hP hS (lv_sub hl [0, 3, 4, 5] rfl)
    · have h := xif_t c_46 h
      refine lv_aload hx hb d_RD_readEnd_119 (lv_at hl 4 rfl) ?_
      refine lv_iload hx hb d_RD_readEnd_121 (lv_at hl 5 rfl) ?_
      refine lv_iconst (v := (2 : Int32)) hx hb d_RD_readEnd_123 (by decide) ?_
      obtain ⟨q44, e43, h⟩ := xb h
      refine xc_i (va_runV (As := [.int a9, .int (2 : Int32)]) (rest := []) ⟨hx, hb, hml, hown, hts⟩ (c_RO_get l D lay cA adK adV s0 S a8 a9 (2 : Int32) q44 e43) (cwV 2 hts (xT_V wd_639 wd_242 wd_243 wd_5 wd_244) rfl rfl rfl (by decide +kernel) ⟨Nat.le_of_ble_eq_true rfl, Nat.le_of_ble_eq_true rfl⟩) (xpV E hP hS (xR_lt hk38).1 (xc_RO _ _ _ _ hk38) rfl) rfl rfl hl.1 rfl (lv_room (Nat.le_of_ble_eq_true rfl)) d_RD_readEnd_124 ⟨Nat.le_of_ble_eq_true rfl, Nat.le_of_ble_eq_true rfl⟩) hS (fun H locs hP hS => ?_)
      refine lv_iconst (v := (-1 : Int32)) hx hb d_RD_readEnd_127 (by decide) ?_
      refine lv_icmp_eq (tgt := 140) hx hb d_RD_readEnd_128 (by decide) (fun c_45 => ?_) (fun c_45 => ?_)
      · have h := xif_t c_45 h
        exact k_RD_readEnd_140 l hq C E S a4 a8 a9 _ h H locs ls hP hS (lv_sub hl [0, 3, 4, 5] rfl)
      · have h := xif_f c_45 h
        exact k_RD_readEnd_131 l hq C E S a4 a8 a9 _ h H locs ls hP hS (lv_sub hl [0, 3, 4, 5] rfl)
def f_RD_readEnd (S : XS) (a1 : Nat) (a2 : Int32) (a3 : Int32) : Option ((Int32 × XS) ⊕ XS) :=
  (f_WO_is S a1).bind fun q2 => if q2 = 0 then ((f_RD_readPartitionName S).bind (xT2 fun v5 S6 => (f_WO_expect S6 23).bind (xT2 fun _ S11 => (f_WO_expectName S11).bind (xT2 fun v15 S16 => (f_CF_partitionAt S16 v5).bind fun q19 => match q19 with | none => (some (.inl ((-1 : Int32), S16))) | some i20 => (if xP i20 then (if ¬ ((5 : Int32) < 0 ∨ 6 ≤ (5 : Int32).toNatClampNeg) then (if xR (i20 + 2 + 1 + 3 * (5 : Int32).toNatClampNeg) then ((f_RO_find S16 (i20 + 2 + 1 + 3 * (5 : Int32).toNatClampNeg) v15).bind fun q25 => if q25 = (-1 : Int32) then ((f_WO_fail S16 (6 : Int32)).bind (xT2 fun _ S29 => f_RD_readEnd_95 S29 a2 a3 v5 (i20 + 2 + 1 + 3 * (5 : Int32).toNatClampNeg) q25)) else (f_RD_readEnd_95 S16 a2 a3 v5 (i20 + 2 + 1 + 3 * (5 : Int32).toNatClampNeg) q25)) else none) else none) else none))))) else ((f_WO_next S).bind (xT2 fun _ S35 => some (.inl ((-1 : Int32), S35))))
set_option maxHeartbeats 4000000 in
set_option maxRecDepth 100000 in
theorem k_RD_readEnd (l : Launch) (hq : l.stackTraces = false) {p : Program} {e : Env} {s : State} {m : MethodId} {args : Array Value} {below : List Frame} {meth : Method} {c : Code} {D : va_G} {lay : Nat → Nat} {cA : Nat → ClassId} {adK adV : Nat → Nat} {s0 : State} (C : xB p s m args meth c R_RD b_RD_readEnd ((Option.some Jvm.ClassFile.FieldType.int)) 10) (E : xE D lay cA adK adV s0 s s.heap) : ∀ (S : XS) (a1 : Nat) (a2 : Int32) (a3 : Int32) (r : (Int32 × XS) ⊕ XS) (_ : f_RD_readEnd S a1 a2 a3 = some r) (H : Heap) (locs : List Loc) (ls : Array Slot), va_P D xcl (xw lay cA S) H → va_S (xI lay) s.heap H locs → lv_has ls 10 [(0, .ref (lay 179)), (1, .ref (adK a1)), (2, .int a2), (3, .int a3)] → W p l e rm_RD_readEnd s m args below meth c H locs 0 0 (XF below (xri D lay cA r) (xrt D lay cA r) s 0 0 1 6 (xI lay)) (F0 m 0 ls []) := by
  obtain ⟨hx, hb, hr, hml, hown, hts, hlk, hnh⟩ := id C
  have hK := E.K
  intro S a1 a2 a3 r h H locs ls hP hS hl
  unfold f_RD_readEnd at h
  refine lv_aload_n hx hb d_RD_readEnd_0 rfl (lv_at hl 0 rfl) ?_
  refine va_get (v := .ref (lay 2)) (C := R_RD) (T := F_RD) (N := 4) hx hb hts i_RD hown hK hP 179 (xw_at (by decide) (xc_179 _ _ _ _)) rfl 0 (by decide) (hts _ wd_169) (fun _ h9 => h9) rfl d_RD_readEnd_1 ?_
  refine lv_aload_n hx hb d_RD_readEnd_4 rfl (lv_at hl 1 rfl) ?_
  obtain ⟨q2, e1, h⟩ := xb h
  refine xc_i (va_runV (As := [.ref (adK a1)]) (rest := []) ⟨hx, hb, hml, hown, hts⟩ (c_WO_is l D lay cA adK adV s0 S a1 q2 e1) (cwV 1 hts (xT_V wd_536 wd_456 wd_457 wd_2 wd_458) rfl rfl rfl (by decide +kernel) ⟨Nat.le_of_ble_eq_true rfl, Nat.le_of_ble_eq_true rfl⟩) (xpV E hP hS (by decide) (xc_2 _ _ _ _) rfl) rfl rfl hl.1 rfl (lv_room (Nat.le_of_ble_eq_true rfl)) d_RD_readEnd_5 ⟨Nat.le_of_ble_eq_true rfl, Nat.le_of_ble_eq_true rfl⟩) hS (fun H locs hP hS => ?_)
  refine lv_if_eq (tgt := 20) hx hb d_RD_readEnd_8 (by decide) (fun c_37 => ?_) (fun c_37 => ?_)
  · have h := xif_t c_37 h
    refine lv_aload_n hx hb d_RD_readEnd_20 rfl (lv_at hl 0 rfl) ?_
    obtain ⟨q4, e3, h⟩ := xb h
    refine xk_i (xrunV (As := []) (rest := []) ⟨hx, hb, hml, hown, hts⟩ (c_RD_readPartitionName l hq D lay cA adK adV s0 S q4 e3) (cwV 0 hts (xT_V wd_633 wd_635 wp_17 wd_6 wd_636) rfl rfl rfl (by decide +kernel) ⟨Nat.le_of_ble_eq_true rfl, Nat.le_of_ble_eq_true rfl⟩) (xpV E hP hS (by decide) (xc_179 _ _ _ _) rfl) rfl rfl hl.1 rfl (lv_room (Nat.le_of_ble_eq_true rfl)) d_RD_readEnd_21 ⟨Nat.le_of_ble_eq_true rfl, Nat.le_of_ble_eq_true rfl⟩) hS hnh hlk (fun S9 e9 => by subst e9; exact (Option.some.inj h).symm) (fun v5 S6 w7 H locs hP hS => ?_)
    subst w7
    dsimp only [xT2] at h
    refine lv_istore (lv' := [(4, .int v5), (0, .ref (lay 179)), (1, .ref (adK a1)), (2, .int a2), (3, .int a3)]) hx hb d_RD_readEnd_24 hl (by decide) rfl (fun ls hl => ?_)
    refine lv_aload_n hx hb d_RD_readEnd_26 rfl (lv_at hl 1 rfl) ?_
    refine va_get (v := .ref (lay 2)) (C := R_RD) (T := F_RD) (N := 4) hx hb hts i_RD hown hK hP 179 (xw_at (by decide) (xc_179 _ _ _ _)) rfl 0 (by decide) (hts _ wd_169) (fun _ h9 => h9) rfl d_RD_readEnd_27 ?_
    refine va_ldcS hx hb hown (E.lit (List.mem_of_getElem? (i := 25) rfl : ("ConfigTexts$Reader", 224, ".", 23) ∈ xlits)) d_RD_readEnd_30 ?_
    obtain ⟨q9, e8, h⟩ := xb h
    refine xk_v (xrunV (As := [.ref (adK 23)]) (rest := []) ⟨hx, hb, hml, hown, hts⟩ (c_WO_expect l hq D lay cA adK adV s0 S6 23 q9 e8) (cwV 1 hts (xT_V wd_493 wd_494 wd_495 wd_2 wd_496) rfl rfl rfl (by decide +kernel) ⟨Nat.le_of_ble_eq_true rfl, Nat.le_of_ble_eq_true rfl⟩) (xpV E hP hS (by decide) (xc_2 _ _ _ _) rfl) rfl rfl hl.1 rfl (lv_room (Nat.le_of_ble_eq_true rfl)) d_RD_readEnd_32 ⟨Nat.le_of_ble_eq_true rfl, Nat.le_of_ble_eq_true rfl⟩) hS hnh hlk (fun S9 e9 => by subst e9; exact (Option.some.inj h).symm) (fun v10 S11 w12 H locs hP hS => ?_)
    subst w12
    dsimp only [xT2] at h
    refine lv_aload_n hx hb d_RD_readEnd_35 rfl (lv_at hl 1 rfl) ?_
    refine va_get (v := .ref (lay 2)) (C := R_RD) (T := F_RD) (N := 4) hx hb hts i_RD hown hK hP 179 (xw_at (by decide) (xc_179 _ _ _ _)) rfl 0 (by decide) (hts _ wd_169) (fun _ h9 => h9) rfl d_RD_readEnd_36 ?_
    obtain ⟨q14, e13, h⟩ := xb h
    refine xk_l (xrunV (As := []) (rest := []) ⟨hx, hb, hml, hown, hts⟩ (c_WO_expectName l hq D lay cA adK adV s0 S11 q14 e13) (cwV 0 hts (xT_V wd_503 wd_504 wd_505 wd_2 wd_506) rfl rfl rfl (by decide +kernel) ⟨Nat.le_of_ble_eq_true rfl, Nat.le_of_ble_eq_true rfl⟩) (xpV E hP hS (by decide) (xc_2 _ _ _ _) rfl) rfl rfl hl.1 rfl (lv_room (Nat.le_of_ble_eq_true rfl)) d_RD_readEnd_39 ⟨Nat.le_of_ble_eq_true rfl, Nat.le_of_ble_eq_true rfl⟩) hS hnh hlk (fun S9 e9 => by subst e9; exact (Option.some.inj h).symm) (fun v15 S16 w17 H locs hP hS => ?_)
    subst w17
    dsimp only [xT2] at h
    refine lv_lstore (lv' := [(5, .long v15), (4, .int v5), (0, .ref (lay 179)), (1, .ref (adK a1)), (2, .int a2), (3, .int a3)]) hx hb d_RD_readEnd_42 hl (by decide) rfl (fun ls hl => ?_)
    refine lv_aload_n hx hb d_RD_readEnd_44 rfl (lv_at hl 2 rfl) ?_
    refine va_get (v := .ref (lay 3)) (C := R_RD) (T := F_RD) (N := 4) hx hb hts i_RD hown hK hP 179 (xw_at (by decide) (xc_179 _ _ _ _)) rfl 1 (by decide) (hts _ wd_170) (fun _ h9 => h9) rfl d_RD_readEnd_45 ?_
    refine lv_iload hx hb d_RD_readEnd_48 (lv_at hl 1 rfl) ?_
    obtain ⟨q19, e18, h⟩ := xb h
    refine xc_o (va_runV (As := [.int v5]) (rest := []) ⟨hx, hb, hml, hown, hts⟩ (c_CF_partitionAt l D lay cA adK adV s0 S16 v5 q19 e18) (cwV 1 hts (xT_V wd_524 wd_226 wd_227 wd_3 wd_228) rfl rfl rfl (by decide +kernel) ⟨Nat.le_of_ble_eq_true rfl, Nat.le_of_ble_eq_true rfl⟩) (xpV E hP hS (by decide) (xc_3 _ _ _ _) rfl) rfl rfl hl.1 rfl (lv_room (Nat.le_of_ble_eq_true rfl)) d_RD_readEnd_50 ⟨Nat.le_of_ble_eq_true rfl, Nat.le_of_ble_eq_true rfl⟩) hS (fun H locs hP hS => ?_)
    cases q19 with
    | none =>
      dsimp only at h
      refine lv_astoreN (lv' := [(7, .null), (5, .long v15), (4, .int v5), (0, .ref (lay 179)), (1, .ref (adK a1)), (2, .int a2), (3, .int a3)]) hx hb d_RD_readEnd_53 hl (by decide) rfl (fun ls hl => ?_)
      refine lv_aloadN hx hb d_RD_readEnd_55 (lv_at hl 0 rfl) ?_
      refine lv_ifnonnullN hx hb d_RD_readEnd_57 ?_
      refine lv_iconst (v := (-1 : Int32)) hx hb d_RD_readEnd_60 (by decide) ?_
      have h9 := Option.some.inj h
      subst h9
      exact xret (W.iret (v := (-1 : Int32)) hx hb hr (fun t ht hW => ⟨_, rfl, ⟨⟨(-1 : Int32), S16, rfl, rfl, by show va_P D xcl _ t.heap; rw [ht]; exact hP⟩, hS.F ht⟩⟩) hS.2.2 d_RD_readEnd_61)
    | some i20 =>
      dsimp only at h
      refine lv_astore (lv' := [(7, .ref (lay i20)), (5, .long v15), (4, .int v5), (0, .ref (lay 179)), (1, .ref (adK a1)), (2, .int a2), (3, .int a3)]) hx hb d_RD_readEnd_53 hl (by decide) rfl (fun ls hl => ?_)
      refine lv_aload hx hb d_RD_readEnd_55 (lv_at hl 0 rfl) ?_
      refine lv_ifnonnull (tgt := 62) hx hb d_RD_readEnd_57 (by decide) ?_
      refine lv_aload hx hb d_RD_readEnd_62 (lv_at hl 0 rfl) ?_
      obtain ⟨hk21, h⟩ := xg h
      refine va_getN (v := .ref (lay (i20 + 2))) (C := R_PA) (T := F_PA) (N := 5) hx hb hts i_PA hown hK hP i20 (xw_at (xP_lt hk21).1 (xc_PA _ _ _ _ hk21)) rfl 4 (by decide) (E.nest wn_117) (fun _ h9 => h9) rfl d_RD_readEnd_64 ?_
      refine lv_iconst (v := (5 : Int32)) hx hb d_RD_readEnd_67 (by decide) ?_
      obtain ⟨hg22, h⟩ := xg h
      refine xal_PAT hx hb E hP hk21 hg22 d_RD_readEnd_68 ?_
      refine lv_astore (lv' := [(8, .ref (lay (i20 + 2 + 1 + 3 * (5 : Int32).toNatClampNeg))), (7, .ref (lay i20)), (5, .long v15), (4, .int v5), (0, .ref (lay 179)), (1, .ref (adK a1)), (2, .int a2), (3, .int a3)]) hx hb d_RD_readEnd_69 hl (by decide) rfl (fun ls hl => ?_)
      refine lv_aload hx hb d_RD_readEnd_71 (lv_at hl 0 rfl) ?_
      refine lv_lload hx hb d_RD_readEnd_73 (lv_at hl 2 rfl) ?_
      obtain ⟨hk23, h⟩ := xg h
      obtain ⟨q25, e24, h⟩ := xb h
      refine xc_i (va_runV (As := [.long v15]) (rest := []) ⟨hx, hb, hml, hown, hts⟩ (c_RO_find l D lay cA adK adV s0 S16 (i20 + 2 + 1 + 3 * (5 : Int32).toNatClampNeg) v15 q25 e24) (cwV 1 hts (xT_V wd_638 wd_556 wd_557 wd_5 wd_558) rfl rfl rfl (by decide +kernel) ⟨Nat.le_of_ble_eq_true rfl, Nat.le_of_ble_eq_true rfl⟩) (xpV E hP hS (xR_lt hk23).1 (xc_RO _ _ _ _ hk23) rfl) rfl rfl hl.1 rfl (lv_room (Nat.le_of_ble_eq_true rfl)) d_RD_readEnd_75 ⟨Nat.le_of_ble_eq_true rfl, Nat.le_of_ble_eq_true rfl⟩) hS (fun H locs hP hS => ?_)
      refine lv_istore (lv' := [(9, .int q25), (8, .ref (lay (i20 + 2 + 1 + 3 * (5 : Int32).toNatClampNeg))), (7, .ref (lay i20)), (5, .long v15), (4, .int v5), (0, .ref (lay 179)), (1, .ref (adK a1)), (2, .int a2), (3, .int a3)]) hx hb d_RD_readEnd_78 hl (by decide) rfl (fun ls hl => ?_)
      refine lv_iload hx hb d_RD_readEnd_80 (lv_at hl 0 rfl) ?_
      refine lv_iconst (v := (-1 : Int32)) hx hb d_RD_readEnd_82 (by decide) ?_
      refine lv_icmp_ne (tgt := 95) hx hb d_RD_readEnd_83 (by decide) (fun c_31 => ?_) (fun c_31 => ?_)
      · have h := xif_f c_31 h
        exact k_RD_readEnd_95 l hq C E S16 a2 a3 v5 (i20 + 2 + 1 + 3 * (5 : Int32).toNatClampNeg) q25 _ h H locs ls hP hS (lv_sub hl [5, 7, 8, 4, 1, 0] rfl)
      · have h := xif_t c_31 h
        refine lv_aload_n hx hb d_RD_readEnd_86 rfl (lv_at hl 5 rfl) ?_
        refine va_get (v := .ref (lay 2)) (C := R_RD) (T := F_RD) (N := 4) hx hb hts i_RD hown hK hP 179 (xw_at (by decide) (xc_179 _ _ _ _)) rfl 0 (by decide) (hts _ wd_169) (fun _ h9 => h9) rfl d_RD_readEnd_87 ?_
        refine lv_bipush (v := (6 : Int32)) hx hb d_RD_readEnd_90 (by decide) ?_
        obtain ⟨q27, e26, h⟩ := xb h
        refine xk_v (xrunV (As := [.int (6 : Int32)]) (rest := []) ⟨hx, hb, hml, hown, hts⟩ (c_WO_fail l hq D lay cA adK adV s0 S16 (6 : Int32) q27 e26) (cwV 1 hts (xT_V wd_502 wd_386 wd_387 wd_2 wd_388) rfl rfl rfl (by decide +kernel) ⟨Nat.le_of_ble_eq_true rfl, Nat.le_of_ble_eq_true rfl⟩) (xpV E hP hS (by decide) (xc_2 _ _ _ _) rfl) rfl rfl hl.1 rfl (lv_room (Nat.le_of_ble_eq_true rfl)) d_RD_readEnd_92 ⟨Nat.le_of_ble_eq_true rfl, Nat.le_of_ble_eq_true rfl⟩) hS hnh hlk (fun S9 e9 => by subst e9; exact (Option.some.inj h).symm) (fun v28 S29 w30 H locs hP hS => ?_)
        subst w30
        dsimp only [xT2] at h
        exact k_RD_readEnd_95 l hq C E S29 a2 a3 v5 (i20 + 2 + 1 + 3 * (5 : Int32).toNatClampNeg) q25 _ h H locs ls hP hS (lv_sub hl [5, 7, 8, 4, 1, 0] rfl)
  · have h := xif_f c_37 h
    refine lv_aload_n hx hb d_RD_readEnd_11 rfl (lv_at hl 0 rfl) ?_
    refine va_get (v := .ref (lay 2)) (C := R_RD) (T := F_RD) (N := 4) hx hb hts i_RD hown hK hP 179 (xw_at (by decide) (xc_179 _ _ _ _)) rfl 0 (by decide) (hts _ wd_169) (fun _ h9 => h9) rfl d_RD_readEnd_12 ?_
    obtain ⟨q33, e32, h⟩ := xb h
    refine xk_v (xrunV (As := []) (rest := []) ⟨hx, hb, hml, hown, hts⟩ (c_WO_next l hq D lay cA adK adV s0 S q33 e32) (cwV 0 hts (xT_V wd_522 wd_285 wd_286 wd_2 wd_287) rfl rfl rfl (by decide +kernel) ⟨Nat.le_of_ble_eq_true rfl, Nat.le_of_ble_eq_true rfl⟩) (xpV E hP hS (by decide) (xc_2 _ _ _ _) rfl) rfl rfl hl.1 rfl (lv_room (Nat.le_of_ble_eq_true rfl)) d_RD_readEnd_15 ⟨Nat.le_of_ble_eq_true rfl, Nat.le_of_ble_eq_true rfl⟩) hS hnh hlk (fun S9 e9 => by subst e9; exact (Option.some.inj h).symm) (fun v34 S35 w36 H locs hP hS => ?_)
    subst w36
    dsimp only [xT2] at h
    refine lv_iconst (v := (-1 : Int32)) hx hb d_RD_readEnd_18 (by decide) ?_
    have h9 := Option.some.inj h
    subst h9
    exact xret (W.iret (v := (-1 : Int32)) hx hb hr (fun t ht hW => ⟨_, rfl, ⟨⟨(-1 : Int32), S35, rfl, rfl, by show va_P D xcl _ t.heap; rw [ht]; exact hP⟩, hS.F ht⟩⟩) hS.2.2 d_RD_readEnd_19)
theorem c_RD_readEnd (l : Launch) (hq : l.stackTraces = false) (D : va_G) (lay : Nat → Nat) (cA : Nat → ClassId) (adK adV : Nat → Nat) (s0 : State) (S : XS) (a1 : Nat) (a2 : Int32) (a3 : Int32) (r : (Int32 × XS) ⊕ XS) (h : f_RD_readEnd S a1 a2 a3 = some r) : MetX l y_RD_readEnd (.code y_RD_readEnd b_RD_readEnd 10 ((Option.some Jvm.ClassFile.FieldType.int)) :: xT) rm_RD_readEnd (xPc D lay cA adK adV s0 S [.ref (lay 179), .ref (adK a1), .int a2, .int a3]) (xri D lay cA r) (xrt D lay cA r) 0 0 1 6 (xI lay) := by
  refine MetX.ofW (cc := b_RD_readEnd) (maxL := 10) (ret := (Option.some Jvm.ClassFile.FieldType.int)) (by decide +kernel) rfl ?_
  intro p e s m args below meth c s₁ B hml hv
  obtain ⟨rfl, hP, E⟩ := hv
  have C := xB_of B hml
  have hl := lv_entry ([.ref (lay 179), .ref (adK a1), .int a2, .int a3]) (n := 10) (Nat.le_of_ble_eq_true rfl)
  rw [lg_entry_eq]
  generalize (lg_sl ([.ref (lay 179), .ref (adK a1), .int a2, .int a3]) ++ List.replicate (10 - (lg_sl ([.ref (lay 179), .ref (adK a1), .int a2, .int a3])).length) Slot.unset).toArray = ls at hl ⊢
  exact k_RD_readEnd l hq C E S a1 a2 a3 r h s.heap [] ls hP va_S.rf hl
/-! ConfigTexts$Reader.readGoals(I)V -/
def rm_RD_readGoals : Room := { frames := 10, cells := 1, slots := 6, locals := 191 }
theorem d_RD_readGoals_0 : decode b_RD_readGoals 0 = .ok (.aload_n 0, 1) := by decide +kernel
theorem d_RD_readGoals_1 : decode b_RD_readGoals 1 = .ok (.getfield 15, 3) := by decide +kernel
theorem d_RD_readGoals_4 : decode b_RD_readGoals 4 = .ok (.getfield 194, 3) := by decide +kernel
theorem d_RD_readGoals_7 : decode b_RD_readGoals 7 = .ok (.astore_n 2, 1) := by decide +kernel
theorem d_RD_readGoals_8 : decode b_RD_readGoals 8 = .ok (.iconst 0, 1) := by decide +kernel
theorem d_RD_readGoals_9 : decode b_RD_readGoals 9 = .ok (.istore_n 3, 1) := by decide +kernel
theorem d_RD_readGoals_10 : decode b_RD_readGoals 10 = .ok (.iconst 0, 1) := by decide +kernel
theorem d_RD_readGoals_11 : decode b_RD_readGoals 11 = .ok (.istore 4, 2) := by decide +kernel
theorem d_RD_readGoals_13 : decode b_RD_readGoals 13 = .ok (.iconst 1, 1) := by decide +kernel
theorem d_RD_readGoals_14 : decode b_RD_readGoals 14 = .ok (.istore 5, 2) := by decide +kernel
theorem d_RD_readGoals_16 : decode b_RD_readGoals 16 = .ok (.iconst 0, 1) := by decide +kernel
theorem d_RD_readGoals_17 : decode b_RD_readGoals 17 = .ok (.istore 6, 2) := by decide +kernel
theorem d_RD_readGoals_19 : decode b_RD_readGoals 19 = .ok (.iload 6, 2) := by decide +kernel
theorem d_RD_readGoals_21 : decode b_RD_readGoals 21 = .ok (.iconst 4, 1) := by decide +kernel
theorem d_RD_readGoals_22 : decode b_RD_readGoals 22 = .ok (.if_icmp .gt 103, 3) := by decide +kernel
theorem d_RD_readGoals_25 : decode b_RD_readGoals 25 = .ok (.iload 5, 2) := by decide +kernel
theorem d_RD_readGoals_27 : decode b_RD_readGoals 27 = .ok (.ifCond .eq 98, 3) := by decide +kernel
theorem d_RD_readGoals_30 : decode b_RD_readGoals 30 = .ok (.iload 4, 2) := by decide +kernel
theorem d_RD_readGoals_32 : decode b_RD_readGoals 32 = .ok (.iconst 4, 1) := by decide +kernel
theorem d_RD_readGoals_33 : decode b_RD_readGoals 33 = .ok (.if_icmp .ne 11, 3) := by decide +kernel
theorem d_RD_readGoals_36 : decode b_RD_readGoals 36 = .ok (.aload_n 0, 1) := by decide +kernel
theorem d_RD_readGoals_37 : decode b_RD_readGoals 37 = .ok (.getfield 9, 3) := by decide +kernel
theorem d_RD_readGoals_40 : decode b_RD_readGoals 40 = .ok (.iconst 4, 1) := by decide +kernel
theorem d_RD_readGoals_41 : decode b_RD_readGoals 41 = .ok (.invokevirtual 98, 3) := by decide +kernel
theorem d_RD_readGoals_44 : decode b_RD_readGoals 44 = .ok (.aload_n 0, 1) := by decide +kernel
theorem d_RD_readGoals_45 : decode b_RD_readGoals 45 = .ok (.ldc 214, 2) := by decide +kernel
theorem d_RD_readGoals_47 : decode b_RD_readGoals 47 = .ok (.iconst 0, 1) := by decide +kernel
theorem d_RD_readGoals_48 : decode b_RD_readGoals 48 = .ok (.iload_n 1, 1) := by decide +kernel
theorem d_RD_readGoals_49 : decode b_RD_readGoals 49 = .ok (.invokevirtual 202, 3) := by decide +kernel
theorem d_RD_readGoals_52 : decode b_RD_readGoals 52 = .ok (.istore 7, 2) := by decide +kernel
theorem d_RD_readGoals_54 : decode b_RD_readGoals 54 = .ok (.iload_n 3, 1) := by decide +kernel
theorem d_RD_readGoals_55 : decode b_RD_readGoals 55 = .ok (.ifCond .ne 9, 3) := by decide +kernel
theorem d_RD_readGoals_58 : decode b_RD_readGoals 58 = .ok (.iload 7, 2) := by decide +kernel
theorem d_RD_readGoals_60 : decode b_RD_readGoals 60 = .ok (.iconst (-1), 1) := by decide +kernel
theorem d_RD_readGoals_61 : decode b_RD_readGoals 61 = .ok (.if_icmp .ne 7, 3) := by decide +kernel
theorem d_RD_readGoals_64 : decode b_RD_readGoals 64 = .ok (.iconst 1, 1) := by decide +kernel
theorem d_RD_readGoals_65 : decode b_RD_readGoals 65 = .ok (.goto 4, 3) := by decide +kernel
theorem d_RD_readGoals_68 : decode b_RD_readGoals 68 = .ok (.iconst 0, 1) := by decide +kernel
theorem d_RD_readGoals_69 : decode b_RD_readGoals 69 = .ok (.istore_n 3, 1) := by decide +kernel
theorem d_RD_readGoals_70 : decode b_RD_readGoals 70 = .ok (.aload_n 2, 1) := by decide +kernel
theorem d_RD_readGoals_71 : decode b_RD_readGoals 71 = .ok (.iconst 4, 1) := by decide +kernel
theorem d_RD_readGoals_72 : decode b_RD_readGoals 72 = .ok (.iload 4, 2) := by decide +kernel
theorem d_RD_readGoals_74 : decode b_RD_readGoals 74 = .ok (.iadd, 1) := by decide +kernel
theorem d_RD_readGoals_75 : decode b_RD_readGoals 75 = .ok (.iload 7, 2) := by decide +kernel
theorem d_RD_readGoals_77 : decode b_RD_readGoals 77 = .ok (.invokevirtual 147, 3) := by decide +kernel
theorem d_RD_readGoals_80 : decode b_RD_readGoals 80 = .ok (.iinc 4 1, 3) := by decide +kernel
theorem d_RD_readGoals_83 : decode b_RD_readGoals 83 = .ok (.iload_n 1, 1) := by decide +kernel
theorem d_RD_readGoals_84 : decode b_RD_readGoals 84 = .ok (.iconst 1, 1) := by decide +kernel
theorem d_RD_readGoals_85 : decode b_RD_readGoals 85 = .ok (.if_icmp .eq 19, 3) := by decide +kernel
theorem d_RD_readGoals_88 : decode b_RD_readGoals 88 = .ok (.aload_n 0, 1) := by decide +kernel
theorem d_RD_readGoals_89 : decode b_RD_readGoals 89 = .ok (.getfield 9, 3) := by decide +kernel
theorem d_RD_readGoals_92 : decode b_RD_readGoals 92 = .ok (.ldc 216, 2) := by decide +kernel
theorem d_RD_readGoals_94 : decode b_RD_readGoals 94 = .ok (.invokevirtual 51, 3) := by decide +kernel
theorem d_RD_readGoals_97 : decode b_RD_readGoals 97 = .ok (.ifCond .eq 7, 3) := by decide +kernel
theorem d_RD_readGoals_100 : decode b_RD_readGoals 100 = .ok (.iconst 1, 1) := by decide +kernel
theorem d_RD_readGoals_101 : decode b_RD_readGoals 101 = .ok (.goto 4, 3) := by decide +kernel
theorem d_RD_readGoals_104 : decode b_RD_readGoals 104 = .ok (.iconst 0, 1) := by decide +kernel
theorem d_RD_readGoals_105 : decode b_RD_readGoals 105 = .ok (.istore 5, 2) := by decide +kernel
theorem d_RD_readGoals_107 : decode b_RD_readGoals 107 = .ok (.iload 5, 2) := by decide +kernel
theorem d_RD_readGoals_109 : decode b_RD_readGoals 109 = .ok (.ifCond .eq 10, 3) := by decide +kernel
theorem d_RD_readGoals_112 : decode b_RD_readGoals 112 = .ok (.aload_n 0, 1) := by decide +kernel
theorem d_RD_readGoals_113 : decode b_RD_readGoals 113 = .ok (.getfield 9, 3) := by decide +kernel
theorem d_RD_readGoals_116 : decode b_RD_readGoals 116 = .ok (.invokevirtual 114, 3) := by decide +kernel
theorem d_RD_readGoals_119 : decode b_RD_readGoals 119 = .ok (.iinc 6 1, 3) := by decide +kernel
theorem d_RD_readGoals_122 : decode b_RD_readGoals 122 = .ok (.goto (-103), 3) := by decide +kernel
theorem d_RD_readGoals_125 : decode b_RD_readGoals 125 = .ok (.aload_n 2, 1) := by decide +kernel
theorem d_RD_readGoals_126 : decode b_RD_readGoals 126 = .ok (.iconst 3, 1) := by decide +kernel
theorem d_RD_readGoals_127 : decode b_RD_readGoals 127 = .ok (.iload 4, 2) := by decide +kernel
theorem d_RD_readGoals_129 : decode b_RD_readGoals 129 = .ok (.invokevirtual 147, 3) := by decide +kernel
theorem d_RD_readGoals_132 : decode b_RD_readGoals 132 = .ok (.iload_n 3, 1) := by decide +kernel
theorem d_RD_readGoals_133 : decode b_RD_readGoals 133 = .ok (.ifCond .eq 16, 3) := by decide +kernel
theorem d_RD_readGoals_136 : decode b_RD_readGoals 136 = .ok (.aload_n 0, 1) := by decide +kernel
theorem d_RD_readGoals_137 : decode b_RD_readGoals 137 = .ok (.getfield 15, 3) := by decide +kernel
theorem d_RD_readGoals_140 : decode b_RD_readGoals 140 = .ok (.dup, 1) := by decide +kernel
theorem d_RD_readGoals_141 : decode b_RD_readGoals 141 = .ok (.getfield 218, 3) := by decide +kernel
theorem d_RD_readGoals_144 : decode b_RD_readGoals 144 = .ok (.iconst 1, 1) := by decide +kernel
theorem d_RD_readGoals_145 : decode b_RD_readGoals 145 = .ok (.iadd, 1) := by decide +kernel
theorem d_RD_readGoals_146 : decode b_RD_readGoals 146 = .ok (.putfield 218, 3) := by decide +kernel
theorem d_RD_readGoals_149 : decode b_RD_readGoals 149 = .ok (.return_, 1) := by decide +kernel
def f_RD_readGoals_125 (S : XS) (a3 : Int32) (a4 : Int32) : Option ((Unit × XS) ⊕ XS) :=
  (f_RO_setLast S 173 (3 : Int32) a4).bind fun q168 => if a3 = 0 then (some (.inl ((), q168))) else (some (.inl ((), xpi q168 3 5 ((xgi q168 3 5) + (1 : Int32)))))
set_option maxHeartbeats 4000000 in
set_option maxRecDepth 100000 in
theorem k_RD_readGoals_125 (l : Launch) (hq : l.stackTraces = false) {p : Program} {e : Env} {s : State} {m : MethodId} {args : Array Value} {below : List Frame} {meth : Method} {c : Code} {D : va_G} {lay : Nat → Nat} {cA : Nat → ClassId} {adK adV : Nat → Nat} {s0 : State} (C : xB p s m args meth c R_RD b_RD_readGoals ((Option.none : Option Jvm.ClassFile.FieldType)) 8) (E : xE D lay cA adK adV s0 s s.heap) : ∀ (S : XS) (a3 : Int32) (a4 : Int32) (r : (Unit × XS) ⊕ XS) (_ : f_RD_readGoals_125 S a3 a4 = some r) (H : Heap) (locs : List Loc) (ls : Array Slot), va_P D xcl (xw lay cA S) H → va_S (xI lay) s.heap H locs → lv_has ls 8 [(0, .ref (lay 179)), (2, .ref (lay 173)), (3, .int a3), (4, .int a4)] → W p l e rm_RD_readGoals s m args below meth c H locs 0 0 (XF below (xrv D lay cA r) (xrt D lay cA r) s 0 0 1 6 (xI lay)) (F0 m 125 ls []) := by
  obtain ⟨hx, hb, hr, hml, hown, hts, hlk, hnh⟩ := id C
  have hK := E.K
  intro S a3 a4 r h H locs ls hP hS hl
  unfold f_RD_readGoals_125 at h
  refine lv_aload_n hx hb d_RD_readGoals_125 rfl (lv_at hl 1 rfl) ?_
  refine lv_iconst (v := (3 : Int32)) hx hb d_RD_readGoals_126 (by decide) ?_
  refine lv_iload hx hb d_RD_readGoals_127 (lv_at hl 3 rfl) ?_
  obtain ⟨q168, e167, h⟩ := xb h
  refine xc_v (va_runV (As := [.int (3 : Int32), .int a4]) (rest := []) ⟨hx, hb, hml, hown, hts⟩ (c_RO_setLast l D lay cA adK adV s0 S 173 (3 : Int32) a4 q168 e167) (cwV 2 hts (xT_V wd_565 wd_566 wd_567 wd_5 wd_568) rfl rfl rfl (by decide +kernel) ⟨Nat.le_of_ble_eq_true rfl, Nat.le_of_ble_eq_true rfl⟩) (xpV E hP hS (xR_lt (by decide : xR 173)).1 (xc_RO _ _ _ _ (by decide : xR 173)) rfl) rfl rfl hl.1 rfl (lv_room (Nat.le_of_ble_eq_true rfl)) d_RD_readGoals_129 ⟨Nat.le_of_ble_eq_true rfl, Nat.le_of_ble_eq_true rfl⟩) hS (fun H locs hP hS => ?_)
  refine lv_iload_n hx hb d_RD_readGoals_132 rfl (lv_at hl 2 rfl) ?_
  refine lv_if_eq (tgt := 149) hx hb d_RD_readGoals_133 (by decide) (fun c_169 => ?_) (fun c_169 => ?_)
  · have h := xif_t c_169 h
    have h9 := Option.some.inj h
    subst h9
    exact xret (W.vret hx hb hr (fun t ht hW => ⟨_, rfl, ⟨⟨(), q168, rfl, rfl, by show va_P D xcl _ t.heap; rw [ht]; exact hP⟩, hS.F ht⟩⟩) hS.2.2 d_RD_readGoals_149)
  · have h := xif_f c_169 h
    refine lv_aload_n hx hb d_RD_readGoals_136 rfl (lv_at hl 0 rfl) ?_
    refine va_get (v := .ref (lay 3)) (C := R_RD) (T := F_RD) (N := 4) hx hb hts i_RD hown hK hP 179 (xw_at (by decide) (xc_179 _ _ _ _)) rfl 1 (by decide) (hts _ wd_170) (fun _ h9 => h9) rfl d_RD_readGoals_137 ?_
    refine lv_dup hx hb d_RD_readGoals_140 rfl ?_
    refine va_getN (v := .int (xgi q168 3 5)) (C := R_CF) (T := F_CF) (N := 7) hx hb hts i_CF hown hK hP 3 (xw_at (by decide) (xc_3 _ _ _ _)) rfl 5 (by decide) (E.nest wn_145) (fun _ h9 => h9) rfl d_RD_readGoals_141 ?_
    refine lv_iconst (v := (1 : Int32)) hx hb d_RD_readGoals_144 (by decide) ?_
    refine lv_iadd hx hb d_RD_readGoals_145 ?_
    refine xput_CF_5N hx hb hts hown E hP hS (E.nest wn_145) d_RD_readGoals_146 (fun H locs hP hS => ?_)
    have h9 := Option.some.inj h
    subst h9
    exact xret (W.vret hx hb hr (fun t ht hW => ⟨_, rfl, ⟨⟨(), (xpi q168 3 5 ((xgi q168 3 5) + (1 : Int32))), rfl, rfl, by show va_P D xcl _ t.heap; rw [ht]; exact hP⟩, hS.F ht⟩⟩) hS.2.2 d_RD_readGoals_149)
def f_RD_readGoals_19 : Nat → XS → Int32 → Int32 → Int32 → Int32 → Int32 → Option ((Unit × XS) ⊕ XS)
  | 0, _, _, _, _, _, _ => none
  | n + 1, S, a1, a3, a4, a5, a6 =>
    if (4 : Int32) < a6 then (f_RD_readGoals_125 S a3 a4) else (if a5 = 0 then (f_RD_readGoals_125 S a3 a4) else (if a4 = (4 : Int32) then ((f_WO_fail S (4 : Int32)).bind (xT2 fun _ S83 => (f_RD_readEnd S83 25 (0 : Int32) a1).bind (xT2 fun v87 S88 => if a3 = 0 then (if v87 = (-1 : Int32) then ((f_RO_setLast S88 173 ((4 : Int32) + a4) v87).bind fun q139 => if a1 = (1 : Int32) then (if (0 : Int32) = 0 then (f_RD_readGoals_19 n q139 a1 (1 : Int32) (a4 + (1 : Int32)) (0 : Int32) (a6 + (1 : Int32))) else ((f_WO_next q139).bind (xT2 fun _ S143 => f_RD_readGoals_19 n S143 a1 (1 : Int32) (a4 + (1 : Int32)) (0 : Int32) (a6 + (1 : Int32))))) else ((f_WO_is q139 26).bind fun q147 => if q147 = 0 then (if (0 : Int32) = 0 then (f_RD_readGoals_19 n q139 a1 (1 : Int32) (a4 + (1 : Int32)) (0 : Int32) (a6 + (1 : Int32))) else ((f_WO_next q139).bind (xT2 fun _ S151 => f_RD_readGoals_19 n S151 a1 (1 : Int32) (a4 + (1 : Int32)) (0 : Int32) (a6 + (1 : Int32))))) else (if (1 : Int32) = 0 then (f_RD_readGoals_19 n q139 a1 (1 : Int32) (a4 + (1 : Int32)) (1 : Int32) (a6 + (1 : Int32))) else ((f_WO_next q139).bind (xT2 fun _ S157 => f_RD_readGoals_19 n S157 a1 (1 : Int32) (a4 + (1 : Int32)) (1 : Int32) (a6 + (1 : Int32))))))) else ((f_RO_setLast S88 173 ((4 : Int32) + a4) v87).bind fun q115 => if a1 = (1 : Int32) then (if (0 : Int32) = 0 then (f_RD_readGoals_19 n q115 a1 (0 : Int32) (a4 + (1 : Int32)) (0 : Int32) (a6 + (1 : Int32))) else ((f_WO_next q115).bind (xT2 fun _ S119 => f_RD_readGoals_19 n S119 a1 (0 : Int32) (a4 + (1 : Int32)) (0 : Int32) (a6 + (1 : Int32))))) else ((f_WO_is q115 26).bind fun q123 => if q123 = 0 then (if (0 : Int32) = 0 then (f_RD_readGoals_19 n q115 a1 (0 : Int32) (a4 + (1 : Int32)) (0 : Int32) (a6 + (1 : Int32))) else ((f_WO_next q115).bind (xT2 fun _ S127 => f_RD_readGoals_19 n S127 a1 (0 : Int32) (a4 + (1 : Int32)) (0 : Int32) (a6 + (1 : Int32))))) else (if (1 : Int32) = 0 then (f_RD_readGoals_19 n q115 a1 (0 : Int32) (a4 + (1 : Int32)) (1 : Int32) (a6 + (1 : Int32))) else ((f_WO_next q115).bind (xT2 fun _ S133 => f_RD_readGoals_19 n S133 a1 (0 : Int32) (a4 + (1 : Int32)) (1 : Int32) (a6 + (1 : Int32)))))))) else ((f_RO_setLast S88 173 ((4 : Int32) + a4) v87).bind fun q91 => if a1 = (1 : Int32) then (if (0 : Int32) = 0 then (f_RD_readGoals_19 n q91 a1 (1 : Int32) (a4 + (1 : Int32)) (0 : Int32) (a6 + (1 : Int32))) else ((f_WO_next q91).bind (xT2 fun _ S95 => f_RD_readGoals_19 n S95 a1 (1 : Int32) (a4 + (1 : Int32)) (0 : Int32) (a6 + (1 : Int32))))) else ((f_WO_is q91 26).bind fun q99 => if q99 = 0 then (if (0 : Int32) = 0 then (f_RD_readGoals_19 n q91 a1 (1 : Int32) (a4 + (1 : Int32)) (0 : Int32) (a6 + (1 : Int32))) else ((f_WO_next q91).bind (xT2 fun _ S103 => f_RD_readGoals_19 n S103 a1 (1 : Int32) (a4 + (1 : Int32)) (0 : Int32) (a6 + (1 : Int32))))) else (if (1 : Int32) = 0 then (f_RD_readGoals_19 n q91 a1 (1 : Int32) (a4 + (1 : Int32)) (1 : Int32) (a6 + (1 : Int32))) else ((f_WO_next q91).bind (xT2 fun _ S109 => f_RD_readGoals_19 n S109 a1 (1 : Int32) (a4 + (1 : Int32)) (1 : Int32) (a6 + (1 : Int32)))))))))) else ((f_RD_readEnd S 25 (0 : Int32) a1).bind (xT2 fun v3 S4 => if a3 = 0 then (if v3 = (-1 : Int32) then ((f_RO_setLast S4 173 ((4 : Int32) + a4) v3).bind fun q55 => if a1 = (1 : Int32) then (if (0 : Int32) = 0 then (f_RD_readGoals_19 n q55 a1 (1 : Int32) (a4 + (1 : Int32)) (0 : Int32) (a6 + (1 : Int32))) else ((f_WO_next q55).bind (xT2 fun _ S59 => f_RD_readGoals_19 n S59 a1 (1 : Int32) (a4 + (1 : Int32)) (0 : Int32) (a6 + (1 : Int32))))) else ((f_WO_is q55 26).bind fun q63 => if q63 = 0 then (if (0 : Int32) = 0 then (f_RD_readGoals_19 n q55 a1 (1 : Int32) (a4 + (1 : Int32)) (0 : Int32) (a6 + (1 : Int32))) else ((f_WO_next q55).bind (xT2 fun _ S67 => f_RD_readGoals_19 n S67 a1 (1 : Int32) (a4 + (1 : Int32)) (0 : Int32) (a6 + (1 : Int32))))) else (if (1 : Int32) = 0 then (f_RD_readGoals_19 n q55 a1 (1 : Int32) (a4 + (1 : Int32)) (1 : Int32) (a6 + (1 : Int32))) else ((f_WO_next q55).bind (xT2 fun _ S73 => f_RD_readGoals_19 n S73 a1 (1 : Int32) (a4 + (1 : Int32)) (1 : Int32) (a6 + (1 : Int32))))))) else ((f_RO_setLast S4 173 ((4 : Int32) + a4) v3).bind fun q31 => if a1 = (1 : Int32) then (if (0 : Int32) = 0 then (f_RD_readGoals_19 n q31 a1 (0 : Int32) (a4 + (1 : Int32)) (0 : Int32) (a6 + (1 : Int32))) else ((f_WO_next q31).bind (xT2 fun _ S35 => f_RD_readGoals_19 n S35 a1 (0 : Int32) (a4 + (1 : Int32)) (0 : Int32) (a6 + (1 : Int32))))) else ((f_WO_is q31 26).bind fun q39 => if q39 = 0 then (if (0 : Int32) = 0 then (f_RD_readGoals_19 n q31 a1 (0 : Int32) (a4 + (1 : Int32)) (0 : Int32) (a6 + (1 : Int32))) else ((f_WO_next q31).bind (xT2 fun _ S43 => f_RD_readGoals_19 n S43 a1 (0 : Int32) (a4 + (1 : Int32)) (0 : Int32) (a6 + (1 : Int32))))) else (if (1 : Int32) = 0 then (f_RD_readGoals_19 n q31 a1 (0 : Int32) (a4 + (1 : Int32)) (1 : Int32) (a6 + (1 : Int32))) else ((f_WO_next q31).bind (xT2 fun _ S49 => f_RD_readGoals_19 n S49 a1 (0 : Int32) (a4 + (1 : Int32)) (1 : Int32) (a6 + (1 : Int32)))))))) else ((f_RO_setLast S4 173 ((4 : Int32) + a4) v3).bind fun q7 => if a1 = (1 : Int32) then (if (0 : Int32) = 0 then (f_RD_readGoals_19 n q7 a1 (1 : Int32) (a4 + (1 : Int32)) (0 : Int32) (a6 + (1 : Int32))) else ((f_WO_next q7).bind (xT2 fun _ S11 => f_RD_readGoals_19 n S11 a1 (1 : Int32) (a4 + (1 : Int32)) (0 : Int32) (a6 + (1 : Int32))))) else ((f_WO_is q7 26).bind fun q15 => if q15 = 0 then (if (0 : Int32) = 0 then (f_RD_readGoals_19 n q7 a1 (1 : Int32) (a4 + (1 : Int32)) (0 : Int32) (a6 + (1 : Int32))) else ((f_WO_next q7).bind (xT2 fun _ S19 => f_RD_readGoals_19 n S19 a1 (1 : Int32) (a4 + (1 : Int32)) (0 : Int32) (a6 + (1 : Int32))))) else (if (1 : Int32) = 0 then (f_RD_readGoals_19 n q7 a1 (1 : Int32) (a4 + (1 : Int32)) (1 : Int32) (a6 + (1 : Int32))) else ((f_WO_next q7).bind (xT2 fun _ S25 => f_RD_readGoals_19 n S25 a1 (1 : Int32) (a4 + (1 : Int32)) (1 : Int32) (a6 + (1 : Int32)))))))))))
set_option maxHeartbeats 4000000 in
set_option maxRecDepth 100000 in
theorem k_RD_readGoals_19 (l : Launch) (hq : l.stackTraces = false) {p : Program} {e : Env} {s : State} {m : MethodId} {args : Array Value} {below : List Frame} {meth : Method} {c : Code} {D : va_G} {lay : Nat → Nat} {cA : Nat → ClassId} {adK adV : Nat → Nat} {s0 : State} (C : xB p s m args meth c R_RD b_RD_readGoals ((Option.none : Option Jvm.ClassFile.FieldType)) 8) (E : xE D lay cA adK adV s0 s s.heap) : ∀ (n : Nat) (S : XS) (a1 : Int32) (a3 : Int32) (a4 : Int32) (a5 : Int32) (a6 : Int32) (r : (Unit × XS) ⊕ XS) (_ : f_RD_readGoals_19 n S a1 a3 a4 a5 a6 = some r) (H : Heap) (locs : List Loc) (ls : Array Slot), va_P D xcl (xw lay cA S) H → va_S (xI lay) s.heap H locs → lv_has ls 8 [(0, .ref (lay 179)), (1, .int a1), (2, .ref (lay 173)), (3, .int a3), (4, .int a4), (5, .int a5), (6, .int a6)] → W p l e rm_RD_readGoals s m args below meth c H locs 0 0 (XF below (xrv D lay cA r) (xrt D lay cA r) s 0 0 1 6 (xI lay)) (F0 m 19 ls []) := by
  obtain ⟨hx, hb, hr, hml, hown, hts, hlk, hnh⟩ := id C
  have hK := E.K
  intro n
  induction n with
  | zero => intro S a1 a3 a4 a5 a6 r h; rw [f_RD_readGoals_19] at h; cases h
  | succ n ih =>
    intro S a1 a3 a4 a5 a6 r h H locs ls hP hS hl
    rw [f_RD_readGoals_19] at h
    refine lv_iload hx hb d_RD_readGoals_19 (lv_at hl 6 rfl) ?_
    refine lv_iconst (v := (4 : Int32)) hx hb d_RD_readGoals_21 (by decide) ?_
    refine lv_icmp_gt (tgt := 125) hx hb d_RD_readGoals_22 (by decide) (fun c_166 => ?_) (fun c_166 => ?_)
    · have h := xif_t c_166 h
      exact k_RD_readGoals_125 l hq C E S a3 a4 _ h H locs ls hP hS (lv_sub hl [0, 2, 3, 4] rfl)
    · have h := xif_f c_166 h
      refine lv_iload hx hb d_RD_readGoals_25 (lv_at hl 5 rfl) ?_
      refine lv_if_eq (tgt := 125) hx hb d_RD_readGoals_27 (by decide) (fun c_165 => ?_) (fun c_165 => ?_)
      · have h := xif_t c_165 h
        exact k_RD_readGoals_125 l hq C E S a3 a4 _ h H locs ls hP hS (lv_sub hl [0, 2, 3, 4] rfl)
      · have h := xif_f c_165 h
        refine lv_iload hx hb d_RD_readGoals_30 (lv_at hl 4 rfl) ?_
        refine lv_iconst (v := (4 : Int32)) hx hb d_RD_readGoals_32 (by decide) ?_
        refine lv_icmp_ne (tgt := 44) hx hb d_RD_readGoals_33 (by decide) (fun c_164 => ?_) (fun c_164 => ?_)
        · have h := xif_f c_164 h
          refine lv_aload_n hx hb d_RD_readGoals_44 rfl (lv_at hl 0 rfl) ?_
          refine va_ldcS hx hb hown (E.lit (List.mem_of_getElem? (i := 27) rfl : ("ConfigTexts$Reader", 214, "output", 25) ∈ xlits)) d_RD_readGoals_45 ?_
          refine lv_iconst (v := (0 : Int32)) hx hb d_RD_readGoals_47 (by decide) ?_
          refine lv_iload_n hx hb d_RD_readGoals_48 rfl (lv_at hl 1 rfl) ?_
          obtain ⟨q2, e1, h⟩ := xb h
          refine xk_i (xrunV (As := [.ref (adK 25), .int (0 : Int32), .int a1]) (rest := []) ⟨hx, hb, hml, hown, hts⟩ (c_RD_readEnd l hq D lay cA adK adV s0 S 25 (0 : Int32) a1 q2 e1) (cwV 3 hts (xT_V wd_629 wd_631 wp_16 wd_6 wd_632) rfl rfl rfl (by decide +kernel) ⟨Nat.le_of_ble_eq_true rfl, Nat.le_of_ble_eq_true rfl⟩) (xpV E hP hS (by decide) (xc_179 _ _ _ _) rfl) rfl rfl hl.1 rfl (lv_room (Nat.le_of_ble_eq_true rfl)) d_RD_readGoals_49 ⟨Nat.le_of_ble_eq_true rfl, Nat.le_of_ble_eq_true rfl⟩) hS hnh hlk (fun S9 e9 => by subst e9; exact (Option.some.inj h).symm) (fun v3 S4 w5 H locs hP hS => ?_)
          subst w5
          dsimp only [xT2] at h
          refine lv_istore (lv' := [(7, .int v3), (0, .ref (lay 179)), (1, .int a1), (2, .ref (lay 173)), (3, .int a3), (4, .int a4), (5, .int a5), (6, .int a6)]) hx hb d_RD_readGoals_52 hl (by decide) rfl (fun ls hl => ?_)
          refine lv_iload_n hx hb d_RD_readGoals_54 rfl (lv_at hl 4 rfl) ?_
          refine lv_if_ne (tgt := 64) hx hb d_RD_readGoals_55 (by decide) (fun c_79 => ?_) (fun c_79 => ?_)
          · have h := xif_f c_79 h
            refine lv_iconst (v := (1 : Int32)) hx hb d_RD_readGoals_64 (by decide) ?_
            refine lv_goto (tgt := 69) hx hb d_RD_readGoals_65 (by decide) ?_
            refine lv_istore_n (lv' := [(3, .int (1 : Int32)), (7, .int v3), (0, .ref (lay 179)), (1, .int a1), (2, .ref (lay 173)), (4, .int a4), (5, .int a5), (6, .int a6)]) hx hb d_RD_readGoals_69 rfl hl (by decide) rfl (fun ls hl => ?_)
            refine lv_aload_n hx hb d_RD_readGoals_70 rfl (lv_at hl 4 rfl) ?_
            refine lv_iconst (v := (4 : Int32)) hx hb d_RD_readGoals_71 (by decide) ?_
            refine lv_iload hx hb d_RD_readGoals_72 (lv_at hl 5 rfl) ?_
            refine lv_iadd hx hb d_RD_readGoals_74 ?_
            refine lv_iload hx hb d_RD_readGoals_75 (lv_at hl 1 rfl) ?_
            obtain ⟨q7, e6, h⟩ := xb h
            refine xc_v (va_runV (As := [.int ((4 : Int32) + a4), .int v3]) (rest := []) ⟨hx, hb, hml, hown, hts⟩ (c_RO_setLast l D lay cA adK adV s0 S4 173 ((4 : Int32) + a4) v3 q7 e6) (cwV 2 hts (xT_V wd_565 wd_566 wd_567 wd_5 wd_568) rfl rfl rfl (by decide +kernel) ⟨Nat.le_of_ble_eq_true rfl, Nat.le_of_ble_eq_true rfl⟩) (xpV E hP hS (xR_lt (by decide : xR 173)).1 (xc_RO _ _ _ _ (by decide : xR 173)) rfl) rfl rfl hl.1 rfl (lv_room (Nat.le_of_ble_eq_true rfl)) d_RD_readGoals_77 ⟨Nat.le_of_ble_eq_true rfl, Nat.le_of_ble_eq_true rfl⟩) hS (fun H locs hP hS => ?_)
            refine lv_iinc (v := a4 + (1 : Int32)) (lv' := [(4, .int (a4 + (1 : Int32))), (3, .int (1 : Int32)), (7, .int v3), (0, .ref (lay 179)), (1, .int a1), (2, .ref (lay 173)), (5, .int a5), (6, .int a6)]) hx hb d_RD_readGoals_80 hl (k := 5) rfl (by rfl) (by decide) rfl (fun ls hl => ?_)
            refine lv_iload_n hx hb d_RD_readGoals_83 rfl (lv_at hl 4 rfl) ?_
            refine lv_iconst (v := (1 : Int32)) hx hb d_RD_readGoals_84 (by decide) ?_
            refine lv_icmp_eq (tgt := 104) hx hb d_RD_readGoals_85 (by decide) (fun c_29 => ?_) (fun c_29 => ?_)
            · have h := xif_t c_29 h
              refine lv_iconst (v := (0 : Int32)) hx hb d_RD_readGoals_104 (by decide) ?_
              refine lv_istore (lv' := [(5, .int (0 : Int32)), (4, .int (a4 + (1 : Int32))), (3, .int (1 : Int32)), (7, .int v3), (0, .ref (lay 179)), (1, .int a1), (2, .ref (lay 173)), (6, .int a6)]) hx hb d_RD_readGoals_105 hl (by decide) rfl (fun ls hl => ?_)
              refine lv_iload hx hb d_RD_readGoals_107 (lv_at hl 0 rfl) ?_
              refine lv_if_eq (tgt := 119) hx hb d_RD_readGoals_109 (by decide) (fun c_13 => ?_) (fun c_13 => ?_)
              · have h := xif_t c_13 h
                refine lv_iinc (v := a6 + (1 : Int32)) (lv' := [(6, .int (a6 + (1 : Int32))), (5, .int (0 : Int32)), (4, .int (a4 + (1 : Int32))), (3, .int (1 : Int32)), (7, .int v3), (0, .ref (lay 179)), (1, .int a1), (2, .ref (lay 173))]) hx hb d_RD_readGoals_119 hl (k := 7) rfl (by rfl) (by decide) rfl (fun ls hl => ?_)
                refine lv_goto (tgt := 19) hx hb d_RD_readGoals_122 (by decide) ?_
                exact ih q7 a1 (1 : Int32) (a4 + (1 : Int32)) (0 : Int32) (a6 + (1 : Int32)) _ h H locs ls hP hS (lv_sub hl [5, 6, 7, 3, 2, 1, 0] rfl)
              · have h := xif_f c_13 h
                refine lv_aload_n hx hb d_RD_readGoals_112 rfl (lv_at hl 4 rfl) ?_
                refine va_get (v := .ref (lay 2)) (C := R_RD) (T := F_RD) (N := 4) hx hb hts i_RD hown hK hP 179 (xw_at (by decide) (xc_179 _ _ _ _)) rfl 0 (by decide) (hts _ wd_169) (fun _ h9 => h9) rfl d_RD_readGoals_113 ?_
                obtain ⟨q9, e8, h⟩ := xb h
                refine xk_v (xrunV (As := []) (rest := []) ⟨hx, hb, hml, hown, hts⟩ (c_WO_next l hq D lay cA adK adV s0 q7 q9 e8) (cwV 0 hts (xT_V wd_522 wd_285 wd_286 wd_2 wd_287) rfl rfl rfl (by decide +kernel) ⟨Nat.le_of_ble_eq_true rfl, Nat.le_of_ble_eq_true rfl⟩) (xpV E hP hS (by decide) (xc_2 _ _ _ _) rfl) rfl rfl hl.1 rfl (lv_room (Nat.le_of_ble_eq_true rfl)) d_RD_readGoals_116 ⟨Nat.le_of_ble_eq_true rfl, Nat.le_of_ble_eq_true rfl⟩) hS hnh hlk (fun S9 e9 => by subst e9; exact (Option.some.inj h).symm) (fun v10 S11 w12 H locs hP hS => ?_)
                subst w12
                dsimp only [xT2] at h
                refine lv_iinc (v := a6 + (1 : Int32)) (lv' := [(6, .int (a6 + (1 : Int32))), (5, .int (0 : Int32)), (4, .int (a4 + (1 : Int32))), (3, .int (1 : Int32)), (7, .int v3), (0, .ref (lay 179)), (1, .int a1), (2, .ref (lay 173))]) hx hb d_RD_readGoals_119 hl (k := 7) rfl (by rfl) (by decide) rfl (fun ls hl => ?_)
                refine lv_goto (tgt := 19) hx hb d_RD_readGoals_122 (by decide) ?_
                exact ih S11 a1 (1 : Int32) (a4 + (1 : Int32)) (0 : Int32) (a6 + (1 : Int32)) _ h H locs ls hP hS (lv_sub hl [5, 6, 7, 3, 2, 1, 0] rfl)
            · have h := xif_f c_29 h
              refine lv_aload_n hx hb d_RD_readGoals_88 rfl (lv_at hl 3 rfl) ?_
              refine va_get (v := .ref (lay 2)) (C := R_RD) (T := F_RD) (N := 4) hx hb hts i_RD hown hK hP 179 (xw_at (by decide) (xc_179 _ _ _ _)) rfl 0 (by decide) (hts _ wd_169) (fun _ h9 => h9) rfl d_RD_readGoals_89 ?_
              refine va_ldcS hx hb hown (E.lit (List.mem_of_getElem? (i := 28) rfl : ("ConfigTexts$Reader", 216, ",", 26) ∈ xlits)) d_RD_readGoals_92 ?_
              obtain ⟨q15, e14, h⟩ := xb h
              refine xc_i (va_runV (As := [.ref (adK 26)]) (rest := []) ⟨hx, hb, hml, hown, hts⟩ (c_WO_is l D lay cA adK adV s0 q7 26 q15 e14) (cwV 1 hts (xT_V wd_536 wd_456 wd_457 wd_2 wd_458) rfl rfl rfl (by decide +kernel) ⟨Nat.le_of_ble_eq_true rfl, Nat.le_of_ble_eq_true rfl⟩) (xpV E hP hS (by decide) (xc_2 _ _ _ _) rfl) rfl rfl hl.1 rfl (lv_room (Nat.le_of_ble_eq_true rfl)) d_RD_readGoals_94 ⟨Nat.le_of_ble_eq_true rfl, Nat.le_of_ble_eq_true rfl⟩) hS (fun H locs hP hS => ?_)
              refine lv_if_eq (tgt := 104) hx hb d_RD_readGoals_97 (by decide) (fun c_28 => ?_) (fun c_28 => ?_)
              · have h := xif_t c_28 h
                refine lv_iconst (v := (0 : Int32)) hx hb d_RD_readGoals_104 (by decide) ?_
                refine lv_istore (lv' := [(5, .int (0 : Int32)), (4, .int (a4 + (1 : Int32))), (3, .int (1 : Int32)), (7, .int v3), (0, .ref (lay 179)), (1, .int a1), (2, .ref (lay 173)), (6, .int a6)]) hx hb d_RD_readGoals_105 hl (by decide) rfl (fun ls hl => ?_)
                refine lv_iload hx hb d_RD_readGoals_107 (lv_at hl 0 rfl) ?_
                refine lv_if_eq (tgt := 119) hx hb d_RD_readGoals_109 (by decide) (fun c_21 => ?_) (fun c_21 => ?_)
                · have h := xif_t c_21 h
                  refine lv_iinc (v := a6 + (1 : Int32)) (lv' := [(6, .int (a6 + (1 : Int32))), (5, .int (0 : Int32)), (4, .int (a4 + (1 : Int32))), (3, .int (1 : Int32)), (7, .int v3), (0, .ref (lay 179)), (1, .int a1), (2, .ref (lay 173))]) hx hb d_RD_readGoals_119 hl (k := 7) rfl (by rfl) (by decide) rfl (fun ls hl => ?_)
                  refine lv_goto (tgt := 19) hx hb d_RD_readGoals_122 (by decide) ?_
                  exact ih q7 a1 (1 : Int32) (a4 + (1 : Int32)) (0 : Int32) (a6 + (1 : Int32)) _ h H locs ls hP hS (lv_sub hl [5, 6, 7, 3, 2, 1, 0] rfl)
                · have h := xif_f c_21 h
                  refine lv_aload_n hx hb d_RD_readGoals_112 rfl (lv_at hl 4 rfl) ?_
                  refine va_get (v := .ref (lay 2)) (C := R_RD) (T := F_RD) (N := 4) hx hb hts i_RD hown hK hP 179 (xw_at (by decide) (xc_179 _ _ _ _)) rfl 0 (by decide) (hts _ wd_169) (fun _ h9 => h9) rfl d_RD_readGoals_113 ?_
                  obtain ⟨q17, e16, h⟩ := xb h
                  refine xk_v (xrunV (As := []) (rest := []) ⟨hx, hb, hml, hown, hts⟩ (c_WO_next l hq D lay cA adK adV s0 q7 q17 e16) (cwV 0 hts (xT_V wd_522 wd_285 wd_286 wd_2 wd_287) rfl rfl rfl (by decide +kernel) ⟨Nat.le_of_ble_eq_true rfl, Nat.le_of_ble_eq_true rfl⟩) (xpV E hP hS (by decide) (xc_2 _ _ _ _) rfl) rfl rfl hl.1 rfl (lv_room (Nat.le_of_ble_eq_true rfl)) d_RD_readGoals_116 ⟨Nat.le_of_ble_eq_true rfl, Nat.le_of_ble_eq_true rfl⟩) hS hnh hlk (fun S9 e9 => by subst e9; exact (Option.some.inj h).symm) (fun v18 S19 w20 H locs hP hS => ?_)
                  subst w20
                  dsimp only [xT2] at h
                  refine lv_iinc (v := a6 + (1 : Int32)) (lv' := [(6, .int (a6 + (1 : Int32))), (5, .int (0 : Int32)), (4, .int (a4 + (1 : Int32))), (3, .int (1 : Int32)), (7, .int v3), (0, .ref (lay 179)), (1, .int a1), (2, .ref (lay 173))]) hx hb d_RD_readGoals_119 hl (k := 7) rfl (by rfl) (by decide) rfl (fun ls hl => ?_)
                  refine lv_goto (tgt := 19) hx hb d_RD_readGoals_122 (by decide) ?_
                  exact ih S19 a1 (1 : Int32) (a4 + (1 : Int32)) (0 : Int32) (a6 + (1 : Int32)) _ h H locs ls hP hS (lv_sub hl [5, 6, 7, 3, 2, 1, 0] rfl)
              · have h := xif_f c_28 h
                refine lv_iconst (v := (1 : Int32)) hx hb d_RD_readGoals_100 (by decide) ?_
                refine lv_goto (tgt := 105) hx hb d_RD_readGoals_101 (by decide) ?_
                refine lv_istore (lv' := [(5, .int (1 : Int32)), (4, .int (a4 + (1 : Int32))), (3, .int (1 : Int32)), (7, .int v3), (0, .ref (lay 179)), (1, .int a1), (2, .ref (lay 173)), (6, .int a6)]) hx hb d_RD_readGoals_105 hl (by decide) rfl (fun ls hl => ?_)
                refine lv_iload hx hb d_RD_readGoals_107 (lv_at hl 0 rfl) ?_
                refine lv_if_eq (tgt := 119) hx hb d_RD_readGoals_109 (by decide) (fun c_27 => ?_) (fun c_27 => ?_)
                · have h := xif_t c_27 h
                  refine lv_iinc (v := a6 + (1 : Int32)) (lv' := [(6, .int (a6 + (1 : Int32))), (5, .int (1 : Int32)), (4, .int (a4 + (1 : Int32))), (3, .int (1 : Int32)), (7, .int v3), (0, .ref (lay 179)), (1, .int a1), (2, .ref (lay 173))]) hx hb d_RD_readGoals_119 hl (k := 7) rfl (by rfl) (by decide) rfl (fun ls hl => ?_)
                  refine lv_goto (tgt := 19) hx hb d_RD_readGoals_122 (by decide) ?_
                  exact ih q7 a1 (1 : Int32) (a4 + (1 : Int32)) (1 : Int32) (a6 + (1 : Int32)) _ h H locs ls hP hS (lv_sub hl [5, 6, 7, 3, 2, 1, 0] rfl)
                · have h := xif_f c_27 h
                  refine lv_aload_n hx hb d_RD_readGoals_112 rfl (lv_at hl 4 rfl) ?_
                  refine va_get (v := .ref (lay 2)) (C := R_RD) (T := F_RD) (N := 4) hx hb hts i_RD hown hK hP 179 (xw_at (by decide) (xc_179 _ _ _ _)) rfl 0 (by decide) (hts _ wd_169) (fun _ h9 => h9) rfl d_RD_readGoals_113 ?_
                  obtain ⟨q23, e22, h⟩ := xb h
                  refine xk_v (xrunV (As := []) (rest := []) ⟨hx, hb, hml, hown, hts⟩ (c_WO_next l hq D lay cA adK adV s0 q7 q23 e22) (cwV 0 hts (xT_V wd_522 wd_285 wd_286 wd_2 wd_287) rfl rfl rfl (by decide +kernel) ⟨Nat.le_of_ble_eq_true rfl, Nat.le_of_ble_eq_true rfl⟩) (xpV E hP hS (by decide) (xc_2 _ _ _ _) rfl) rfl rfl hl.1 rfl (lv_room (Nat.le_of_ble_eq_true rfl)) d_RD_readGoals_116 ⟨Nat.le_of_ble_eq_true rfl, Nat.le_of_ble_eq_true rfl⟩) hS hnh hlk (fun S9 e9 => by subst e9; exact (Option.some.inj h).symm) (fun v24 S25 w26 H locs hP hS => ?_)
                  subst w26
                  dsimp only [xT2] at h
                  refine lv_iinc (v := a6 + (1 : Int32)) (lv' := [(6, .int (a6 + (1 : Int32))), (5, .int (1 : Int32)), (4, .int (a4 + (1 : Int32))), (3, .int (1 : Int32)), (7, .int v3), (0, .ref (lay 179)), (1, .int a1), (2, .ref (lay 173))]) hx hb d_RD_readGoals_119 hl (k := 7) rfl (by rfl) (by decide) rfl (fun ls hl => ?_)
                  refine lv_goto (tgt := 19) hx hb d_RD_readGoals_122 (by decide) ?_
                  exact ih S25 a1 (1 : Int32) (a4 + (1 : Int32)) (1 : Int32) (a6 + (1 : Int32)) _ h H locs ls hP hS (lv_sub hl [5, 6, 7, 3, 2, 1, 0] rfl)
          · have h := xif_t c_79 h
            refine lv_iload hx hb d_RD_readGoals_58 (lv_at hl 0 rfl) ?_
            refine lv_iconst (v := (-1 : Int32)) hx hb d_RD_readGoals_60 (by decide) ?_
            refine lv_icmp_ne (tgt := 68) hx hb d_RD_readGoals_61 (by decide) (fun c_78 => ?_) (fun c_78 => ?_)
            · have h := xif_f c_78 h
              refine lv_iconst (v := (0 : Int32)) hx hb d_RD_readGoals_68 (by decide) ?_
              refine lv_istore_n (lv' := [(3, .int (0 : Int32)), (7, .int v3), (0, .ref (lay 179)), (1, .int a1), (2, .ref (lay 173)), (4, .int a4), (5, .int a5), (6, .int a6)]) hx hb d_RD_readGoals_69 rfl hl (by decide) rfl (fun ls hl => ?_)
              refine lv_aload_n hx hb d_RD_readGoals_70 rfl (lv_at hl 4 rfl) ?_
              refine lv_iconst (v := (4 : Int32)) hx hb d_RD_readGoals_71 (by decide) ?_
              refine lv_iload hx hb d_RD_readGoals_72 (lv_at hl 5 rfl) ?_
              refine lv_iadd hx hb d_RD_readGoals_74 ?_
              refine lv_iload hx hb d_RD_readGoals_75 (lv_at hl 1 rfl) ?_
              obtain ⟨q31, e30, h⟩ := xb h
              refine xc_v (va_runV (As := [.int ((4 : Int32) + a4), .int v3]) (rest := []) ⟨hx, hb, hml, hown, hts⟩ (c_RO_setLast l D lay cA adK adV s0 S4 173 ((4 : Int32) + a4) v3 q31 e30) (cwV 2 hts (xT_V wd_565 wd_566 wd_567 wd_5 wd_568) rfl rfl rfl (by decide +kernel) ⟨Nat.le_of_ble_eq_true rfl, Nat.le_of_ble_eq_true rfl⟩) (xpV E hP hS (xR_lt (by decide : xR 173)).1 (xc_RO _ _ _ _ (by decide : xR 173)) rfl) rfl rfl hl.1 rfl (lv_room (Nat.le_of_ble_eq_true rfl)) d_RD_readGoals_77 ⟨Nat.le_of_ble_eq_true rfl, Nat.le_of_ble_eq_true rfl⟩) hS (fun H locs hP hS => ?_)
              refine lv_iinc (v := a4 + (1 : Int32)) (lv' := [(4, .int (a4 + (1 : Int32))), (3, .int (0 : Int32)), (7, .int v3), (0, .ref (lay 179)), (1, .int a1), (2, .ref (lay 173)), (5, .int a5), (6, .int a6)]) hx hb d_RD_readGoals_80 hl (k := 5) rfl (by rfl) (by decide) rfl (fun ls hl => ?_)
              refine lv_iload_n hx hb d_RD_readGoals_83 rfl (lv_at hl 4 rfl) ?_
              refine lv_iconst (v := (1 : Int32)) hx hb d_RD_readGoals_84 (by decide) ?_
              refine lv_icmp_eq (tgt := 104) hx hb d_RD_readGoals_85 (by decide) (fun c_53 => ?_) (fun c_53 => ?_)
              · have h := xif_t c_53 h
                refine lv_iconst (v := (0 : Int32)) hx hb d_RD_readGoals_104 (by decide) ?_
                refine lv_istore (lv' := [(5, .int (0 : Int32)), (4, .int (a4 + (1 : Int32))), (3, .int (0 : Int32)), (7, .int v3), (0, .ref (lay 179)), (1, .int a1), (2, .ref (lay 173)), (6, .int a6)]) hx hb d_RD_readGoals_105 hl (by decide) rfl (fun ls hl => ?_)
                refine lv_iload hx hb d_RD_readGoals_107 (lv_at hl 0 rfl) ?_
                refine lv_if_eq (tgt := 119) hx hb d_RD_readGoals_109 (by decide) (fun c_37 => ?_) (fun c_37 => ?_)
                · have h := xif_t c_37 h
                  refine lv_iinc (v := a6 + (1 : Int32)) (lv' := [(6, .int (a6 + (1 : Int32))), (5, .int (0 : Int32)), (4, .int (a4 + (1 : Int32))), (3, .int (0 : Int32)), (7, .int v3), (0, .ref (lay 179)), (1, .int a1), (2, .ref (lay 173))]) hx hb d_RD_readGoals_119 hl (k := 7) rfl (by rfl) (by decide) rfl (fun ls hl => ?_)
                  refine lv_goto (tgt := 19) hx hb d_RD_readGoals_122 (by decide) ?_
                  exact ih q31 a1 (0 : Int32) (a4 + (1 : Int32)) (0 : Int32) (a6 + (1 : Int32)) _ h H locs ls hP hS (lv_sub hl [5, 6, 7, 3, 2, 1, 0] rfl)
                · have h := xif_f c_37 h
                  refine lv_aload_n hx hb d_RD_readGoals_112 rfl (lv_at hl 4 rfl) ?_
                  refine va_get (v := .ref (lay 2)) (C := R_RD) (T := F_RD) (N := 4) hx hb hts i_RD hown hK hP 179 (xw_at (by decide) (xc_179 _ _ _ _)) rfl 0 (by decide) (hts _ wd_169) (fun _ h9 => h9) rfl d_RD_readGoals_113 ?_
                  obtain ⟨q33, e32, h⟩ := xb h
                  refine xk_v (xrunV (As := []) (rest := []) ⟨hx, hb, hml, hown, hts⟩ (c_WO_next l hq D lay cA adK adV s0 q31 q33 e32) (cwV 0 hts (xT_V wd_522 wd_285 wd_286 wd_2 wd_287) rfl rfl rfl (by decide +kernel) ⟨Nat.le_of_ble_eq_true rfl, Nat.le_of_ble_eq_true rfl⟩) (xpV E hP hS (by decide) (xc_2 _ _ _ _) rfl) rfl rfl hl.1 rfl (lv_room (Nat.le_of_ble_eq_true rfl)) d_RD_readGoals_116 ⟨Nat.le_of_ble_eq_true rfl, Nat.le_of_ble_eq_true rfl⟩) hS hnh hlk (fun S9 e9 => by subst e9; exact (Option.some.inj h).symm) (fun v34 S35 w36 H locs hP hS => ?_)
                  subst w36
                  dsimp only [xT2] at h
                  refine lv_iinc (v := a6 + (1 : Int32)) (lv' := [(6, .int (a6 + (1 : Int32))), (5, .int (0 : Int32)), (4, .int (a4 + (1 : Int32))), (3, .int (0 : Int32)), (7, .int v3), (0, .ref (lay 179)), (1, .int a1), (2, .ref (lay 173))]) hx hb d_RD_readGoals_119 hl (k := 7) rfl (by rfl) (by decide) rfl (fun ls hl => ?_)
                  refine lv_goto (tgt := 19) hx hb d_RD_readGoals_122 (by decide) ?_
                  exact ih S35 a1 (0 : Int32) (a4 + (1 : Int32)) (0 : Int32) (a6 + (1 : Int32)) _ h H locs ls hP hS (lv_sub hl [5, 6, 7, 3, 2, 1, 0] rfl)
              · have h := xif_f c_53 h
                refine lv_aload_n hx hb d_RD_readGoals_88 rfl (lv_at hl 3 rfl) ?_
                refine va_get (v := .ref (lay 2)) (C := R_RD) (T := F_RD) (N := 4) hx hb hts i_RD hown hK hP 179 (xw_at (by decide) (xc_179 _ _ _ _)) rfl 0 (by decide) (hts _ wd_169) (fun _ h9 => h9) rfl d_RD_readGoals_89 ?_
                refine va_ldcS hx hb hown (E.lit (List.mem_of_getElem? (i := 28) rfl : ("ConfigTexts$Reader", 216, ",", 26) ∈ xlits)) d_RD_readGoals_92 ?_
                obtain ⟨q39, e38, h⟩ := xb h
                refine xc_i (va_runV (As := [.ref (adK 26)]) (rest := []) ⟨hx, hb, hml, hown, hts⟩ (c_WO_is l D lay cA adK adV s0 q31 26 q39 e38) (cwV 1 hts (xT_V wd_536 wd_456 wd_457 wd_2 wd_458) rfl rfl rfl (by decide +kernel) ⟨Nat.le_of_ble_eq_true rfl, Nat.le_of_ble_eq_true rfl⟩) (xpV E hP hS (by decide) (xc_2 _ _ _ _) rfl) rfl rfl hl.1 rfl (lv_room (Nat.le_of_ble_eq_true rfl)) d_RD_readGoals_94 ⟨Nat.le_of_ble_eq_true rfl, Nat.le_of_ble_eq_true rfl⟩) hS (fun H locs hP hS => ?_)
                refine lv_if_eq (tgt := 104) hx hb d_RD_readGoals_97 (by decide) (fun c_52 => ?_) (fun c_52 => ?_)
                · have h := xif_t c_52 h
                  refine lv_iconst (v := (0 : Int32)) hx hb d_RD_readGoals_104 (by decide) ?_
                  refine lv_istore (lv' := [(5, .int (0 : Int32)), (4, .int (a4 + (1 : Int32))), (3, .int (0 : Int32)), (7, .int v3), (0, .ref (lay 179)), (1, .int a1), (2, .ref (lay 173)), (6, .int a6)]) hx hb d_RD_readGoals_105 hl (by decide) rfl (fun ls hl => ?_)
                  refine lv_iload hx hb d_RD_readGoals_107 (lv_at hl 0 rfl) ?_
                  refine lv_if_eq (tgt := 119) hx hb d_RD_readGoals_109 (by decide) (fun c_45 => ?_) (fun c_45 => ?_)
                  · have h := xif_t c_45 h
                    refine lv_iinc (v := a6 + (1 : Int32)) (lv' := [(6, .int (a6 + (1 : Int32))), (5, .int (0 : Int32)), (4, .int (a4 + (1 : Int32))), (3, .int (0 : Int32)), (7, .int v3), (0, .ref (lay 179)), (1, .int a1), (2, .ref (lay 173))]) hx hb d_RD_readGoals_119 hl (k := 7) rfl (by rfl) (by decide) rfl (fun ls hl => ?_)
                    refine lv_goto (tgt := 19) hx hb d_RD_readGoals_122 (by decide) ?_
                    exact ih q31 a1 (0 : Int32) (a4 + (1 : Int32)) (0 : Int32) (a6 + (1 : Int32)) _ h H locs ls hP hS (lv_sub hl [5, 6, 7, 3, 2, 1, 0] rfl)
                  · have h := xif_f c_45 h
                    refine lv_aload_n hx hb d_RD_readGoals_112 rfl (lv_at hl 4 rfl) ?_
                    refine va_get (v := .ref (lay 2)) (C := R_RD) (T := F_RD) (N := 4) hx hb hts i_RD hown hK hP 179 (xw_at (by decide) (xc_179 _ _ _ _)) rfl 0 (by decide) (hts _ wd_169) (fun _ h9 => h9) rfl d_RD_readGoals_113 ?_
                    obtain ⟨q41, e40, h⟩ := xb h
                    refine xk_v (xrunV (As := []) (rest := []) ⟨hx, hb, hml, hown, hts⟩ (c_WO_next l hq D lay cA adK adV s0 q31 q41 e40) (cwV 0 hts (xT_V wd_522 wd_285 wd_286 wd_2 wd_287) rfl rfl rfl (by decide +kernel) ⟨Nat.le_of_ble_eq_true rfl, Nat.le_of_ble_eq_true rfl⟩) (xpV E hP hS (by decide) (xc_2 _ _ _ _) rfl) rfl rfl hl.1 rfl (lv_room (Nat.le_of_ble_eq_true rfl)) d_RD_readGoals_116 ⟨Nat.le_of_ble_eq_true rfl, Nat.le_of_ble_eq_true rfl⟩) hS hnh hlk (fun S9 e9 => by subst e9; exact (Option.some.inj h).symm) (fun v42 S43 w44 H locs hP hS => ?_)
                    subst w44
                    dsimp only [xT2] at h
                    refine lv_iinc (v := a6 + (1 : Int32)) (lv' := [(6, .int (a6 + (1 : Int32))), (5, .int (0 : Int32)), (4, .int (a4 + (1 : Int32))), (3, .int (0 : Int32)), (7, .int v3), (0, .ref (lay 179)), (1, .int a1), (2, .ref (lay 173))]) hx hb d_RD_readGoals_119 hl (k := 7) rfl (by rfl) (by decide) rfl (fun ls hl => ?_)
                    refine lv_goto (tgt := 19) hx hb d_RD_readGoals_122 (by decide) ?_
                    exact ih S43 a1 (0 : Int32) (a4 + (1 : Int32)) (0 : Int32) (a6 + (1 : Int32)) _ h H locs ls hP hS (lv_sub hl [5, 6, 7, 3, 2, 1, 0] rfl)
                · have h := xif_f c_52 h
                  refine lv_iconst (v := (1 : Int32)) hx hb d_RD_readGoals_100 (by decide) ?_
                  refine lv_goto (tgt := 105) hx hb d_RD_readGoals_101 (by decide) ?_
                  refine lv_istore (lv' := [(5, .int (1 : Int32)), (4, .int (a4 + (1 : Int32))), (3, .int (0 : Int32)), (7, .int v3), (0, .ref (lay 179)), (1, .int a1), (2, .ref (lay 173)), (6, .int a6)]) hx hb d_RD_readGoals_105 hl (by decide) rfl (fun ls hl => ?_)
                  refine lv_iload hx hb d_RD_readGoals_107 (lv_at hl 0 rfl) ?_
                  refine lv_if_eq (tgt := 119) hx hb d_RD_readGoals_109 (by decide) (fun c_51 => ?_) (fun c_51 => ?_)
                  · have h := xif_t c_51 h
                    refine lv_iinc (v := a6 + (1 : Int32)) (lv' := [(6, .int (a6 + (1 : Int32))), (5, .int (1 : Int32)), (4, .int (a4 + (1 : Int32))), (3, .int (0 : Int32)), (7, .int v3), (0, .ref (lay 179)), (1, .int a1), (2, .ref (lay 173))]) hx hb d_RD_readGoals_119 hl (k := 7) rfl (by rfl) (by decide) rfl (fun ls hl => ?_)
                    refine lv_goto (tgt := 19) hx hb d_RD_readGoals_122 (by decide) ?_
                    exact ih q31 a1 (0 : Int32) (a4 + (1 : Int32)) (1 : Int32) (a6 + (1 : Int32)) _ h H locs ls hP hS (lv_sub hl [5, 6, 7, 3, 2, 1, 0] rfl)
                  · have h := xif_f c_51 h
                    refine lv_aload_n hx hb d_RD_readGoals_112 rfl (lv_at hl 4 rfl) ?_
                    refine va_get (v := .ref (lay 2)) (C := R_RD) (T := F_RD) (N := 4) hx hb hts i_RD hown hK hP 179 (xw_at (by decide) (xc_179 _ _ _ _)) rfl 0 (by decide) (hts _ wd_169) (fun _ h9 => h9) rfl d_RD_readGoals_113 ?_
                    obtain ⟨q47, e46, h⟩ := xb h
                    refine xk_v (xrunV (As := []) (rest := []) ⟨hx, hb, hml, hown, hts⟩ (c_WO_next l hq D lay cA adK adV s0 q31 q47 e46) (cwV 0 hts (xT_V wd_522 wd_285 wd_286 wd_2 wd_287) rfl rfl rfl (by decide +kernel) ⟨Nat.le_of_ble_eq_true rfl, Nat.le_of_ble_eq_true rfl⟩) (xpV E hP hS (by decide) (xc_2 _ _ _ _) rfl) rfl rfl hl.1 rfl (lv_room (Nat.le_of_ble_eq_true rfl)) d_RD_readGoals_116 ⟨Nat.le_of_ble_eq_true rfl, Nat.le_of_ble_eq_true rfl⟩) hS hnh hlk (fun S9 e9 => by subst e9; exact (Option.some.inj h).symm) (fun v48 S49 w50 H locs hP hS => ?_)
                    subst w50
                    dsimp only [xT2] at h
                    refine lv_iinc (v := a6 + (1 : Int32)) (lv' := [(6, .int (a6 + (1 : Int32))), (5, .int (1 : Int32)), (4, .int (a4 + (1 : Int32))), (3, .int (0 : Int32)), (7, .int v3), (0, .ref (lay 179)), (1, .int a1), (2, .ref (lay 173))]) hx hb d_RD_readGoals_119 hl (k := 7) rfl (by rfl) (by decide) rfl (fun ls hl => ?_)
                    refine lv_goto (tgt := 19) hx hb d_RD_readGoals_122 (by decide) ?_
                    exact ih S49 a1 (0 : Int32) (a4 + (1 : Int32)) (1 : Int32) (a6 + (1 : Int32)) _ h H locs ls hP hS (lv_sub hl [5, 6, 7, 3, 2, 1, 0] rfl)
            · have h := xif_t c_78 h
              refine lv_iconst (v := (1 : Int32)) hx hb d_RD_readGoals_64 (by decide) ?_
              refine lv_goto (tgt := 69) hx hb d_RD_readGoals_65 (by decide) ?_
              refine lv_istore_n (lv' := [(3, .int (1 : Int32)), (7, .int v3), (0, .ref (lay 179)), (1, .int a1), (2, .ref (lay 173)), (4, .int a4), (5, .int a5), (6, .int a6)]) hx hb d_RD_readGoals_69 rfl hl (by decide) rfl (fun ls hl => ?_)
              refine lv_aload_n hx hb d_RD_readGoals_70 rfl (lv_at hl 4 rfl) ?_
              refine lv_iconst (v := (4 : Int32)) hx hb d_RD_readGoals_71 (by decide) ?_
              refine lv_iload hx hb d_RD_readGoals_72 (lv_at hl 5 rfl) ?_
              refine lv_iadd hx hb d_RD_readGoals_74 ?_
              refine lv_iload hx hb d_RD_readGoals_75 (lv_at hl 1 rfl) ?_
              obtain ⟨q55, e54, h⟩ := xb h
              refine xc_v (va_runV (As := [.int ((4 : Int32) + a4), .int v3]) (rest := []) ⟨hx, hb, hml, hown, hts⟩ (c_RO_setLast l D lay cA adK adV s0 S4 173 ((4 : Int32) + a4) v3 q55 e54) (cwV 2 hts (xT_V wd_565 wd_566 wd_567 wd_5 wd_568) rfl rfl rfl (by decide +kernel) ⟨Nat.le_of_ble_eq_true rfl, Nat.le_of_ble_eq_true rfl⟩) (xpV E hP hS (xR_lt (by decide : xR 173)).1 (xc_RO _ _ _ _ (by decide : xR 173)) rfl) rfl rfl hl.1 rfl (lv_room (Nat.le_of_ble_eq_true rfl)) d_RD_readGoals_77 ⟨Nat.le_of_ble_eq_true rfl, Nat.le_of_ble_eq_true rfl⟩) hS (fun H locs hP hS => ?_)
              refine lv_iinc (v := a4 + (1 : Int32)) (lv' := [(4, .int (a4 + (1 : Int32))), (3, .int (1 : Int32)), (7, .int v3), (0, .ref (lay 179)), (1, .int a1), (2, .ref (lay 173)), (5, .int a5), (6, .int a6)]) hx hb d_RD_readGoals_80 hl (k := 5) rfl (by rfl) (by decide) rfl (fun ls hl => ?_)
              refine lv_iload_n hx hb d_RD_readGoals_83 rfl (lv_at hl 4 rfl) ?_
              refine lv_iconst (v := (1 : Int32)) hx hb d_RD_readGoals_84 (by decide) ?_
              refine lv_icmp_eq (tgt := 104) hx hb d_RD_readGoals_85 (by decide) (fun c_77 => ?_) (fun c_77 => ?_)
              · have h := xif_t c_77 h
                refine lv_iconst (v := (0 : Int32)) hx hb d_RD_readGoals_104 (by decide) ?_
                refine lv_istore (lv' := [(5, .int (0 : Int32)), (4, .int (a4 + (1 : Int32))), (3, .int (1 : Int32)), (7, .int v3), (0, .ref (lay 179)), (1, .int a1), (2, .ref (lay 173)), (6, .int a6)]) hx hb d_RD_readGoals_105 hl (by decide) rfl (fun ls hl => ?_)
                refine lv_iload hx hb d_RD_readGoals_107 (lv_at hl 0 rfl) ?_
                refine lv_if_eq (tgt := 119) hx hb d_RD_readGoals_109 (by decide) (fun c_61 => ?_) (fun c_61 => ?_)
                · have h := xif_t c_61 h
                  refine lv_iinc (v := a6 + (1 : Int32)) (lv' := [(6, .int (a6 + (1 : Int32))), (5, .int (0 : Int32)), (4, .int (a4 + (1 : Int32))), (3, .int (1 : Int32)), (7, .int v3), (0, .ref (lay 179)), (1, .int a1), (2, .ref (lay 173))]) hx hb d_RD_readGoals_119 hl (k := 7) rfl (by rfl) (by decide) rfl (fun ls hl => ?_)
                  refine lv_goto (tgt := 19) hx hb d_RD_readGoals_122 (by decide) ?_
                  exact ih q55 a1 (1 : Int32) (a4 + (1 : Int32)) (0 : Int32) (a6 + (1 : Int32)) _ h H locs ls hP hS (lv_sub hl [5, 6, 7, 3, 2, 1, 0] rfl)
                · have h := xif_f c_61 h
                  refine lv_aload_n hx hb d_RD_readGoals_112 rfl (lv_at hl 4 rfl) ?_
                  refine va_get (v := .ref (lay 2)) (C := R_RD) (T := F_RD) (N := 4) hx hb hts i_RD hown hK hP 179 (xw_at (by decide) (xc_179 _ _ _ _)) rfl 0 (by decide) (hts _ wd_169) (fun _ h9 => h9) rfl d_RD_readGoals_113 ?_
                  obtain ⟨q57, e56, h⟩ := xb h
                  refine xk_v (xrunV (As := []) (rest := []) ⟨hx, hb, hml, hown, hts⟩ (c_WO_next l hq D lay cA adK adV s0 q55 q57 e56) (cwV 0 hts (xT_V wd_522 wd_285 wd_286 wd_2 wd_287) rfl rfl rfl (by decide +kernel) ⟨Nat.le_of_ble_eq_true rfl, Nat.le_of_ble_eq_true rfl⟩) (xpV E hP hS (by decide) (xc_2 _ _ _ _) rfl) rfl rfl hl.1 rfl (lv_room (Nat.le_of_ble_eq_true rfl)) d_RD_readGoals_116 ⟨Nat.le_of_ble_eq_true rfl, Nat.le_of_ble_eq_true rfl⟩) hS hnh hlk (fun S9 e9 => by subst e9; exact (Option.some.inj h).symm) (fun v58 S59 w60 H locs hP hS => ?_)
                  subst w60
                  dsimp only [xT2] at h
                  refine lv_iinc (v := a6 + (1 : Int32)) (lv' := [(6, .int (a6 + (1 : Int32))), (5, .int (0 : Int32)), (4, .int (a4 + (1 : Int32))), (3, .int (1 : Int32)), (7, .int v3), (0, .ref (lay 179)), (1, .int a1), (2, .ref (lay 173))]) hx hb d_RD_readGoals_119 hl (k := 7) rfl (by rfl) (by decide) rfl (fun ls hl => ?_)
                  refine lv_goto (tgt := 19) hx hb d_RD_readGoals_122 (by decide) ?_
                  exact ih S59 a1 (1 : Int32) (a4 + (1 : Int32)) (0 : Int32) (a6 + (1 : Int32)) _ h H locs ls hP hS (lv_sub hl [5, 6, 7, 3, 2, 1, 0] rfl)
              · have h := xif_f c_77 h
                refine lv_aload_n hx hb d_RD_readGoals_88 rfl (lv_at hl 3 rfl) ?_
                refine va_get (v := .ref (lay 2)) (C := R_RD) (T := F_RD) (N := 4) hx hb hts i_RD hown hK hP 179 (xw_at (by decide) (xc_179 _ _ _ _)) rfl 0 (by decide) (hts _ wd_169) (fun _ h9 => h9) rfl d_RD_readGoals_89 ?_
                refine va_ldcS hx hb hown (E.lit (List.mem_of_getElem? (i := 28) rfl : ("ConfigTexts$Reader", 216, ",", 26) ∈ xlits)) d_RD_readGoals_92 ?_
                obtain ⟨q63, e62, h⟩ := xb h
                refine xc_i (va_runV (As := [.ref (adK 26)]) (rest := []) ⟨hx, hb, hml, hown, hts⟩ (c_WO_is l D lay cA adK adV s0 q55 26 q63 e62) (cwV 1 hts (xT_V wd_536 wd_456 wd_457 wd_2 wd_458) rfl rfl rfl (by decide +kernel) ⟨Nat.le_of_ble_eq_true rfl, Nat.le_of_ble_eq_true rfl⟩) (xpV E hP hS (by decide) (xc_2 _ _ _ _) rfl) rfl rfl hl.1 rfl (lv_room (Nat.le_of_ble_eq_true rfl)) d_RD_readGoals_94 ⟨Nat.le_of_ble_eq_true rfl, Nat.le_of_ble_eq_true rfl⟩) hS (fun H locs hP hS => ?_)
                refine lv_if_eq (tgt := 104) hx hb d_RD_readGoals_97 (by decide) (fun c_76 => ?_) (fun c_76 => ?_)
                · have h := xif_t c_76 h
                  refine lv_iconst (v := (0 : Int32)) hx hb d_RD_readGoals_104 (by decide) ?_
                  refine lv_istore (lv' := [(5, .int (0 : Int32)), (4, .int (a4 + (1 : Int32))), (3, .int (1 : Int32)), (7, .int v3), (0, .ref (lay 179)), (1, .int a1), (2, .ref (lay 173)), (6, .int a6)]) hx hb d_RD_readGoals_105 hl (by decide) rfl (fun ls hl => ?_)
                  refine lv_iload hx hb d_RD_readGoals_107 (lv_at hl 0 rfl) ?_
                  refine lv_if_eq (tgt := 119) hx hb d_RD_readGoals_109 (by decide) (fun c_69 => ?_) (fun c_69 => ?_)
                  · have h := xif_t c_69 h
                    refine lv_iinc (v := a6 + (1 : Int32)) (lv' := [(6, .int (a6 + (1 : Int32))), (5, .int (0 : Int32)), (4, .int (a4 + (1 : Int32))), (3, .int (1 : Int32)), (7, .int v3), (0, .ref (lay 179)), (1, .int a1), (2, .ref (lay 173))]) hx hb d_RD_readGoals_119 hl (k := 7) rfl (by rfl) (by decide) rfl (fun ls hl => ?_)
                    refine lv_goto (tgt := 19) hx hb d_RD_readGoals_122 (by decide) ?_
                    exact ih q55 a1 (1 : Int32) (a4 + (1 : Int32)) (0 : Int32) (a6 + (1 : Int32)) _ h H locs ls hP hS (lv_sub hl [5, 6, 7, 3, 2, 1, 0] rfl)
                  · have h := xif_f c_69 h
                    refine lv_aload_n hx hb d_RD_readGoals_112 rfl (lv_at hl 4 rfl) ?_
                    refine va_get (v := .ref (lay 2)) (C := R_RD) (T := F_RD) (N := 4) hx hb hts i_RD hown hK hP 179 (xw_at (by decide) (xc_179 _ _ _ _)) rfl 0 (by decide) (hts _ wd_169) (fun _ h9 => h9) rfl d_RD_readGoals_113 ?_
                    obtain ⟨q65, e64, h⟩ := xb h
                    refine xk_v (xrunV (As := []) (rest := []) ⟨hx, hb, hml, hown, hts⟩ (c_WO_next l hq D lay cA adK adV s0 q55 q65 e64) (cwV 0 hts (xT_V wd_522 wd_285 wd_286 wd_2 wd_287) rfl rfl rfl (by decide +kernel) ⟨Nat.le_of_ble_eq_true rfl, Nat.le_of_ble_eq_true rfl⟩) (xpV E hP hS (by decide) (xc_2 _ _ _ _) rfl) rfl rfl hl.1 rfl (lv_room (Nat.le_of_ble_eq_true rfl)) d_RD_readGoals_116 ⟨Nat.le_of_ble_eq_true rfl, Nat.le_of_ble_eq_true rfl⟩) hS hnh hlk (fun S9 e9 => by subst e9; exact (Option.some.inj h).symm) (fun v66 S67 w68 H locs hP hS => ?_)
                    subst w68
                    dsimp only [xT2] at h
                    refine lv_iinc (v := a6 + (1 : Int32)) (lv' := [(6, .int (a6 + (1 : Int32))), (5, .int (0 : Int32)), (4, .int (a4 + (1 : Int32))), (3, .int (1 : Int32)), (7, .int v3), (0, .ref (lay 179)), (1, .int a1), (2, .ref (lay 173))]) hx hb d_RD_readGoals_119 hl (k := 7) rfl (by rfl) (by decide) rfl (fun ls hl => ?_)
                    refine lv_goto (tgt := 19) hx hb d_RD_readGoals_122 (by decide) ?_
                    exact ih S67 a1 (1 : Int32) (a4 + (1 : Int32)) (0 : Int32) (a6 + (1 : Int32)) _ h H locs ls hP hS (lv_sub hl [5, 6, 7, 3, 2, 1, 0] rfl)
                · have h := xif_f c_76 h
                  refine lv_iconst (v := (1 : Int32)) hx hb d_RD_readGoals_100 (by decide) ?_
                  refine lv_goto (tgt := 105) hx hb d_RD_readGoals_101 (by decide) ?_
                  refine lv_istore (lv' := [(5, .int (1 : Int32)), (4, .int (a4 + (1 : Int32))), (3, .int (1 : Int32)), (7, .int v3), (0, .ref (lay 179)), (1, .int a1), (2, .ref (lay 173)), (6, .int a6)]) hx hb d_RD_readGoals_105 hl (by decide) rfl (fun ls hl => ?_)
                  refine lv_iload hx hb d_RD_readGoals_107 (lv_at hl 0 rfl) ?_
                  refine lv_if_eq (tgt := 119) hx hb d_RD_readGoals_109 (by decide) (fun c_75 => ?_) (fun c_75 => ?_)
                  · have h := xif_t c_75 h
                    refine lv_iinc (v := a6 + (1 : Int32)) (lv' := [(6, .int (a6 + (1 : Int32))), (5, .int (1 : Int32)), (4, .int (a4 + (1 : Int32))), (3, .int (1 : Int32)), (7, .int v3), (0, .ref (lay 179)), (1, .int a1), (2, .ref (lay 173))]) hx hb d_RD_readGoals_119 hl (k := 7) rfl (by rfl) (by decide) rfl (fun ls hl => ?_)
                    refine lv_goto (tgt := 19) hx hb d_RD_readGoals_122 (by decide) ?_
                    exact ih q55 a1 (1 : Int32) (a4 + (1 : Int32)) (1 : Int32) (a6 + (1 : Int32)) _ h H locs ls hP hS (lv_sub hl [5, 6, 7, 3, 2, 1, 0] rfl)
                  · have h := xif_f c_75 h
                    refine lv_aload_n hx hb d_RD_readGoals_112 rfl (lv_at hl 4 rfl) ?_
                    refine va_get (v := .ref (lay 2)) (C := R_RD) (T := F_RD) (N := 4) hx hb hts i_RD hown hK hP 179 (xw_at (by decide) (xc_179 _ _ _ _)) rfl 0 (by decide) (hts _ wd_169) (fun _ h9 => h9) rfl d_RD_readGoals_113 ?_
                    obtain ⟨q71, e70, h⟩ := xb h
                    refine xk_v (xrunV (As := []) (rest := []) ⟨hx, hb, hml, hown, hts⟩ (c_WO_next l hq D lay cA adK adV s0 q55 q71 e70) (cwV 0 hts (xT_V wd_522 wd_285 wd_286 wd_2 wd_287) rfl rfl rfl (by decide +kernel) ⟨Nat.le_of_ble_eq_true rfl, Nat.le_of_ble_eq_true rfl⟩) (xpV E hP hS (by decide) (xc_2 _ _ _ _) rfl) rfl rfl hl.1 rfl (lv_room (Nat.le_of_ble_eq_true rfl)) d_RD_readGoals_116 ⟨Nat.le_of_ble_eq_true rfl, Nat.le_of_ble_eq_true rfl⟩) hS hnh hlk (fun S9 e9 => by subst e9; exact (Option.some.inj h).symm) (fun v72 S73 w74 H locs hP hS => ?_)
                    subst w74
                    dsimp only [xT2] at h
                    refine lv_iinc (v := a6 + (1 : Int32)) (lv' := [(6, .int (a6 + (1 : Int32))), (5, .int (1 : Int32)), (4, .int (a4 + (1 : Int32))), (3, .int (1 : Int32)), (7, .int v3), (0, .ref (lay 179)), (1, .int a1), (2, .ref (lay 173))]) hx hb d_RD_readGoals_119 hl (k := 7) rfl (by rfl) (by decide) rfl (fun ls hl => ?_)
                    refine lv_goto (tgt := 19) hx hb d_RD_readGoals_122 (by decide) ?_
                    exact ih S73 a1 (1 : Int32) (a4 + (1 : Int32)) (1 : Int32) (a6 + (1 : Int32)) _ h H locs ls hP hS (lv_sub hl [5, 6, 7, 3, 2, 1, 0] rfl)
        · have h := xif_t c_164 h
          refine lv_aload_n hx hb d_RD_readGoals_36 rfl (lv_at hl 0 rfl) ?_
          refine va_get (v := .ref (lay 2)) (C := R_RD) (T := F_RD) (N := 4) hx hb hts i_RD hown hK hP 179 (xw_at (by decide) (xc_179 _ _ _ _)) rfl 0 (by decide) (hts _ wd_169) (fun _ h9 => h9) rfl d_RD_readGoals_37 ?_
          refine lv_iconst (v := (4 : Int32)) hx hb d_RD_readGoals_40 (by decide) ?_
          obtain ⟨q81, e80, h⟩ := xb h
          refine xk_v (xrunV (As := [.int (4 : Int32)]) (rest := []) ⟨hx, hb, hml, hown, hts⟩ (c_WO_fail l hq D lay cA adK adV s0 S (4 : Int32) q81 e80) (cwV 1 hts (xT_V wd_502 wd_386 wd_387 wd_2 wd_388) rfl rfl rfl (by decide +kernel) ⟨Nat.le_of_ble_eq_true rfl, Nat.le_of_ble_eq_true rfl⟩) (xpV E hP hS (by decide) (xc_2 _ _ _ _) rfl) rfl rfl hl.1 rfl (lv_room (Nat.le_of_ble_eq_true rfl)) d_RD_readGoals_41 ⟨Nat.le_of_ble_eq_true rfl, Nat.le_of_ble_eq_true rfl⟩) hS hnh hlk (fun S9 e9 => by subst e9; exact (Option.some.inj h).symm) (fun v82 S83 w84 H locs hP hS => ?_)
          subst w84
          dsimp only [xT2] at h
          refine lv_aload_n hx hb d_RD_readGoals_44 rfl (lv_at hl 0 rfl) ?_
          refine va_ldcS hx hb hown (E.lit (List.mem_of_getElem? (i := 27) rfl : ("ConfigTexts$Reader", 214, "output", 25) ∈ xlits)) d_RD_readGoals_45 ?_
          refine lv_iconst (v := (0 : Int32)) hx hb d_RD_readGoals_47 (by decide) ?_
          refine lv_iload_n hx hb d_RD_readGoals_48 rfl (lv_at hl 1 rfl) ?_
          obtain ⟨q86, e85, h⟩ := xb h
          refine xk_i (xrunV (As := [.ref (adK 25), .int (0 : Int32), .int a1]) (rest := []) ⟨hx, hb, hml, hown, hts⟩ (c_RD_readEnd l hq D lay cA adK adV s0 S83 25 (0 : Int32) a1 q86 e85) (cwV 3 hts (xT_V wd_629 wd_631 wp_16 wd_6 wd_632) rfl rfl rfl (by decide +kernel) ⟨Nat.le_of_ble_eq_true rfl, Nat.le_of_ble_eq_true rfl⟩) (xpV E hP hS (by decide) (xc_179 _ _ _ _) rfl) rfl rfl hl.1 rfl (lv_room (Nat.le_of_ble_eq_true rfl)) d_RD_readGoals_49 ⟨Nat.le_of_ble_eq_true rfl, Nat.le_of_ble_eq_true rfl⟩) hS hnh hlk (fun S9 e9 => by subst e9; exact (Option.some.inj h).symm) (fun v87 S88 w89 H locs hP hS => ?_)
          subst w89
          dsimp only [xT2] at h
          refine lv_istore (lv' := [(7, .int v87), (0, .ref (lay 179)), (1, .int a1), (2, .ref (lay 173)), (3, .int a3), (4, .int a4), (5, .int a5), (6, .int a6)]) hx hb d_RD_readGoals_52 hl (by decide) rfl (fun ls hl => ?_)
          refine lv_iload_n hx hb d_RD_readGoals_54 rfl (lv_at hl 4 rfl) ?_
          refine lv_if_ne (tgt := 64) hx hb d_RD_readGoals_55 (by decide) (fun c_163 => ?_) (fun c_163 => ?_)
          · have h := xif_f c_163 h
            refine lv_iconst (v := (1 : Int32)) hx hb d_RD_readGoals_64 (by decide) ?_
            refine lv_goto (tgt := 69) hx hb d_RD_readGoals_65 (by decide) ?_
            refine lv_istore_n (lv' := [(3, .int (1 : Int32)), (7, .int v87), (0, .ref (lay 179)), (1, .int a1), (2, .ref (lay 173)), (4, .int a4), (5, .int a5), (6, .int a6)]) hx hb d_RD_readGoals_69 rfl hl (by decide) rfl (fun ls hl => ?_)
            refine lv_aload_n hx hb d_RD_readGoals_70 rfl (lv_at hl 4 rfl) ?_
            refine lv_iconst (v := (4 : Int32)) hx hb d_RD_readGoals_71 (by decide) ?_
            refine lv_iload hx hb d_RD_readGoals_72 (lv_at hl 5 rfl) ?_
            refine lv_iadd hx hb d_RD_readGoals_74 ?_
            refine lv_iload hx hb d_RD_readGoals_75 (lv_at hl 1 rfl) ?_
            obtain ⟨q91, e90, h⟩ := xb h
            refine xc_v (va_runV (As := [.int ((4 : Int32) + a4), .int v87]) (rest := []) ⟨hx, hb, hml, hown, hts⟩ (c_RO_setLast l D lay cA adK adV s0 S88 173 ((4 : Int32) + a4) v87 q91 e90) (cwV 2 hts (xT_V wd_565 wd_566 wd_567 wd_5 wd_568) rfl rfl rfl (by decide +kernel) ⟨Nat.le_of_ble_eq_true rfl, Nat.le_of_ble_eq_true rfl⟩) (xpV E hP hS (xR_lt (by decide : xR 173)).1 (xc_RO _ _ _ _ (by decide : xR 173)) rfl) rfl rfl hl.1 rfl (lv_room (Nat.le_of_ble_eq_true rfl)) d_RD_readGoals_77 ⟨Nat.le_of_ble_eq_true rfl, Nat.le_of_ble_eq_true rfl⟩) hS (fun H locs hP hS => ?_)
            refine lv_iinc (v := a4 + (1 : Int32)) (lv' := [(4, .int (a4 + (1 : Int32))), (3, .int (1 : Int32)), (7, .int v87), (0, .ref (lay 179)), (1, .int a1), (2, .ref (lay 173)), (5, .int a5), (6, .int a6)]) hx hb d_RD_readGoals_80 hl (k := 5) rfl (by rfl) (by decide) rfl (fun ls hl => ?_)
            refine lv_iload_n hx hb d_RD_readGoals_83 rfl (lv_at hl 4 rfl) ?_
            refine lv_iconst (v := (1 : Int32)) hx hb d_RD_readGoals_84 (by decide) ?_
            refine lv_icmp_eq (tgt := 104) hx hb d_RD_readGoals_85 (by decide) (fun c_113 => ?_) (fun c_113 => ?_)
            · have h := xif_t c_113 h
              refine lv_iconst (v := (0 : Int32)) hx hb d_RD_readGoals_104 (by decide) ?_
              refine lv_istore (lv' := [(5, .int (0 : Int32)), (4, .int (a4 + (1 : Int32))), (3, .int (1 : Int32)), (7, .int v87), (0, .ref (lay 179)), (1, .int a1), (2, .ref (lay 173)), (6, .int a6)]) hx hb d_RD_readGoals_105 hl (by decide) rfl (fun ls hl => ?_)
              refine lv_iload hx hb d_RD_readGoals_107 (lv_at hl 0 rfl) ?_
              refine lv_if_eq (tgt := 119) hx hb d_RD_readGoals_109 (by decide) (fun c_97 => ?_) (fun c_97 => ?_)
              · have h := xif_t c_97 h
                refine lv_iinc (v := a6 + (1 : Int32)) (lv' := [(6, .int (a6 + (1 : Int32))), (5, .int (0 : Int32)), (4, .int (a4 + (1 : Int32))), (3, .int (1 : Int32)), (7, .int v87), (0, .ref (lay 179)), (1, .int a1), (2, .ref (lay 173))]) hx hb d_RD_readGoals_119 hl (k := 7) rfl (by rfl) (by decide) rfl (fun ls hl => ?_)
                refine lv_goto (tgt := 19) hx hb d_RD_readGoals_122 (by decide) ?_
                exact ih q91 a1 (1 : Int32) (a4 + (1 : Int32)) (0 : Int32) (a6 + (1 : Int32)) _ h H locs ls hP hS (lv_sub hl [5, 6, 7, 3, 2, 1, 0] rfl)
              · have h := xif_f c_97 h
                refine lv_aload_n hx hb d_RD_readGoals_112 rfl (lv_at hl 4 rfl) ?_
                refine va_get (v := .ref (lay 2)) (C := R_RD) (T := F_RD) (N := 4) hx hb hts i_RD hown hK hP 179 (xw_at (by decide) (xc_179 _ _ _ _)) rfl 0 (by decide) (hts _ wd_169) (fun _ h9 => h9) rfl d_RD_readGoals_113 ?_
                obtain ⟨q93, e92, h⟩ := xb h
                refine xk_v (xrunV (As := []) (rest := []) ⟨hx, hb, hml, hown, hts⟩ (c_WO_next l hq D lay cA adK adV s0 q91 q93 e92) (cwV 0 hts (xT_V wd_522 wd_285 wd_286 wd_2 wd_287) rfl rfl rfl (by decide +kernel) ⟨Nat.le_of_ble_eq_true rfl, Nat.le_of_ble_eq_true rfl⟩) (xpV E hP hS (by decide) (xc_2 _ _ _ _) rfl) rfl rfl hl.1 rfl (lv_room (Nat.le_of_ble_eq_true rfl)) d_RD_readGoals_116 ⟨Nat.le_of_ble_eq_true rfl, Nat.le_of_ble_eq_true rfl⟩) hS hnh hlk (fun S9 e9 => by subst e9; exact (Option.some.inj h).symm) (fun v94 S95 w96 H locs hP hS => ?_)
                subst w96
                dsimp only [xT2] at h
                refine lv_iinc (v := a6 + (1 : Int32)) (lv' := [(6, .int (a6 + (1 : Int32))), (5, .int (0 : Int32)), (4, .int (a4 + (1 : Int32))), (3, .int (1 : Int32)), (7, .int v87), (0, .ref (lay 179)), (1, .int a1), (2, .ref (lay 173))]) hx hb d_RD_readGoals_119 hl (k := 7) rfl (by rfl) (by decide) rfl (fun ls hl => ?_)
                refine lv_goto (tgt := 19) hx hb d_RD_readGoals_122 (by decide) ?_
                exact ih S95 a1 (1 : Int32) (a4 + (1 : Int32)) (0 : Int32) (a6 + (1 : Int32)) _ h H locs ls hP hS (lv_sub hl [5, 6, 7, 3, 2, 1, 0] rfl)
            · have h := xif_f c_113 h
              refine lv_aload_n hx hb d_RD_readGoals_88 rfl (lv_at hl 3 rfl) ?_
              refine va_get (v := .ref (lay 2)) (C := R_RD) (T := F_RD) (N := 4) hx hb hts i_RD hown hK hP 179 (xw_at (by decide) (xc_179 _ _ _ _)) rfl 0 (by decide) (hts _ wd_169) (fun _ h9 => h9) rfl d_RD_readGoals_89 ?_
              refine va_ldcS hx hb hown (E.lit (List.mem_of_getElem? (i := 28) rfl : ("ConfigTexts$Reader", 216, ",", 26) ∈ xlits)) d_RD_readGoals_92 ?_
              obtain ⟨q99, e98, h⟩ := xb h
              refine xc_i (va_runV (As := [.ref (adK 26)]) (rest := []) ⟨hx, hb, hml, hown, hts⟩ (c_WO_is l D lay cA adK adV s0 q91 26 q99 e98) (cwV 1 hts (xT_V wd_536 wd_456 wd_457 wd_2 wd_458) rfl rfl rfl (by decide +kernel) ⟨Nat.le_of_ble_eq_true rfl, Nat.le_of_ble_eq_true rfl⟩) (xpV E hP hS (by decide) (xc_2 _ _ _ _) rfl) rfl rfl hl.1 rfl (lv_room (Nat.le_of_ble_eq_true rfl)) d_RD_readGoals_94 ⟨Nat.le_of_ble_eq_true rfl, Nat.le_of_ble_eq_true rfl⟩) hS (fun H locs hP hS => ?_)
              refine lv_if_eq (tgt := 104) hx hb d_RD_readGoals_97 (by decide) (fun c_112 => ?_) (fun c_112 => ?_)
              · have h := xif_t c_112 h
                refine lv_iconst (v := (0 : Int32)) hx hb d_RD_readGoals_104 (by decide) ?_
                refine lv_istore (lv' := [(5, .int (0 : Int32)), (4, .int (a4 + (1 : Int32))), (3, .int (1 : Int32)), (7, .int v87), (0, .ref (lay 179)), (1, .int a1), (2, .ref (lay 173)), (6, .int a6)]) hx hb d_RD_readGoals_105 hl (by decide) rfl (fun ls hl => ?_)
                refine lv_iload hx hb d_RD_readGoals_107 (lv_at hl 0 rfl) ?_
                refine lv_if_eq (tgt := 119) hx hb d_RD_readGoals_109 (by decide) (fun c_105 => ?_) (fun c_105 => ?_)
                · have h := xif_t c_105 h
                  refine lv_iinc (v := a6 + (1 : Int32)) (lv' := [(6, .int (a6 + (1 : Int32))), (5, .int (0 : Int32)), (4, .int (a4 + (1 : Int32))), (3, .int (1 : Int32)), (7, .int v87), (0, .ref (lay 179)), (1, .int a1), (2, .ref (lay 173))]) hx hb d_RD_readGoals_119 hl (k := 7) rfl (by rfl) (by decide) rfl (fun ls hl => ?_)
                  refine lv_goto (tgt := 19) hx hb d_RD_readGoals_122 (by decide) ?_
                  exact ih q91 a1 (1 : Int32) (a4 + (1 : Int32)) (0 : Int32) (a6 + (1 : Int32)) _ h H locs ls hP hS (lv_sub hl [5, 6, 7, 3, 2, 1, 0] rfl)
                · have h := xif_f c_105 h
                  refine lv_aload_n hx hb d_RD_readGoals_112 rfl (lv_at hl 4 rfl) ?_
                  refine va_get (v := .ref (lay 2)) (C := R_RD) (T := F_RD) (N := 4) hx hb hts i_RD hown hK hP 179 (xw_at (by decide) (xc_179 _ _ _ _)) rfl 0 (by decide) (hts _ wd_169) (fun _ h9 => h9) rfl d_RD_readGoals_113 ?_
                  obtain ⟨q101, e100, h⟩ := xb h
                  refine xk_v (xrunV (As := []) (rest := []) ⟨hx, hb, hml, hown, hts⟩ (c_WO_next l hq D lay cA adK adV s0 q91 q101 e100) (cwV 0 hts (xT_V wd_522 wd_285 wd_286 wd_2 wd_287) rfl rfl rfl (by decide +kernel) ⟨Nat.le_of_ble_eq_true rfl, Nat.le_of_ble_eq_true rfl⟩) (xpV E hP hS (by decide) (xc_2 _ _ _ _) rfl) rfl rfl hl.1 rfl (lv_room (Nat.le_of_ble_eq_true rfl)) d_RD_readGoals_116 ⟨Nat.le_of_ble_eq_true rfl, Nat.le_of_ble_eq_true rfl⟩) hS hnh hlk (fun S9 e9 => by subst e9; exact (Option.some.inj h).symm) (fun v102 S103 w104 H locs hP hS => ?_)
                  subst w104
                  dsimp only [xT2] at h
                  refine lv_iinc (v := a6 + (1 : Int32)) (lv' := [(6, .int (a6 + (1 : Int32))), (5, .int (0 : Int32)), (4, .int (a4 + (1 : Int32))), (3, .int (1 : Int32)), (7, .int v87), (0, .ref (lay 179)), (1, .int a1), (2, .ref (lay 173))]) hx hb d_RD_readGoals_119 hl (k := 7) rfl (by rfl) (by decide) rfl (fun ls hl => ?_)
                  refine lv_goto (tgt := 19) hx hb d_RD_readGoals_122 (by decide) ?_
                  exact ih S103 a1 (1 : Int32) (a4 + (1 : Int32)) (0 : Int32) (a6 + (1 : Int32)) _ h H locs ls hP hS (lv_sub hl [5, 6, 7, 3, 2, 1, 0] rfl)
              · have h := xif_f c_112 h
                refine lv_iconst (v := (1 : Int32)) hx hb d_RD_readGoals_100 (by decide) ?_
                refine lv_goto (tgt := 105) hx hb d_RD_readGoals_101 (by decide) ?_
                refine lv_istore (lv' := [(5, .int (1 : Int32)), (4, .int (a4 + (1 : Int32))), (3, .int (1 : Int32)), (7, .int v87), (0, .ref (lay 179)), (1, .int a1), (2, .ref (lay 173)), (6, .int a6)]) hx hb d_RD_readGoals_105 hl (by decide) rfl (fun ls hl => ?_)
                refine lv_iload hx hb d_RD_readGoals_107 (lv_at hl 0 rfl) ?_
                refine lv_if_eq (tgt := 119) hx hb d_RD_readGoals_109 (by decide) (fun c_111 => ?_) (fun c_111 => ?_)
                · have h := xif_t c_111 h
                  refine lv_iinc (v := a6 + (1 : Int32)) (lv' := [(6, .int (a6 + (1 : Int32))), (5, .int (1 : Int32)), (4, .int (a4 + (1 : Int32))), (3, .int (1 : Int32)), (7, .int v87), (0, .ref (lay 179)), (1, .int a1), (2, .ref (lay 173))]) hx hb d_RD_readGoals_119 hl (k := 7) rfl (by rfl) (by decide) rfl (fun ls hl => ?_)
                  refine lv_goto (tgt := 19) hx hb d_RD_readGoals_122 (by decide) ?_
                  exact ih q91 a1 (1 : Int32) (a4 + (1 : Int32)) (1 : Int32) (a6 + (1 : Int32)) _ h H locs ls hP hS (lv_sub hl [5, 6, 7, 3, 2, 1, 0] rfl)
                · have h := xif_f c_111 h
                  refine lv_aload_n hx hb d_RD_readGoals_112 rfl (lv_at hl 4 rfl) ?_
                  refine va_get (v := .ref (lay 2)) (C := R_RD) (T := F_RD) (N := 4) hx hb hts i_RD hown hK hP 179 (xw_at (by decide) (xc_179 _ _ _ _)) rfl 0 (by decide) (hts _ wd_169) (fun _ h9 => h9) rfl d_RD_readGoals_113 ?_
                  obtain ⟨q107, e106, h⟩ := xb h
                  refine xk_v (xrunV (As := []) (rest := []) ⟨hx, hb, hml, hown, hts⟩ (c_WO_next l hq D lay cA adK adV s0 q91 q107 e106) (cwV 0 hts (xT_V wd_522 wd_285 wd_286 wd_2 wd_287) rfl rfl rfl (by decide +kernel) ⟨Nat.le_of_ble_eq_true rfl, Nat.le_of_ble_eq_true rfl⟩) (xpV E hP hS (by decide) (xc_2 _ _ _ _) rfl) rfl rfl hl.1 rfl (lv_room (Nat.le_of_ble_eq_true rfl)) d_RD_readGoals_116 ⟨Nat.le_of_ble_eq_true rfl, Nat.le_of_ble_eq_true rfl⟩) hS hnh hlk (fun S9 e9 => by subst e9; exact (Option.some.inj h).symm) (fun v108 S109 w110 H locs hP hS => ?_)
                  subst w110
                  dsimp only [xT2] at h
                  refine lv_iinc (v := a6 + (1 : Int32)) (lv' := [(6, .int (a6 + (1 : Int32))), (5, .int (1 : Int32)), (4, .int (a4 + (1 : Int32))), (3, .int (1 : Int32)), (7, .int v87), (0, .ref (lay 179)), (1, .int a1), (2, .ref (lay 173))]) hx hb d_RD_readGoals_119 hl (k := 7) rfl (by rfl) (by decide) rfl (fun ls hl => ?_)
                  refine lv_goto (tgt := 19) hx hb d_RD_readGoals_122 (by decide) ?_
                  exact ih S109 a1 (1 : Int32) (a4 + (1 : Int32)) (1 : Int32) (a6 + (1 : Int32)) _ h H locs ls hP hS (lv_sub hl [5, 6, 7, 3, 2, 1, 0] rfl)
          · have h := xif_t c_163 h
            refine lv_iload hx hb d_RD_readGoals_58 (lv_at hl 0 rfl) ?_
            refine lv_iconst (v := (-1 : Int32)) hx hb d_RD_readGoals_60 (by decide) ?_
            refine lv_icmp_ne (tgt := 68) hx hb d_RD_readGoals_61 (by decide) (fun c_162 => ?_) (fun c_162 => ?_)
            · have h := xif_f c_162 h
              refine lv_iconst (v := (0 : Int32)) hx hb d_RD_readGoals_68 (by decide) ?_
              refine lv_istore_n (lv' := [(3, .int (0 : Int32)), (7, .int v87), (0, .ref (lay 179)), (1, .int a1), (2, .ref (lay 173)), (4, .int a4), (5, .int a5), (6, .int a6)]) hx hb d_RD_readGoals_69 rfl hl (by decide) rfl (fun ls hl => ?_)
              refine lv_aload_n hx hb d_RD_readGoals_70 rfl (lv_at hl 4 rfl) ?_
              refine lv_iconst (v := (4 : Int32)) hx hb d_RD_readGoals_71 (by decide) ?_
              refine lv_iload hx hb d_RD_readGoals_72 (lv_at hl 5 rfl) ?_
              refine lv_iadd hx hb d_RD_readGoals_74 ?_
              refine lv_iload hx hb d_RD_readGoals_75 (lv_at hl 1 rfl) ?_
              obtain ⟨q115, e114, h⟩ := xb h
              refine xc_v (va_runV (As := [.int ((4 : Int32) + a4), .int v87]) (rest := []) ⟨hx, hb, hml, hown, hts⟩ (c_RO_setLast l D lay cA adK adV s0 S88 173 ((4 : Int32) + a4) v87 q115 e114) (cwV 2 hts (xT_V wd_565 wd_566 wd_567 wd_5 wd_568) rfl rfl rfl (by decide +kernel) ⟨Nat.le_of_ble_eq_true rfl, Nat.le_of_ble_eq_true rfl⟩) (xpV E hP hS (xR_lt (by decide : xR 173)).1 (xc_RO _ _ _ _ (by decide : xR 173)) rfl) rfl rfl hl.1 rfl (lv_room (Nat.le_of_ble_eq_true rfl)) d_RD_readGoals_77 ⟨Nat.le_of_ble_eq_true rfl, Nat.le_of_ble_eq_true rfl⟩) hS (fun H locs hP hS => ?_)
              refine lv_iinc (v := a4 + (1 : Int32)) (lv' := [(4, .int (a4 + (1 : Int32))), (3, .int (0 : Int32)), (7, .int v87), (0, .ref (lay 179)), (1, .int a1), (2, .ref (lay 173)), (5, .int a5), (6, .int a6)]) hx hb d_RD_readGoals_80 hl (k := 5) rfl (by rfl) (by decide) rfl (fun ls hl => ?_)
              refine lv_iload_n hx hb d_RD_readGoals_83 rfl (lv_at hl 4 rfl) ?_
              refine lv_iconst (v := (1 : Int32)) hx hb d_RD_readGoals_84 (by decide) ?_
              refine lv_icmp_eq (tgt := 104) hx hb d_RD_readGoals_85 (by decide) (fun c_137 => ?_) (fun c_137 => ?_)
              · have h := xif_t c_137 h
                refine lv_iconst (v := (0 : Int32)) hx hb d_RD_readGoals_104 (by decide) ?_
                refine lv_istore (lv' := [(5, .int (0 : Int32)), (4, .int (a4 + (1 : Int32))), (3, .int (0 : Int32)), (7, .int v87), (0, .ref (lay 179)), (1, .int a1), (2, .ref (lay 173)), (6, .int a6)]) hx hb d_RD_readGoals_105 hl (by decide) rfl (fun ls hl => ?_)
                refine lv_iload hx hb d_RD_readGoals_107 (lv_at hl 0 rfl) ?_
                refine lv_if_eq (tgt := 119) hx hb d_RD_readGoals_109 (by decide) (fun c_121 => ?_) (fun c_121 => ?_)
                · have h := xif_t c_121 h
                  refine lv_iinc (v := a6 + (1 : Int32)) (lv' := [(6, .int (a6 + (1 : Int32))), (5, .int (0 : Int32)), (4, .int (a4 + (1 : Int32))), (3, .int (0 : Int32)), (7, .int v87), (0, .ref (lay 179)), (1, .int a1), (2, .ref (lay 173))]) hx hb d_RD_readGoals_119 hl (k := 7) rfl (by rfl) (by decide) rfl (fun ls hl => ?_)
                  refine lv_goto (tgt := 19) hx hb d_RD_readGoals_122 (by decide) ?_
                  exact ih q115 a1 (0 : Int32) (a4 + (1 : Int32)) (0 : Int32) (a6 + (1 : Int32)) _ h H locs ls hP hS (lv_sub hl [5, 6, 7, 3, 2, 1, 0] rfl)
                · have h := xif_f c_121 h
                  refine lv_aload_n hx hb d_RD_readGoals_112 rfl (lv_at hl 4 rfl) ?_
                  refine va_get (v := .ref (lay 2)) (C := R_RD) (T := F_RD) (N := 4) hx hb hts i_RD hown hK hP 179 (xw_at (by decide) (xc_179 _ _ _ _)) rfl 0 (by decide) (hts _ wd_169) (fun _ h9 => h9) rfl d_RD_readGoals_113 ?_
                  obtain ⟨q117, e116, h⟩ := xb h
                  refine xk_v (xrunV (As := []) (rest := []) ⟨hx, hb, hml, hown, hts⟩ (c_WO_next l hq D lay cA adK adV s0 q115 q117 e116) (cwV 0 hts (xT_V wd_522 wd_285 wd_286 wd_2 wd_287) rfl rfl rfl (by decide +kernel) ⟨Nat.le_of_ble_eq_true rfl, Nat.le_of_ble_eq_true rfl⟩) (xpV E hP hS (by decide) (xc_2 _ _ _ _) rfl) rfl rfl hl.1 rfl (lv_room (Nat.le_of_ble_eq_true rfl)) d_RD_readGoals_116 ⟨Nat.le_of_ble_eq_true rfl, Nat.le_of_ble_eq_true rfl⟩) hS hnh hlk (fun S9 e9 => by subst e9; exact (Option.some.inj h).symm) (fun v118 S119 w120 H locs hP hS => ?_)
                  subst w120
                  dsimp only [xT2] at h
                  refine lv_iinc (v := a6 + (1 : Int32)) (lv' := [(6, .int (a6 + (1 : Int32))), (5, .int (0 : Int32)), (4, .int (a4 + (1 : Int32))), (3, .int (0 : Int32)), (7, .int v87), (0, .ref (lay 179)), (1, .int a1), (2, .ref (lay 173))]) hx hb d_RD_readGoals_119 hl (k := 7) rfl (by rfl) (by decide) rfl (fun ls hl => ?_)
                  refine lv_goto (tgt := 19) hx hb d_RD_readGoals_122 (by decide) ?_
                  exact ih S119 a1 (0 : Int32) (a4 + (1 : Int32)) (0 : Int32) (a6 + (1 : Int32)) _ h H locs ls hP hS (lv_sub hl [5, 6, 7, 3, 2, 1, 0] rfl)
              · have h := xif_f c_137 h
                refine lv_aload_n hx hb d_RD_readGoals_88 rfl (lv_at hl 3 rfl) ?_
                refine va_get (v := .ref (lay 2)) (C := R_RD) (T := F_RD) (N := 4) hx hb hts i_RD hown hK hP 179 (xw_at (by decide) (xc_179 _ _ _ _)) rfl 0 (by decide) (hts _ wd_169) (fun _ h9 => h9) rfl d_RD_readGoals_89 ?_
                refine va_ldcS hx hb hown (E.lit (List.mem_of_getElem? (i := 28) rfl : ("ConfigTexts$Reader", 216, ",", 26) ∈ xlits)) d_RD_readGoals_92 ?_
                obtain ⟨q123, e122, h⟩ := xb h
                refine xc_i (va_runV (As := [.ref (adK 26)]) (rest := []) ⟨hx, hb, hml, hown, hts⟩ (c_WO_is l D lay cA adK adV s0 q115 26 q123 e122) (cwV 1 hts (xT_V wd_536 wd_456 wd_457 wd_2 wd_458) rfl rfl rfl (by decide +kernel) ⟨Nat.le_of_ble_eq_true rfl, Nat.le_of_ble_eq_true rfl⟩) (xpV E hP hS (by decide) (xc_2 _ _ _ _) rfl) rfl rfl hl.1 rfl (lv_room (Nat.le_of_ble_eq_true rfl)) d_RD_readGoals_94 ⟨Nat.le_of_ble_eq_true rfl, Nat.le_of_ble_eq_true rfl⟩) hS (fun H locs hP hS => ?_)
                refine lv_if_eq (tgt := 104) hx hb d_RD_readGoals_97 (by decide) (fun c_136 => ?_) (fun c_136 => ?_)
                · have h := xif_t c_136 h
                  refine lv_iconst (v := (0 : Int32)) hx hb d_RD_readGoals_104 (by decide) ?_
                  refine lv_istore (lv' := [(5, .int (0 : Int32)), (4, .int (a4 + (1 : Int32))), (3, .int (0 : Int32)), (7, .int v87), (0, .ref (lay 179)), (1, .int a1), (2, .ref (lay 173)), (6, .int a6)]) hx hb d_RD_readGoals_105 hl (by decide) rfl (fun ls hl => ?_)
                  refine lv_iload hx hb d_RD_readGoals_107 (lv_at hl 0 rfl) ?_
                  refine lv_if_eq (tgt := 119) hx hb d_RD_readGoals_109 (by decide) (fun c_129 => ?_) (fun c_129 => ?_)
                  · have h := xif_t c_129 h
                    refine lv_iinc (v := a6 + (1 : Int32)) (lv' := [(6, .int (a6 + (1 : Int32))), (5, .int (0 : Int32)), (4, .int (a4 + (1 : Int32))), (3, .int (0 : Int32)), (7, .int v87), (0, .ref (lay 179)), (1, .int a1), (2, .ref (lay 173))]) hx hb d_RD_readGoals_119 hl (k := 7) rfl (by rfl) (by decide) rfl (fun ls hl => ?_)
                    refine lv_goto (tgt := 19) hx hb d_RD_readGoals_122 (by decide) ?_
                    exact ih q115 a1 (0 : Int32) (a4 + (1 : Int32)) (0 : Int32) (a6 + (1 : Int32)) _ h H locs ls hP hS (lv_sub hl [5, 6, 7, 3, 2, 1, 0] rfl)
                  · have h := xif_f c_129 h
                    refine lv_aload_n hx hb d_RD_readGoals_112 rfl (lv_at hl 4 rfl) ?_
                    refine va_get (v := .ref (lay 2)) (C := R_RD) (T := F_RD) (N := 4) hx hb hts i_RD hown hK hP 179 (xw_at (by decide) (xc_179 _ _ _ _)) rfl 0 (by decide) (hts _ wd_169) (fun _ h9 => h9) rfl d_RD_readGoals_113 ?_
                    obtain ⟨q125, e124, h⟩ := xb h
                    refine xk_v (xrunV (As := []) (rest := []) ⟨hx, hb, hml, hown, hts⟩ (c_WO_next l hq D lay cA adK adV s0 q115 q125 e124) (cwV 0 hts (xT_V wd_522 wd_285 wd_286 wd_2 wd_287) rfl rfl rfl (by decide +kernel) ⟨Nat.le_of_ble_eq_true rfl, Nat.le_of_ble_eq_true rfl⟩) (xpV E hP hS (by decide) (xc_2 _ _ _ _) rfl) rfl rfl hl.1 rfl (lv_room (Nat.le_of_ble_eq_true rfl)) d_RD_readGoals_116 ⟨Nat.le_of_ble_eq_true rfl, Nat.le_of_ble_eq_true rfl⟩) hS hnh hlk (fun S9 e9 => by subst e9; exact (Option.some.inj h).symm) (fun v126 S127 w128 H locs hP hS => ?_)
                    subst w128
                    dsimp only [xT2] at h
                    refine lv_iinc (v := a6 + (1 : Int32)) (lv' := [(6, .int (a6 + (1 : Int32))), (5, .int (0 : Int32)), (4, .int (a4 + (1 : Int32))), (3, .int (0 : Int32)), (7, .int v87), (0, .ref (lay 179)), (1, .int a1), (2, .ref (lay 173))]) hx hb d_RD_readGoals_119 hl (k := 7) rfl (by rfl) (by decide) rfl (fun ls hl => ?_)
                    refine lv_goto (tgt := 19) hx hb d_RD_readGoals_122 (by decide) ?_
                    exact ih S127 a1 (0 : Int32) (a4 + (1 : Int32)) (0 : Int32) (a6 + (1 : Int32)) _ h H locs ls hP hS (lv_sub hl [5, 6, 7, 3, 2, 1, 0] rfl)
                · have h := xif_f c_136 h
                  refine lv_iconst (v := (1 : Int32)) hx hb d_RD_readGoals_100 (by decide) ?_
                  refine lv_goto (tgt := 105) hx hb d_RD_readGoals_101 (by decide) ?_
                  refine lv_istore (lv' := [(5, .int (1 : Int32)), (4, .int (a4 + (1 : Int32))), (3, .int (0 : Int32)), (7, .int v87), (0, .ref (lay 179)), (1, .int a1), (2, .ref (lay 173)), (6, .int a6)]) hx hb d_RD_readGoals_105 hl (by decide) rfl (fun ls hl => ?_)
                  refine lv_iload hx hb d_RD_readGoals_107 (lv_at hl 0 rfl) ?_
                  refine lv_if_eq (tgt := 119) hx hb d_RD_readGoals_109 (by decide) (fun c_135 => ?_) (fun c_135 => ?_)
                  · have h := xif_t c_135 h
                    refine lv_iinc (v := a6 + (1 : Int32)) (lv' := [(6, .int (a6 + (1 : Int32))), (5, .int (1 : Int32)), (4, .int (a4 + (1 : Int32))), (3, .int (0 : Int32)), (7, .int v87), (0, .ref (lay 179)), (1, .int a1), (2, .ref (lay 173))]) hx hb d_RD_readGoals_119 hl (k := 7) rfl (by rfl) (by decide) rfl (fun ls hl => ?_)
                    refine lv_goto (tgt := 19) hx hb d_RD_readGoals_122 (by decide) ?_
                    exact ih q115 a1 (0 : Int32) (a4 + (1 : Int32)) (1 : Int32) (a6 + (1 : Int32)) _ h H locs ls hP hS (lv_sub hl [5, 6, 7, 3, 2, 1, 0] rfl)
                  · have h := xif_f c_135 h
                    refine lv_aload_n hx hb d_RD_readGoals_112 rfl (lv_at hl 4 rfl) ?_
                    refine va_get (v := .ref (lay 2)) (C := R_RD) (T := F_RD) (N := 4) hx hb hts i_RD hown hK hP 179 (xw_at (by decide) (xc_179 _ _ _ _)) rfl 0 (by decide) (hts _ wd_169) (fun _ h9 => h9) rfl d_RD_readGoals_113 ?_
                    obtain ⟨q131, e130, h⟩ := xb h
                    refine xk_v (xrunV (As := []) (rest := []) ⟨hx, hb, hml, hown, hts⟩ (c_WO_next l hq D lay cA adK adV s0 q115 q131 e130) (cwV 0 hts (xT_V wd_522 wd_285 wd_286 wd_2 wd_287) rfl rfl rfl (by decide +kernel) ⟨Nat.le_of_ble_eq_true rfl, Nat.le_of_ble_eq_true rfl⟩) (xpV E hP hS (by decide) (xc_2 _ _ _ _) rfl) rfl rfl hl.1 rfl (lv_room (Nat.le_of_ble_eq_true rfl)) d_RD_readGoals_116 ⟨Nat.le_of_ble_eq_true rfl, Nat.le_of_ble_eq_true rfl⟩) hS hnh hlk (fun S9 e9 => by subst e9; exact (Option.some.inj h).symm) (fun v132 S133 w134 H locs hP hS => ?_)
                    subst w134
                    dsimp only [xT2] at h
                    refine lv_iinc (v := a6 + (1 : Int32)) (lv' := [(6, .int (a6 + (1 : Int32))), (5, .int (1 : Int32)), (4, .int (a4 + (1 : Int32))), (3, .int (0 : Int32)), (7, .int v87), (0, .ref (lay 179)), (1, .int a1), (2, .ref (lay 173))]) hx hb d_RD_readGoals_119 hl (k := 7) rfl (by rfl) (by decide) rfl (fun ls hl => ?_)
                    refine lv_goto (tgt := 19) hx hb d_RD_readGoals_122 (by decide) ?_
                    exact ih S133 a1 (0 : Int32) (a4 + (1 : Int32)) (1 : Int32) (a6 + (1 : Int32)) _ h H locs ls hP hS (lv_sub hl [5, 6, 7, 3, 2, 1, 0] rfl)
            · have h := xif_t c_162 h
              refine lv_iconst (v := (1 : Int32)) hx hb d_RD_readGoals_64 (by decide) ?_
              refine lv_goto (tgt := 69) hx hb d_RD_readGoals_65 (by decide) ?_
              refine lv_istore_n (lv' := [(3, .int (1 : Int32)), (7, .int v87), (0, .ref (lay 179)), (1, .int a1), (2, .ref (lay 173)), (4, .int a4), (5, .int a5), (6, .int a6)]) hx hb d_RD_readGoals_69 rfl hl (by decide) rfl (fun ls hl => ?_)
              refine lv_aload_n hx hb d_RD_readGoals_70 rfl (lv_at hl 4 rfl) ?_
              refine lv_iconst (v := (4 : Int32)) hx hb d_RD_readGoals_71 (by decide) ?_
              refine lv_iload hx hb d_RD_readGoals_72 (lv_at hl 5 rfl) ?_
              refine lv_iadd hx hb d_RD_readGoals_74 ?_
              refine lv_iload hx hb d_RD_readGoals_75 (lv_at hl 1 rfl) ?_
              obtain ⟨q139, e138, h⟩ := xb h
              refine xc_v (va_runV (As := [.int ((4 : Int32) + a4), .int v87]) (rest := []) ⟨hx, hb, hml, hown, hts⟩ (c_RO_setLast l D lay cA adK adV s0 S88 173 ((4 : Int32) + a4) v87 q139 e138) (cwV 2 hts (xT_V wd_565 wd_566 wd_567 wd_5 wd_568) rfl rfl rfl (by decide +kernel) ⟨Nat.le_of_ble_eq_true rfl, Nat.le_of_ble_eq_true rfl⟩) (xpV E hP hS (xR_lt (by decide : xR 173)).1 (xc_RO _ _ _ _ (by decide : xR 173)) rfl) rfl rfl hl.1 rfl (lv_room (Nat.le_of_ble_eq_true rfl)) d_RD_readGoals_77 ⟨Nat.le_of_ble_eq_true rfl, Nat.le_of_ble_eq_true rfl⟩) hS (fun H locs hP hS => ?_)
              refine lv_iinc (v := a4 + (1 : Int32)) (lv' := [(4, .int (a4 + (1 : Int32))), (3, .int (1 : Int32)), (7, .int v87), (0, .ref (lay 179)), (1, .int a1), (2, .ref (lay 173)), (5, .int a5), (6, .int a6)]) hx hb d_RD_readGoals_80 hl (k := 5) rfl (by rfl) (by decide) rfl (fun ls hl => ?_)
              refine lv_iload_n hx hb d_RD_readGoals_83 rfl (lv_at hl 4 rfl) ?_
              refine lv_iconst (v := (1 : Int32)) hx hb d_RD_readGoals_84 (by decide) ?_
              refine lv_icmp_eq (tgt := 104) hx hb d_RD_readGoals_85 (by decide) (fun c_161 => ?_) (fun c_161 => ?_)
              · have h := xif_t c_161 h
                refine lv_iconst (v := (0 : Int32)) hx hb d_RD_readGoals_104 (by decide) ?_
                refine lv_istore (lv' := [(5, .int (0 : Int32)), (4, .int (a4 + (1 : Int32))), (3, .int (1 : Int32)), (7, .int v87), (0, .ref (lay 179)), (1, .int a1), (2, .ref (lay 173)), (6, .int a6)]) hx hb d_RD_readGoals_105 hl (by decide) rfl (fun ls hl => ?_)
                refine lv_iload hx hb d_RD_readGoals_107 (lv_at hl 0 rfl) ?_
                refine lv_if_eq (tgt := 119) hx hb d_RD_readGoals_109 (by decide) (fun c_145 => ?_) (fun c_145 => ?_)
                · have h := xif_t c_145 h
                  refine lv_iinc (v := a6 + (1 : Int32)) (lv' := [(6, .int (a6 + (1 : Int32))), (5, .int (0 : Int32)), (4, .int (a4 + (1 : Int32))), (3, .int (1 : Int32)), (7, .int v87), (0, .ref (lay 179)), (1, .int a1), (2, .ref (lay 173))]) hx hb d_RD_readGoals_119 hl (k := 7) rfl (by rfl) (by decide) rfl (fun ls hl => ?_)
                  refine lv_goto (tgt := 19) hx hb d_RD_readGoals_122 (by decide) ?_
                  exact ih q139 a1 (1 : Int32) (a4 + (1 : Int32)) (0 : Int32) (a6 + (1 : Int32)) _ h H locs ls hP hS (lv_sub hl [5, 6, 7, 3, 2, 1, 0] rfl)
                · have h := xif_f c_145 h
                  refine lv_aload_n hx hb d_RD_readGoals_112 rfl (lv_at hl 4 rfl) ?_
                  refine va_get (v := .ref (lay 2)) (C := R_RD) (T := F_RD) (N := 4) hx hb hts i_RD hown hK hP 179 (xw_at (by decide) (xc_179 _ _ _ _)) rfl 0 (by decide) (hts _ wd_169) (fun _ h9 => h9) rfl d_RD_readGoals_113 ?_
                  obtain ⟨q141, e140, h⟩ := xb h
                  refine xk_v (xrunV (As := []) (rest := []) ⟨hx, hb, hml, hown, hts⟩ (c_WO_next l hq D lay cA adK adV s0 q139 q141 e140) (cwV 0 hts (xT_V wd_522 wd_285 wd_286 wd_2 wd_287) rfl rfl rfl (by decide +kernel) ⟨Nat.le_of_ble_eq_true rfl, Nat.le_of_ble_eq_true rfl⟩) (xpV E hP hS (by decide) (xc_2 _ _ _ _) rfl) rfl rfl hl.1 rfl (lv_room (Nat.le_of_ble_eq_true rfl)) d_RD_readGoals_116 ⟨Nat.le_of_ble_eq_true rfl, Nat.le_of_ble_eq_true rfl⟩) hS hnh hlk (fun S9 e9 => by subst e9; exact (Option.some.inj h).symm) (fun v142 S143 w144 H locs hP hS => ?_)
                  subst w144
                  dsimp only [xT2] at h
                  refine lv_iinc (v := a6 + (1 : Int32)) (lv' := [(6, .int (a6 + (1 : Int32))), (5, .int (0 : Int32)), (4, .int (a4 + (1 : Int32))), (3, .int (1 : Int32)), (7, .int v87), (0, .ref (lay 179)), (1, .int a1), (2, .ref (lay 173))]) hx hb d_RD_readGoals_119 hl (k := 7) rfl (by rfl) (by decide) rfl (fun ls hl => ?_)
                  refine lv_goto (tgt := 19) hx hb d_RD_readGoals_122 (by decide) ?_
                  exact ih S143 a1 (1 : Int32) (a4 + (1 : Int32)) (0 : Int32) (a6 + (1 : Int32)) _ h H locs ls hP hS (lv_sub hl [5, 6, 7, 3, 2, 1, 0] rfl)
              · have h := xif_f c_161 h
                refine lv_aload_n hx hb d_RD_readGoals_88 rfl (lv_at hl 3 rfl) ?_
                refine va_get (v := .ref (lay 2)) (C := R_RD) (T := F_RD) (N := 4) hx hb hts i_RD hown hK hP 179 (xw_at (by decide) (xc_179 _ _ _ _)) rfl 0 (by decide) (hts _ wd_169) (fun _ h9 => h9) rfl d_RD_readGoals_89 ?_
                refine va_ldcS hx hb hown (E.lit (List.mem_of_getElem? (i := 28) rfl : ("ConfigTexts$Reader", 216, ",", 26) ∈ xlits)) d_RD_readGoals_92 ?_
                obtain ⟨q147, e146, h⟩ := xb h
                refine xc_i (va_runV (As := [.ref (adK 26)]) (rest := []) ⟨hx, hb, hml, hown, hts⟩ (c_WO_is l D lay cA adK adV s0 q139 26 q147 e146) (cwV 1 hts (xT_V wd_536 wd_456 wd_457 wd_2 wd_458) rfl rfl rfl (by decide +kernel) ⟨Nat.le_of_ble_eq_true rfl, Nat.le_of_ble_eq_true rfl⟩) (xpV E hP hS (by decide) (xc_2 _ _ _ _) rfl) rfl rfl hl.1 rfl (lv_room (Nat.le_of_ble_eq_true rfl)) d_RD_readGoals_94 ⟨Nat.le_of_ble_eq_true rfl, Nat.le_of_ble_eq_true rfl⟩) hS (fun H locs hP hS => ?_)
                refine lv_if_eq (tgt := 104) hx hb d_RD_readGoals_97 (by decide) (fun c_160 => ?_) (fun c_160 => ?_)
                · have h := xif_t c_160 h
                  refine lv_iconst (v := (0 : Int32)) hx hb d_RD_readGoals_104 (by decide) ?_
                  refine lv_istore (lv' := [(5, .int (0 : Int32)), (4, .int (a4 + (1 : Int32))), (3, .int (1 : Int32)), (7, .int v87), (0, .ref (lay 179)), (1, .int a1), (2, .ref (lay 173)), (6, .int a6)]) hx hb d_RD_readGoals_105 hl (by decide) rfl (fun ls hl => ?_)
                  refine lv_iload hx hb d_RD_readGoals_107 (lv_at hl 0 rfl) ?_
                  refine lv_if_eq (tgt := 119) hx hb d_RD_readGoals_109 (by decide) (fun c_153 => ?_) (fun c_153 => ?_)
                  · have h := xif_t c_153 h
                    refine lv_iinc (v := a6 + (1 : Int32)) (lv' := [(6, .int (a6 + (1 : Int32))), (5, .int (0 : Int32)), (4, .int (a4 + (1 : Int32))), (3, .int (1 : Int32)), (7, .int v87), (0, .ref (lay 179)), (1, .int a1), (2, .ref (lay 173))]) hx hb d_RD_readGoals_119 hl (k := 7) rfl (by rfl) (by decide) rfl (fun ls hl => ?_)
                    refine lv_goto (tgt := 19) hx hb d_RD_readGoals_122 (by decide) ?_
                    exact ih q139 a1 (1 : Int32) (a4 + (1 : Int32)) (0 : Int32) (a6 + (1 : Int32)) _ h H locs ls hP hS (lv_sub hl [5, 6, 7, 3, 2, 1, 0] rfl)
                  · have h := xif_f c_153 h
                    refine lv_aload_n hx hb d_RD_readGoals_112 rfl (lv_at hl 4 rfl) ?_
                    refine va_get (v := .ref (lay 2)) (C := R_RD) (T := F_RD) (N := 4) hx hb hts i_RD hown hK hP 179 (xw_at (by decide) (xc_179 _ _ _ _)) rfl 0 (by decide) (hts _ wd_169) (fun _ h9 => h9) rfl d_RD_readGoals_113 ?_
                    obtain ⟨q149, e148, h⟩ := xb h
                    refine xk_v (xrunV (As := []) (rest := []) ⟨hx, hb, hml, hown, hts⟩ (c_WO_next l hq D lay cA adK adV s0 q139 q149 e148) (cwV 0 hts (xT_V wd_522 wd_285 wd_286 wd_2 wd_287) rfl rfl rfl (by decide +kernel) ⟨Nat.le_of_ble_eq_true rfl, Nat.le_of_ble_eq_true rfl⟩) (xpV E hP hS (by decide) (xc_2 _ _ _ _) rfl) rfl rfl hl.1 rfl (lv_room (Nat.le_of_ble_eq_true rfl)) d_RD_readGoals_116 ⟨Nat.le_of_ble_eq_true rfl, Nat.le_of_ble_eq_true rfl⟩) hS hnh hlk (fun S9 e9 => by subst e9; exact (Option.some.inj h).symm) (fun v150 S151 w152 H locs hP hS => ?_)
                    subst w152
                    dsimp only [xT2] at h
                    refine lv_iinc (v := a6 + (1 : Int32)) (lv' := [(6, .int (a6 + (1 : Int32))), (5, .int (0 : Int32)), (4, .int (a4 + (1 : Int32))), (3, .int (1 : Int32)), (7, .int v87), (0, .ref (lay 179)), (1, .int a1), (2, .ref (lay 173))]) hx hb d_RD_readGoals_119 hl (k := 7) rfl (by rfl) (by decide) rfl (fun ls hl => ?_)
                    refine lv_goto (tgt := 19) hx hb d_RD_readGoals_122 (by decide) ?_
                    exact ih S151 a1 (1 : Int32) (a4 + (1 : Int32)) (0 : Int32) (a6 + (1 : Int32)) _ h H locs ls hP hS (lv_sub hl [5, 6, 7, 3, 2, 1, 0] rfl)
                · have h := xif_f c_160 h
                  refine lv_iconst (v := (1 : Int32)) hx hb d_RD_readGoals_100 (by decide) ?_
                  refine lv_goto (tgt := 105) hx hb d_RD_readGoals_101 (by decide) ?_
                  refine lv_istore (lv' := [(5, .int (1 : Int32)), (4, .int (a4 + (1 : Int32))), (3, .int (1 : Int32)), (7, .int v87), (0, .ref (lay 179)), (1, .int a1), (2, .ref (lay 173)), (6, .int a6)]) hx hb d_RD_readGoals_105 hl (by decide) rfl (fun ls hl => ?_)
                  refine lv_iload hx hb d_RD_readGoals_107 (lv_at hl 0 rfl) ?_
                  refine lv_if_eq (tgt := 119) hx hb d_RD_readGoals_109 (by decide) (fun c_159 => ?_) (fun c_159 => ?_)
                  · have h := xif_t c_159 h
                    refine lv_iinc (v := a6 + (1 : Int32)) (lv' := [(6, .int (a6 + (1 : Int32))), (5, .int (1 : Int32)), (4, .int (a4 + (1 : Int32))), (3, .int (1 : Int32)), (7, .int v87), (0, .ref (lay 179)), (1, .int a1), (2, .ref (lay 173))]) hx hb d_RD_readGoals_119 hl (k := 7) rfl (by rfl) (by decide) rfl (fun ls hl => ?_)
                    refine lv_goto (tgt := 19) hx hb d_RD_readGoals_122 (by decide) ?_
                    exact ih q139 a1 (1 : Int32) (a4 + (1 : Int32)) (1 : Int32) (a6 + (1 : Int32)) _ h H locs ls hP hS (lv_sub hl [5, 6, 7, 3, 2, 1, 0] rfl)
                  · have h := xif_f c_159 h
                    refine lv_aload_n hx hb d_RD_readGoals_112 rfl (lv_at hl 4 rfl) ?_
                    refine va_get (v := .ref (lay 2)) (C := R_RD) (T := F_RD) (N := 4) hx hb hts i_RD hown hK hP 179 (xw_at (by decide) (xc_179 _ _ _ _)) rfl 0 (by decide) (hts _ wd_169) (fun _ h9 => h9) rfl d_RD_readGoals_113 ?_
                    obtain ⟨q155, e154, h⟩ := xb h
                    refine xk_v (xrunV (As := []) (rest := []) ⟨hx, hb, hml, hown, hts⟩ (c_WO_next l hq D lay cA adK adV s0 q139 q155 e154) (cwV 0 hts (xT_V wd_522 wd_285 wd_286 wd_2 wd_287) rfl rfl rfl (by decide +kernel) ⟨Nat.le_of_ble_eq_true rfl, Nat.le_of_ble_eq_true rfl⟩) (xpV E hP hS (by decide) (xc_2 _ _ _ _) rfl) rfl rfl hl.1 rfl (lv_room (Nat.le_of_ble_eq_true rfl)) d_RD_readGoals_116 ⟨Nat.le_of_ble_eq_true rfl, Nat.le_of_ble_eq_true rfl⟩) hS hnh hlk (fun S9 e9 => by subst e9; exact (Option.some.inj h).symm) (fun v156 S157 w158 H locs hP hS => ?_)
                    subst w158
                    dsimp only [xT2] at h
                    refine lv_iinc (v := a6 + (1 : Int32)) (lv' := [(6, .int (a6 + (1 : Int32))), (5, .int (1 : Int32)), (4, .int (a4 + (1 : Int32))), (3, .int (1 : Int32)), (7, .int v87), (0, .ref (lay 179)), (1, .int a1), (2, .ref (lay 173))]) hx hb d_RD_readGoals_119 hl (k := 7) rfl (by rfl) (by decide) rfl (fun ls hl => ?_)
                    refine lv_goto (tgt := 19) hx hb d_RD_readGoals_122 (by decide) ?_
                    exact ih S157 a1 (1 : Int32) (a4 + (1 : Int32)) (1 : Int32) (a6 + (1 : Int32)) _ h H locs ls hP hS (lv_sub hl [5, 6, 7, 3, 2, 1, 0] rfl)
def f_RD_readGoals (S : XS) (a1 : Int32) : Option ((Unit × XS) ⊕ XS) :=
  f_RD_readGoals_19 4096 S a1 (0 : Int32) (0 : Int32) (1 : Int32) (0 : Int32)
set_option maxHeartbeats 4000000 in
set_option maxRecDepth 100000 in
theorem k_RD_readGoals (l : Launch) (hq : l.stackTraces = false) {p : Program} {e : Env} {s : State} {m : MethodId} {args : Array Value} {below : List Frame} {meth : Method} {c : Code} {D : va_G} {lay : Nat → Nat} {cA : Nat → ClassId} {adK adV : Nat → Nat} {s0 : State} (C : xB p s m args meth c R_RD b_RD_readGoals ((Option.none : Option Jvm.ClassFile.FieldType)) 8) (E : xE D lay cA adK adV s0 s s.heap) : ∀ (S : XS) (a1 : Int32) (r : (Unit × XS) ⊕ XS) (_ : f_RD_readGoals S a1 = some r) (H : Heap) (locs : List Loc) (ls : Array Slot), va_P D xcl (xw lay cA S) H → va_S (xI lay) s.heap H locs → lv_has ls 8 [(0, .ref (lay 179)), (1, .int a1)] → W p l e rm_RD_readGoals s m args below meth c H locs 0 0 (XF below (xrv D lay cA r) (xrt D lay cA r) s 0 0 1 6 (xI lay)) (F0 m 0 ls []) := by
  obtain ⟨hx, hb, hr, hml, hown, hts, hlk, hnh⟩ := id C
  have hK := E.K
  intro S a1 r h H locs ls hP hS hl
  unfold f_RD_readGoals at h
  refine lv_aload_n hx hb d_RD_readGoals_0 rfl (lv_at hl 0 rfl) ?_
  refine va_get (v := .ref (lay 3)) (C := R_RD) (T := F_RD) (N := 4) hx hb hts i_RD hown hK hP 179 (xw_at (by decide) (xc_179 _ _ _ _)) rfl 1 (by decide) (hts _ wd_170) (fun _ h9 => h9) rfl d_RD_readGoals_1 ?_
  refine va_getN (v := .ref (lay 173)) (C := R_CF) (T := F_CF) (N := 7) hx hb hts i_CF hown hK hP 3 (xw_at (by decide) (xc_3 _ _ _ _)) rfl 2 (by decide) (E.nest wn_138) (fun _ h9 => h9) rfl d_RD_readGoals_4 ?_
  refine lv_astore_n (lv' := [(2, .ref (lay 173)), (0, .ref (lay 179)), (1, .int a1)]) hx hb d_RD_readGoals_7 rfl hl (by decide) rfl (fun ls hl => ?_)
  refine lv_iconst (v := (0 : Int32)) hx hb d_RD_readGoals_8 (by decide) ?_
  refine lv_istore_n (lv' := [(3, .int (0 : Int32)), (2, .ref (lay 173)), (0, .ref (lay 179)), (1, .int a1)]) hx hb d_RD_readGoals_9 rfl hl (by decide) rfl (fun ls hl => ?_)
  refine lv_iconst (v := (0 : Int32)) hx hb d_RD_readGoals_10 (by decide) ?_
  refine lv_istore (lv' := [(4, .int (0 : Int32)), (3, .int (0 : Int32)), (2, .ref (lay 173)), (0, .ref (lay 179)), (1, .int a1)]) hx hb d_RD_readGoals_11 hl (by decide) rfl (fun ls hl => ?_)
  refine lv_iconst (v := (1 : Int32)) hx hb d_RD_readGoals_13 (by decide) ?_
  refine lv_istore (lv' := [(5, .int (1 : Int32)), (4, .int (0 : Int32)), (3, .int (0 : Int32)), (2, .ref (lay 173)), (0, .ref (lay 179)), (1, .int a1)]) hx hb d_RD_readGoals_14 hl (by decide) rfl (fun ls hl => ?_)
  refine lv_iconst (v := (0 : Int32)) hx hb d_RD_readGoals_16 (by decide) ?_
  refine lv_istore (lv' := [(6, .int (0 : Int32)), (5, .int (1 : Int32)), (4, .int (0 : Int32)), (3, .int (0 : Int32)), (2, .ref (lay 173)), (0, .ref (lay 179)), (1, .int a1)]) hx hb d_RD_readGoals_17 hl (by decide) rfl (fun ls hl => ?_)
  exact k_RD_readGoals_19 l hq C E 4096 S a1 (0 : Int32) (0 : Int32) (1 : Int32) (0 : Int32) _ h H locs ls hP hS (lv_sub hl [5, 6, 4, 3, 2, 1, 0] rfl)
theorem c_RD_readGoals (l : Launch) (hq : l.stackTraces = false) (D : va_G) (lay : Nat → Nat) (cA : Nat → ClassId) (adK adV : Nat → Nat) (s0 : State) (S : XS) (a1 : Int32) (r : (Unit × XS) ⊕ XS) (h : f_RD_readGoals S a1 = some r) : MetX l y_RD_readGoals (.code y_RD_readGoals b_RD_readGoals 8 ((Option.none : Option Jvm.ClassFile.FieldType)) :: xT) rm_RD_readGoals (xPc D lay cA adK adV s0 S [.ref (lay 179), .int a1]) (xrv D lay cA r) (xrt D lay cA r) 0 0 1 6 (xI lay) := by
  refine MetX.ofW (cc := b_RD_readGoals) (maxL := 8) (ret := (Option.none : Option Jvm.ClassFile.FieldType)) (by decide +kernel) rfl ?_
  intro p e s m args below meth c s₁ B hml hv
  obtain ⟨rfl, hP, E⟩ := hv
  have C := xB_of B hml
  have hl := lv_entry ([.ref (lay 179), .int a1]) (n := 8) (Nat.le_of_ble_eq_true rfl)
  rw [lg_entry_eq]
  generalize (lg_sl ([.ref (lay 179), .int a1]) ++ List.replicate (8 - (lg_sl ([.ref (lay 179), .int a1])).length) Slot.unset).toArray = ls at hl ⊢
  exact k_RD_readGoals l hq C E S a1 r h s.heap [] ls hP va_S.rf hl
/-! ConfigTexts$Reader.readChannel()V -/
def rm_RD_readChannel : Room := { frames := 11, cells := 1, slots := 6, locals := 218 }
theorem d_RD_readChannel_0 : decode b_RD_readChannel 0 = .ok (.aload_n 0, 1) := by decide +kernel
theorem d_RD_readChannel_1 : decode b_RD_readChannel 1 = .ok (.getfield 15, 3) := by decide +kernel
theorem d_RD_readChannel_4 : decode b_RD_readChannel 4 = .ok (.getfield 194, 3) := by decide +kernel
theorem d_RD_readChannel_7 : decode b_RD_readChannel 7 = .ok (.astore_n 1, 1) := by decide +kernel
theorem d_RD_readChannel_8 : decode b_RD_readChannel 8 = .ok (.aload_n 1, 1) := by decide +kernel
theorem d_RD_readChannel_9 : decode b_RD_readChannel 9 = .ok (.invokevirtual 130, 3) := by decide +kernel
theorem d_RD_readChannel_12 : decode b_RD_readChannel 12 = .ok (.ifCond .eq 11, 3) := by decide +kernel
theorem d_RD_readChannel_15 : decode b_RD_readChannel 15 = .ok (.aload_n 0, 1) := by decide +kernel
theorem d_RD_readChannel_16 : decode b_RD_readChannel 16 = .ok (.getfield 9, 3) := by decide +kernel
theorem d_RD_readChannel_19 : decode b_RD_readChannel 19 = .ok (.iconst 4, 1) := by decide +kernel
theorem d_RD_readChannel_20 : decode b_RD_readChannel 20 = .ok (.invokevirtual 98, 3) := by decide +kernel
theorem d_RD_readChannel_23 : decode b_RD_readChannel 23 = .ok (.aload_n 0, 1) := by decide +kernel
theorem d_RD_readChannel_24 : decode b_RD_readChannel 24 = .ok (.getfield 9, 3) := by decide +kernel
theorem d_RD_readChannel_27 : decode b_RD_readChannel 27 = .ok (.ldc 198, 2) := by decide +kernel
theorem d_RD_readChannel_29 : decode b_RD_readChannel 29 = .ok (.invokevirtual 82, 3) := by decide +kernel
theorem d_RD_readChannel_32 : decode b_RD_readChannel 32 = .ok (.aload_n 0, 1) := by decide +kernel
theorem d_RD_readChannel_33 : decode b_RD_readChannel 33 = .ok (.getfield 9, 3) := by decide +kernel
theorem d_RD_readChannel_36 : decode b_RD_readChannel 36 = .ok (.ldc 176, 2) := by decide +kernel
theorem d_RD_readChannel_38 : decode b_RD_readChannel 38 = .ok (.invokevirtual 173, 3) := by decide +kernel
theorem d_RD_readChannel_41 : decode b_RD_readChannel 41 = .ok (.istore_n 2, 1) := by decide +kernel
theorem d_RD_readChannel_42 : decode b_RD_readChannel 42 = .ok (.aload_n 0, 1) := by decide +kernel
theorem d_RD_readChannel_43 : decode b_RD_readChannel 43 = .ok (.getfield 9, 3) := by decide +kernel
theorem d_RD_readChannel_46 : decode b_RD_readChannel 46 = .ok (.invokevirtual 114, 3) := by decide +kernel
theorem d_RD_readChannel_49 : decode b_RD_readChannel 49 = .ok (.iload_n 2, 1) := by decide +kernel
theorem d_RD_readChannel_50 : decode b_RD_readChannel 50 = .ok (.iconst 1, 1) := by decide +kernel
theorem d_RD_readChannel_51 : decode b_RD_readChannel 51 = .ok (.if_icmp .ne 17, 3) := by decide +kernel
theorem d_RD_readChannel_54 : decode b_RD_readChannel 54 = .ok (.aload_n 0, 1) := by decide +kernel
theorem d_RD_readChannel_55 : decode b_RD_readChannel 55 = .ok (.getfield 9, 3) := by decide +kernel
theorem d_RD_readChannel_58 : decode b_RD_readChannel 58 = .ok (.iconst 1, 1) := by decide +kernel
theorem d_RD_readChannel_59 : decode b_RD_readChannel 59 = .ok (.bipush 8, 2) := by decide +kernel
theorem d_RD_readChannel_61 : decode b_RD_readChannel 61 = .ok (.iconst 1, 1) := by decide +kernel
theorem d_RD_readChannel_62 : decode b_RD_readChannel 62 = .ok (.invokevirtual 141, 3) := by decide +kernel
theorem d_RD_readChannel_65 : decode b_RD_readChannel 65 = .ok (.goto 14, 3) := by decide +kernel
theorem d_RD_readChannel_68 : decode b_RD_readChannel 68 = .ok (.aload_n 0, 1) := by decide +kernel
theorem d_RD_readChannel_69 : decode b_RD_readChannel 69 = .ok (.getfield 9, 3) := by decide +kernel
theorem d_RD_readChannel_72 : decode b_RD_readChannel 72 = .ok (.iconst 0, 1) := by decide +kernel
theorem d_RD_readChannel_73 : decode b_RD_readChannel 73 = .ok (.ldc 154, 2) := by decide +kernel
theorem d_RD_readChannel_75 : decode b_RD_readChannel 75 = .ok (.iconst 1, 1) := by decide +kernel
theorem d_RD_readChannel_76 : decode b_RD_readChannel 76 = .ok (.invokevirtual 141, 3) := by decide +kernel
theorem d_RD_readChannel_79 : decode b_RD_readChannel 79 = .ok (.istore_n 3, 1) := by decide +kernel
theorem d_RD_readChannel_80 : decode b_RD_readChannel 80 = .ok (.aload_n 1, 1) := by decide +kernel
theorem d_RD_readChannel_81 : decode b_RD_readChannel 81 = .ok (.lconst 0, 1) := by decide +kernel
theorem d_RD_readChannel_82 : decode b_RD_readChannel 82 = .ok (.iconst (-1), 1) := by decide +kernel
theorem d_RD_readChannel_83 : decode b_RD_readChannel 83 = .ok (.invokevirtual 137, 3) := by decide +kernel
theorem d_RD_readChannel_86 : decode b_RD_readChannel 86 = .ok (.aload_n 1, 1) := by decide +kernel
theorem d_RD_readChannel_87 : decode b_RD_readChannel 87 = .ok (.iconst 0, 1) := by decide +kernel
theorem d_RD_readChannel_88 : decode b_RD_readChannel 88 = .ok (.iload_n 2, 1) := by decide +kernel
theorem d_RD_readChannel_89 : decode b_RD_readChannel 89 = .ok (.invokevirtual 147, 3) := by decide +kernel
theorem d_RD_readChannel_92 : decode b_RD_readChannel 92 = .ok (.aload_n 1, 1) := by decide +kernel
theorem d_RD_readChannel_93 : decode b_RD_readChannel 93 = .ok (.iconst 1, 1) := by decide +kernel
theorem d_RD_readChannel_94 : decode b_RD_readChannel 94 = .ok (.iload_n 3, 1) := by decide +kernel
theorem d_RD_readChannel_95 : decode b_RD_readChannel 95 = .ok (.invokevirtual 147, 3) := by decide +kernel
theorem d_RD_readChannel_98 : decode b_RD_readChannel 98 = .ok (.aload_n 0, 1) := by decide +kernel
theorem d_RD_readChannel_99 : decode b_RD_readChannel 99 = .ok (.getfield 9, 3) := by decide +kernel
theorem d_RD_readChannel_102 : decode b_RD_readChannel 102 = .ok (.ldc 117, 2) := by decide +kernel
theorem d_RD_readChannel_104 : decode b_RD_readChannel 104 = .ok (.invokevirtual 82, 3) := by decide +kernel
theorem d_RD_readChannel_107 : decode b_RD_readChannel 107 = .ok (.aload_n 0, 1) := by decide +kernel
theorem d_RD_readChannel_108 : decode b_RD_readChannel 108 = .ok (.ldc 200, 2) := by decide +kernel
theorem d_RD_readChannel_110 : decode b_RD_readChannel 110 = .ok (.iconst 1, 1) := by decide +kernel
theorem d_RD_readChannel_111 : decode b_RD_readChannel 111 = .ok (.iload_n 2, 1) := by decide +kernel
theorem d_RD_readChannel_112 : decode b_RD_readChannel 112 = .ok (.invokevirtual 202, 3) := by decide +kernel
theorem d_RD_readChannel_115 : decode b_RD_readChannel 115 = .ok (.istore 4, 2) := by decide +kernel
theorem d_RD_readChannel_117 : decode b_RD_readChannel 117 = .ok (.aload_n 1, 1) := by decide +kernel
theorem d_RD_readChannel_118 : decode b_RD_readChannel 118 = .ok (.iconst 2, 1) := by decide +kernel
theorem d_RD_readChannel_119 : decode b_RD_readChannel 119 = .ok (.iload 4, 2) := by decide +kernel
theorem d_RD_readChannel_121 : decode b_RD_readChannel 121 = .ok (.invokevirtual 147, 3) := by decide +kernel
theorem d_RD_readChannel_124 : decode b_RD_readChannel 124 = .ok (.iload 4, 2) := by decide +kernel
theorem d_RD_readChannel_126 : decode b_RD_readChannel 126 = .ok (.iconst (-1), 1) := by decide +kernel
theorem d_RD_readChannel_127 : decode b_RD_readChannel 127 = .ok (.if_icmp .ne 16, 3) := by decide +kernel
theorem d_RD_readChannel_130 : decode b_RD_readChannel 130 = .ok (.aload_n 0, 1) := by decide +kernel
theorem d_RD_readChannel_131 : decode b_RD_readChannel 131 = .ok (.getfield 15, 3) := by decide +kernel
theorem d_RD_readChannel_134 : decode b_RD_readChannel 134 = .ok (.dup, 1) := by decide +kernel
theorem d_RD_readChannel_135 : decode b_RD_readChannel 135 = .ok (.getfield 206, 3) := by decide +kernel
theorem d_RD_readChannel_138 : decode b_RD_readChannel 138 = .ok (.iconst 1, 1) := by decide +kernel
theorem d_RD_readChannel_139 : decode b_RD_readChannel 139 = .ok (.iadd, 1) := by decide +kernel
theorem d_RD_readChannel_140 : decode b_RD_readChannel 140 = .ok (.putfield 206, 3) := by decide +kernel
theorem d_RD_readChannel_143 : decode b_RD_readChannel 143 = .ok (.aload_n 0, 1) := by decide +kernel
theorem d_RD_readChannel_144 : decode b_RD_readChannel 144 = .ok (.getfield 9, 3) := by decide +kernel
theorem d_RD_readChannel_147 : decode b_RD_readChannel 147 = .ok (.ldc 209, 2) := by decide +kernel
theorem d_RD_readChannel_149 : decode b_RD_readChannel 149 = .ok (.invokevirtual 82, 3) := by decide +kernel
theorem d_RD_readChannel_152 : decode b_RD_readChannel 152 = .ok (.aload_n 0, 1) := by decide +kernel
theorem d_RD_readChannel_153 : decode b_RD_readChannel 153 = .ok (.iload_n 2, 1) := by decide +kernel
theorem d_RD_readChannel_154 : decode b_RD_readChannel 154 = .ok (.invokevirtual 211, 3) := by decide +kernel
theorem d_RD_readChannel_157 : decode b_RD_readChannel 157 = .ok (.aload_n 0, 1) := by decide +kernel
theorem d_RD_readChannel_158 : decode b_RD_readChannel 158 = .ok (.getfield 9, 3) := by decide +kernel
theorem d_RD_readChannel_161 : decode b_RD_readChannel 161 = .ok (.ldc 49, 2) := by decide +kernel
theorem d_RD_readChannel_163 : decode b_RD_readChannel 163 = .ok (.invokevirtual 82, 3) := by decide +kernel
theorem d_RD_readChannel_166 : decode b_RD_readChannel 166 = .ok (.return_, 1) := by decide +kernel
def f_RD_readChannel_143 (S : XS) (a2 : Int32) : Option ((Unit × XS) ⊕ XS) :=
  (f_WO_expect S 24).bind (xT2 fun _ S57 => (f_RD_readGoals S57 a2).bind (xT2 fun _ S62 => (f_WO_expect S62 7).bind (xT2 fun _ S67 => some (.inl ((), S67)))))
set_option maxHeartbeats 4000000 in
set_option maxRecDepth 100000 in
theorem k_RD_readChannel_143 (l : Launch) (hq : l.stackTraces = false) {p : Program} {e : Env} {s : State} {m : MethodId} {args : Array Value} {below : List Frame} {meth : Method} {c : Code} {D : va_G} {lay : Nat → Nat} {cA : Nat → ClassId} {adK adV : Nat → Nat} {s0 : State} (C : xB p s m args meth c R_RD b_RD_readChannel ((Option.none : Option Jvm.ClassFile.FieldType)) 5) (E : xE D lay cA adK adV s0 s s.heap) : ∀ (S : XS) (a2 : Int32) (r : (Unit × XS) ⊕ XS) (_ : f_RD_readChannel_143 S a2 = some r) (H : Heap) (locs : List Loc) (ls : Array Slot), va_P D xcl (xw lay cA S) H → va_S (xI lay) s.heap H locs → lv_has ls 5 [(0, .ref (lay 179)), (2, .int a2)] → W p l e rm_RD_readChannel s m args below meth c H locs 0 0 (XF below (xrv D lay cA r) (xrt D lay cA r) s 0 0 1 6 (xI lay)) (F0 m 143 ls []) := by
  obtain ⟨hx, hb, hr, hml, hown, hts, hlk, hnh⟩ := id C
  have hK := E.K
  intro S a2 r h H locs ls hP hS hl
  unfold f_RD_readChannel_143 at h
  refine lv_aload_n hx hb d_RD_readChannel_143 rfl (lv_at hl 0 rfl) ?_
  refine va_get (v := .ref (lay 2)) (C := R_RD) (T := F_RD) (N := 4) hx hb hts i_RD hown hK hP 179 (xw_at (by decide) (xc_179 _ _ _ _)) rfl 0 (by decide) (hts _ wd_169) (fun _ h9 => h9) rfl d_RD_readChannel_144 ?_
  refine va_ldcS hx hb hown (E.lit (List.mem_of_getElem? (i := 26) rfl : ("ConfigTexts$Reader", 209, ">", 24) ∈ xlits)) d_RD_readChannel_147 ?_
  obtain ⟨q55, e54, h⟩ := xb h
  refine xk_v (xrunV (As := [.ref (adK 24)]) (rest := []) ⟨hx, hb, hml, hown, hts⟩ (c_WO_expect l hq D lay cA adK adV s0 S 24 q55 e54) (cwV 1 hts (xT_V wd_493 wd_494 wd_495 wd_2 wd_496) rfl rfl rfl (by decide +kernel) ⟨Nat.le_of_ble_eq_true rfl, Nat.le_of_ble_eq_true rfl⟩) (xpV E hP hS (by decide) (xc_2 _ _ _ _) rfl) rfl rfl hl.1 rfl (lv_room (Nat.le_of_ble_eq_true rfl)) d_RD_readChannel_149 ⟨Nat.le_of_ble_eq_true rfl, Nat.le_of_ble_eq_true rfl⟩) hS hnh hlk (fun S9 e9 => by subst e9; exact (Option.some.inj h).symm) (fun v56 S57 w58 H locs hP hS => ?_)
  subst w58
  dsimp only [xT2] at h
  refine lv_aload_n hx hb d_RD_readChannel_152 rfl (lv_at hl 0 rfl) ?_
  refine lv_iload_n hx hb d_RD_readChannel_153 rfl (lv_at hl 1 rfl) ?_
  obtain ⟨q60, e59, h⟩ := xb h
  refine xk_v (xrunV (As := [.int a2]) (rest := []) ⟨hx, hb, hml, hown, hts⟩ (c_RD_readGoals l hq D lay cA adK adV s0 S57 a2 q60 e59) (cwV 1 hts (xT_V wd_642 wd_644 wp_18 wd_6 wd_645) rfl rfl rfl (by decide +kernel) ⟨Nat.le_of_ble_eq_true rfl, Nat.le_of_ble_eq_true rfl⟩) (xpV E hP hS (by decide) (xc_179 _ _ _ _) rfl) rfl rfl hl.1 rfl (lv_room (Nat.le_of_ble_eq_true rfl)) d_RD_readChannel_154 ⟨Nat.le_of_ble_eq_true rfl, Nat.le_of_ble_eq_true rfl⟩) hS hnh hlk (fun S9 e9 => by subst e9; exact (Option.some.inj h).symm) (fun v61 S62 w63 H locs hP hS => ?_)
  subst w63
  dsimp only [xT2] at h
  refine lv_aload_n hx hb d_RD_readChannel_157 rfl (lv_at hl 0 rfl) ?_
  refine va_get (v := .ref (lay 2)) (C := R_RD) (T := F_RD) (N := 4) hx hb hts i_RD hown hK hP 179 (xw_at (by decide) (xc_179 _ _ _ _)) rfl 0 (by decide) (hts _ wd_169) (fun _ h9 => h9) rfl d_RD_readChannel_158 ?_
  refine va_ldcS hx hb hown (E.lit (List.mem_of_getElem? (i := 8) rfl : ("ConfigTexts$Reader", 49, "}", 7) ∈ xlits)) d_RD_readChannel_161 ?_
  obtain ⟨q65, e64, h⟩ := xb h
  refine xk_v (xrunV (As := [.ref (adK 7)]) (rest := []) ⟨hx, hb, hml, hown, hts⟩ (c_WO_expect l hq D lay cA adK adV s0 S62 7 q65 e64) (cwV 1 hts (xT_V wd_493 wd_494 wd_495 wd_2 wd_496) rfl rfl rfl (by decide +kernel) ⟨Nat.le_of_ble_eq_true rfl, Nat.le_of_ble_eq_true rfl⟩) (xpV E hP hS (by decide) (xc_2 _ _ _ _) rfl) rfl rfl hl.1 rfl (lv_room (Nat.le_of_ble_eq_true rfl)) d_RD_readChannel_163 ⟨Nat.le_of_ble_eq_true rfl, Nat.le_of_ble_eq_true rfl⟩) hS hnh hlk (fun S9 e9 => by subst e9; exact (Option.some.inj h).symm) (fun v66 S67 w68 H locs hP hS => ?_)
  subst w68
  dsimp only [xT2] at h
  have h9 := Option.some.inj h
  subst h9
  exact xret (W.vret hx hb hr (fun t ht hW => ⟨_, rfl, ⟨⟨(), S67, rfl, rfl, by show va_P D xcl _ t.heap; rw [ht]; exact hP⟩, hS.F ht⟩⟩) hS.2.2 d_RD_readChannel_166)
def f_RD_readChannel_79 (S : XS) (a2 : Int32) (t0 : Int32) : Option ((Unit × XS) ⊕ XS) :=
  (f_RO_add S 173 (0 : Int64) (-1 : Int32)).bind fun q36 => (f_RO_setLast q36 173 (0 : Int32) a2).bind fun q38 => (f_RO_setLast q38 173 (1 : Int32) t0).bind fun q40 => (f_WO_expect q40 4).bind (xT2 fun _ S44 => (f_RD_readEnd S44 22 (1 : Int32) a2).bind (xT2 fun v48 S49 => (f_RO_setLast S49 173 (2 : Int32) v48).bind fun q52 => if v48 = (-1 : Int32) then (f_RD_readChannel_143 (xpi q52 3 4 ((xgi q52 3 4) + (1 : Int32))) a2) else (f_RD_readChannel_143 q52 a2)))
set_option maxHeartbeats 4000000 in
set_option maxRecDepth 100000 in
theorem k_RD_readChannel_79 (l : Launch) (hq : l.stackTraces = false) {p : Program} {e : Env} {s : State} {m : MethodId} {args : Array Value} {below : List Frame} {meth : Method} {c : Code} {D : va_G} {lay : Nat → Nat} {cA : Nat → ClassId} {adK adV : Nat → Nat} {s0 : State} (C : xB p s m args meth c R_RD b_RD_readChannel ((Option.none : Option Jvm.ClassFile.FieldType)) 5) (E : xE D lay cA adK adV s0 s s.heap) : ∀ (S : XS) (a2 : Int32) (t0 : Int32) (r : (Unit × XS) ⊕ XS) (_ : f_RD_readChannel_79 S a2 t0 = some r) (H : Heap) (locs : List Loc) (ls : Array Slot), va_P D xcl (xw lay cA S) H → va_S (xI lay) s.heap H locs → lv_has ls 5 [(0, .ref (lay 179)), (1, .ref (lay 173)), (2, .int a2)] → W p l e rm_RD_readChannel s m args below meth c H locs 0 0 (XF below (xrv D lay cA r) (xrt D lay cA r) s 0 0 1 6 (xI lay)) (F0 m 79 ls [.int t0]) := by
  obtain ⟨hx, hb, hr, hml, hown, hts, hlk, hnh⟩ := id C
  have hK := E.K
  intro S a2 t0 r h H locs ls hP hS hl
  unfold f_RD_readChannel_79 at h
  refine lv_istore_n (lv' := [(3, .int t0), (0, .ref (lay 179)), (1, .ref (lay 173)), (2, .int a2)]) hx hb d_RD_readChannel_79 rfl hl (by decide) rfl (fun ls hl => ?_)
  refine lv_aload_n hx hb d_RD_readChannel_80 rfl (lv_at hl 2 rfl) ?_
  refine lv_lconst (v := (0 : Int64)) hx hb d_RD_readChannel_81 (by decide) ?_
  refine lv_iconst (v := (-1 : Int32)) hx hb d_RD_readChannel_82 (by decide) ?_
  obtain ⟨q36, e35, h⟩ := xb h
  refine xc_v (va_runV (As := [.long (0 : Int64), .int (-1 : Int32)]) (rest := []) ⟨hx, hb, hml, hown, hts⟩ (c_RO_add l D lay cA adK adV s0 S 173 (0 : Int64) (-1 : Int32) q36 e35) (cwV 2 hts (xT_V wd_559 wd_560 wd_561 wd_5 wd_562) rfl rfl rfl (by decide +kernel) ⟨Nat.le_of_ble_eq_true rfl, Nat.le_of_ble_eq_true rfl⟩) (xpV E hP hS (xR_lt (by decide : xR 173)).1 (xc_RO _ _ _ _ (by decide : xR 173)) rfl) rfl rfl hl.1 rfl (lv_room (Nat.le_of_ble_eq_true rfl)) d_RD_readChannel_83 ⟨Nat.le_of_ble_eq_true rfl, Nat.le_of_ble_eq_true rfl⟩) hS (fun H locs hP hS => ?_)
  refine lv_aload_n hx hb d_RD_readChannel_86 rfl (lv_at hl 2 rfl) ?_
  refine lv_iconst (v := (0 : Int32)) hx hb d_RD_readChannel_87 (by decide) ?_
  refine lv_iload_n hx hb d_RD_readChannel_88 rfl (lv_at hl 3 rfl) ?_
  obtain ⟨q38, e37, h⟩ := xb h
  refine xc_v (va_runV (As := [.int (0 : Int32), .int a2]) (rest := []) ⟨hx, hb, hml, hown, hts⟩ (c_RO_setLast l D lay cA adK adV s0 q36 173 (0 : Int32) a2 q38 e37) (cwV 2 hts (xT_V wd_565 wd_566 wd_567 wd_5 wd_568) rfl rfl rfl (by decide +kernel) ⟨Nat.le_of_ble_eq_true rfl, Nat.le_of_ble_eq_true rfl⟩) (xpV E hP hS (xR_lt (by decide : xR 173)).1 (xc_RO _ _ _ _ (by decide : xR 173)) rfl) rfl rfl hl.1 rfl (lv_room (Nat.le_of_ble_eq_true rfl)) d_RD_readChannel_89 ⟨Nat.le_of_ble_eq_true rfl, Nat.le_of_ble_eq_true rfl⟩) hS (fun H locs hP hS => ?_)
  refine lv_aload_n hx hb d_RD_readChannel_92 rfl (lv_at hl 2 rfl) ?_
  refine lv_iconst (v := (1 : Int32)) hx hb d_RD_readChannel_93 (by decide) ?_
  refine lv_iload_n hx hb d_RD_readChannel_94 rfl (lv_at hl 0 rfl) ?_
  obtain ⟨q40, e39, h⟩ := xb h
  refine xc_v (va_runV (As := [.int (1 : Int32), .int t0]) (rest := []) ⟨hx, hb, hml, hown, hts⟩ (c_RO_setLast l D lay cA adK adV s0 q38 173 (1 : Int32) t0 q40 e39) (cwV 2 hts (xT_V wd_565 wd_566 wd_567 wd_5 wd_568) rfl rfl rfl (by decide +kernel) ⟨Nat.le_of_ble_eq_true rfl, Nat.le_of_ble_eq_true rfl⟩) (xpV E hP hS (xR_lt (by decide : xR 173)).1 (xc_RO _ _ _ _ (by decide : xR 173)) rfl) rfl rfl hl.1 rfl (lv_room (Nat.le_of_ble_eq_true rfl)) d_RD_readChannel_95 ⟨Nat.le_of_ble_eq_true rfl, Nat.le_of_ble_eq_true rfl⟩) hS (fun H locs hP hS => ?_)
  refine lv_aload_n hx hb d_RD_readChannel_98 rfl (lv_at hl 1 rfl) ?_
  refine va_get (v := .ref (lay 2)) (C := R_RD) (T := F_RD) (N := 4) hx hb hts i_RD hown hK hP 179 (xw_at (by decide) (xc_179 _ _ _ _)) rfl 0 (by decide) (hts _ wd_169) (fun _ h9 => h9) rfl d_RD_readChannel_99 ?_
  refine va_ldcS hx hb hown (E.lit (List.mem_of_getElem? (i := 5) rfl : ("ConfigTexts$Reader", 117, "{", 4) ∈ xlits)) d_RD_readChannel_102 ?_
  obtain ⟨q42, e41, h⟩ := xb h
  refine xk_v (xrunV (As := [.ref (adK 4)]) (rest := []) ⟨hx, hb, hml, hown, hts⟩ (c_WO_expect l hq D lay cA adK adV s0 q40 4 q42 e41) (cwV 1 hts (xT_V wd_493 wd_494 wd_495 wd_2 wd_496) rfl rfl rfl (by decide +kernel) ⟨Nat.le_of_ble_eq_true rfl, Nat.le_of_ble_eq_true rfl⟩) (xpV E hP hS (by decide) (xc_2 _ _ _ _) rfl) rfl rfl hl.1 rfl (lv_room (Nat.le_of_ble_eq_true rfl)) d_RD_readChannel_104 ⟨Nat.le_of_ble_eq_true rfl, Nat.le_of_ble_eq_true rfl⟩) hS hnh hlk (fun S9 e9 => by subst e9; exact (Option.some.inj h).symm) (fun v43 S44 w45 H locs hP hS => ?_)
  subst w45
  dsimp only [xT2] at h
  refine lv_aload_n hx hb d_RD_readChannel_107 rfl (lv_at hl 1 rfl) ?_
  refine va_ldcS hx hb hown (E.lit (List.mem_of_getElem? (i := 24) rfl : ("ConfigTexts$Reader", 200, "input", 22) ∈ xlits)) d_RD_readChannel_108 ?_
  refine lv_iconst (v := (1 : Int32)) hx hb d_RD_readChannel_110 (by decide) ?_
  refine lv_iload_n hx hb d_RD_readChannel_111 rfl (lv_at hl 3 rfl) ?_
  obtain ⟨q47, e46, h⟩ := xb h
  refine xk_i (xrunV (As := [.ref (adK 22), .int (1 : Int32), .int a2]) (rest := []) ⟨hx, hb, hml, hown, hts⟩ (c_RD_readEnd l hq D lay cA adK adV s0 S44 22 (1 : Int32) a2 q47 e46) (cwV 3 hts (xT_V wd_629 wd_631 wp_16 wd_6 wd_632) rfl rfl rfl (by decide +kernel) ⟨Nat.le_of_ble_eq_true rfl, Nat.le_of_ble_eq_true rfl⟩) (xpV E hP hS (by decide) (xc_179 _ _ _ _) rfl) rfl rfl hl.1 rfl (lv_room (Nat.le_of_ble_eq_true rfl)) d_RD_readChannel_112 ⟨Nat.le_of_ble_eq_true rfl, Nat.le_of_ble_eq_true rfl⟩) hS hnh hlk (fun S9 e9 => by subst e9; exact (Option.some.inj h).symm) (fun v48 S49 w50 H locs hP hS => ?_)
  subst w50
  dsimp only [xT2] at h
  refine lv_istore (lv' := [(4, .int v48), (3, .int t0), (0, .ref (lay 179)), (1, .ref (lay 173)), (2, .int a2)]) hx hb d_RD_readChannel_115 hl (by decide) rfl (fun ls hl => ?_)
  refine lv_aload_n hx hb d_RD_readChannel_117 rfl (lv_at hl 3 rfl) ?_
  refine lv_iconst (v := (2 : Int32)) hx hb d_RD_readChannel_118 (by decide) ?_
  refine lv_iload hx hb d_RD_readChannel_119 (lv_at hl 0 rfl) ?_
  obtain ⟨q52, e51, h⟩ := xb h
  refine xc_v (va_runV (As := [.int (2 : Int32), .int v48]) (rest := []) ⟨hx, hb, hml, hown, hts⟩ (c_RO_setLast l D lay cA adK adV s0 S49 173 (2 : Int32) v48 q52 e51) (cwV 2 hts (xT_V wd_565 wd_566 wd_567 wd_5 wd_568) rfl rfl rfl (by decide +kernel) ⟨Nat.le_of_ble_eq_true rfl, Nat.le_of_ble_eq_true rfl⟩) (xpV E hP hS (xR_lt (by decide : xR 173)).1 (xc_RO _ _ _ _ (by decide : xR 173)) rfl) rfl rfl hl.1 rfl (lv_room (Nat.le_of_ble_eq_true rfl)) d_RD_readChannel_121 ⟨Nat.le_of_ble_eq_true rfl, Nat.le_of_ble_eq_true rfl⟩) hS (fun H locs hP hS => ?_)
  refine lv_iload hx hb d_RD_readChannel_124 (lv_at hl 0 rfl) ?_
  refine lv_iconst (v := (-1 : Int32)) hx hb d_RD_readChannel_126 (by decide) ?_
  refine lv_icmp_ne (tgt := 143) hx hb d_RD_readChannel_127 (by decide) (fun c_53 => ?_) (fun c_53 => ?_)
  · have h := xif_f c_53 h
    exact k_RD_readChannel_143 l hq C E q52 a2 _ h H locs ls hP hS (lv_sub hl [2, 4] rfl)
  · have h := xif_t c_53 h
    refine lv_aload_n hx hb d_RD_readChannel_130 rfl (lv_at hl 2 rfl) ?_
    refine va_get (v := .ref (lay 3)) (C := R_RD) (T := F_RD) (N := 4) hx hb hts i_RD hown hK hP 179 (xw_at (by decide) (xc_179 _ _ _ _)) rfl 1 (by decide) (hts _ wd_170) (fun _ h9 => h9) rfl d_RD_readChannel_131 ?_
    refine lv_dup hx hb d_RD_readChannel_134 rfl ?_
    refine va_getN (v := .int (xgi q52 3 4)) (C := R_CF) (T := F_CF) (N := 7) hx hb hts i_CF hown hK hP 3 (xw_at (by decide) (xc_3 _ _ _ _)) rfl 4 (by decide) (E.nest wn_143) (fun _ h9 => h9) rfl d_RD_readChannel_135 ?_
    refine lv_iconst (v := (1 : Int32)) hx hb d_RD_readChannel_138 (by decide) ?_
    refine lv_iadd hx hb d_RD_readChannel_139 ?_
    refine xput_CF_4N hx hb hts hown E hP hS (E.nest wn_143) d_RD_readChannel_140 (fun H locs hP hS => ?_)
    exact k_RD_readChannel_143 l hq C E (xpi q52 3 4 ((xgi q52 3 4) + (1 : Int32))) a2 _ h H locs ls hP hS (lv_sub hl [2, 4] rfl)
def f_RD_readChannel_23 (S : XS)  : Option ((Unit × XS) ⊕ XS) :=
  (f_WO_expect S 21).bind (xT2 fun _ S12 => (f_WO_expectOneOf S12 17).bind (xT2 fun v16 S17 => (f_WO_next S17).bind (xT2 fun _ S22 => if v16 = (1 : Int32) then ((f_WO_expectNumber S22 (1 : Int32) (8 : Int32) (1 : Int32)).bind (xT2 fun v31 S32 => f_RD_readChannel_79 S32 v16 v31)) else ((f_WO_expectNumber S22 (0 : Int32) (100000 : Int32) (1 : Int32)).bind (xT2 fun v26 S27 => f_RD_readChannel_79 S27 v16 v26)))))
set_option maxHeartbeats 4000000 in
set_option maxRecDepth 100000 in
theorem k_RD_readChannel_23 (l : Launch) (hq : l.stackTraces = false) {p : Program} {e : Env} {s : State} {m : MethodId} {args : Array Value} {below : List Frame} {meth : Method} {c : Code} {D : va_G} {lay : Nat → Nat} {cA : Nat → ClassId} {adK adV : Nat → Nat} {s0 : State} (C : xB p s m args meth c R_RD b_RD_readChannel ((Option.none : Option Jvm.ClassFile.FieldType)) 5) (E : xE D lay cA adK adV s0 s s.heap) : ∀ (S : XS)  (r : (Unit × XS) ⊕ XS) (_ : f_RD_readChannel_23 S = some r) (H : Heap) (locs : List Loc) (ls : Array Slot), va_P D xcl (xw lay cA S) H → va_S (xI lay) s.heap H locs → lv_has ls 5 [(0, .ref (lay 179)), (1, .ref (lay 173))] → W p l e rm_RD_readChannel s m args below meth c H locs 0 0 (XF below (xrv D lay cA r) (xrt D lay cA r) s 0 0 1 6 (xI lay)) (F0 m 23 ls []) := by
  obtain ⟨hx, hb, hr, hml, hown, hts, hlk, hnh⟩ := id C
  have hK := E.K
  intro S r h H locs ls hP hS hl
  unfold f_RD_readChannel_23 at h
  refine lv_aload_n hx hb d_RD_readChannel_23 rfl (lv_at hl 0 rfl) ?_
  refine va_get (v := .ref (lay 2)) (C := R_RD) (T := F_RD) (N := 4) hx hb hts i_RD hown hK hP 179 (xw_at (by decide) (xc_179 _ _ _ _)) rfl 0 (by decide) (hts _ wd_169) (fun _ h9 => h9) rfl d_RD_readChannel_24 ?_
  refine va_ldcS hx hb hown (E.lit (List.mem_of_getElem? (i := 23) rfl : ("ConfigTexts$Reader", 198, "channel", 21) ∈ xlits)) d_RD_readChannel_27 ?_
  obtain ⟨q10, e9, h⟩ := xb h
  refine xk_v (xrunV (As := [.ref (adK 21)]) (rest := []) ⟨hx, hb, hml, hown, hts⟩ (c_WO_expect l hq D lay cA adK adV s0 S 21 q10 e9) (cwV 1 hts (xT_V wd_493 wd_494 wd_495 wd_2 wd_496) rfl rfl rfl (by decide +kernel) ⟨Nat.le_of_ble_eq_true rfl, Nat.le_of_ble_eq_true rfl⟩) (xpV E hP hS (by decide) (xc_2 _ _ _ _) rfl) rfl rfl hl.1 rfl (lv_room (Nat.le_of_ble_eq_true rfl)) d_RD_readChannel_29 ⟨Nat.le_of_ble_eq_true rfl, Nat.le_of_ble_eq_true rfl⟩) hS hnh hlk (fun S9 e9 => by subst e9; exact (Option.some.inj h).symm) (fun v11 S12 w13 H locs hP hS => ?_)
  subst w13
  dsimp only [xT2] at h
  refine lv_aload_n hx hb d_RD_readChannel_32 rfl (lv_at hl 0 rfl) ?_
  refine va_get (v := .ref (lay 2)) (C := R_RD) (T := F_RD) (N := 4) hx hb hts i_RD hown hK hP 179 (xw_at (by decide) (xc_179 _ _ _ _)) rfl 0 (by decide) (hts _ wd_169) (fun _ h9 => h9) rfl d_RD_readChannel_33 ?_
  refine va_ldcS hx hb hown (E.lit (List.mem_of_getElem? (i := 18) rfl : ("ConfigTexts$Reader", 176, "sampling queuing", 17) ∈ xlits)) d_RD_readChannel_36 ?_
  obtain ⟨q15, e14, h⟩ := xb h
  refine xk_i (xrunV (As := [.ref (adK 17)]) (rest := []) ⟨hx, hb, hml, hown, hts⟩ (c_WO_expectOneOf l hq D lay cA adK adV s0 S12 17 q15 e14) (cwV 1 hts (xT_V wd_594 wd_595 wd_596 wd_2 wd_597) rfl rfl rfl (by decide +kernel) ⟨Nat.le_of_ble_eq_true rfl, Nat.le_of_ble_eq_true rfl⟩) (xpV E hP hS (by decide) (xc_2 _ _ _ _) rfl) rfl rfl hl.1 rfl (lv_room (Nat.le_of_ble_eq_true rfl)) d_RD_readChannel_38 ⟨Nat.le_of_ble_eq_true rfl, Nat.le_of_ble_eq_true rfl⟩) hS hnh hlk (fun S9 e9 => by subst e9; exact (Option.some.inj h).symm) (fun v16 S17 w18 H locs hP hS => ?_)
  subst w18
  dsimp only [xT2] at h
  refine lv_istore_n (lv' := [(2, .int v16), (0, .ref (lay 179)), (1, .ref (lay 173))]) hx hb d_RD_readChannel_41 rfl hl (by decide) rfl (fun ls hl => ?_)
  refine lv_aload_n hx hb d_RD_readChannel_42 rfl (lv_at hl 1 rfl) ?_
  refine va_get (v := .ref (lay 2)) (C := R_RD) (T := F_RD) (N := 4) hx hb hts i_RD hown hK hP 179 (xw_at (by decide) (xc_179 _ _ _ _)) rfl 0 (by decide) (hts _ wd_169) (fun _ h9 => h9) rfl d_RD_readChannel_43 ?_
  obtain ⟨q20, e19, h⟩ := xb h
  refine xk_v (xrunV (As := []) (rest := []) ⟨hx, hb, hml, hown, hts⟩ (c_WO_next l hq D lay cA adK adV s0 S17 q20 e19) (cwV 0 hts (xT_V wd_522 wd_285 wd_286 wd_2 wd_287) rfl rfl rfl (by decide +kernel) ⟨Nat.le_of_ble_eq_true rfl, Nat.le_of_ble_eq_true rfl⟩) (xpV E hP hS (by decide) (xc_2 _ _ _ _) rfl) rfl rfl hl.1 rfl (lv_room (Nat.le_of_ble_eq_true rfl)) d_RD_readChannel_46 ⟨Nat.le_of_ble_eq_true rfl, Nat.le_of_ble_eq_true rfl⟩) hS hnh hlk (fun S9 e9 => by subst e9; exact (Option.some.inj h).symm) (fun v21 S22 w23 H locs hP hS => ?_)
  subst w23
  dsimp only [xT2] at h
  refine lv_iload_n hx hb d_RD_readChannel_49 rfl (lv_at hl 0 rfl) ?_
  refine lv_iconst (v := (1 : Int32)) hx hb d_RD_readChannel_50 (by decide) ?_
  refine lv_icmp_ne (tgt := 68) hx hb d_RD_readChannel_51 (by decide) (fun c_34 => ?_) (fun c_34 => ?_)
  · have h := xif_f c_34 h
    refine lv_aload_n hx hb d_RD_readChannel_68 rfl (lv_at hl 1 rfl) ?_
    refine va_get (v := .ref (lay 2)) (C := R_RD) (T := F_RD) (N := 4) hx hb hts i_RD hown hK hP 179 (xw_at (by decide) (xc_179 _ _ _ _)) rfl 0 (by decide) (hts _ wd_169) (fun _ h9 => h9) rfl d_RD_readChannel_69 ?_
    refine lv_iconst (v := (0 : Int32)) hx hb d_RD_readChannel_72 (by decide) ?_
    refine lv_ldc (v := (100000 : Int32)) hx hb hown (hts _ wd_575) d_RD_readChannel_73 ?_
    refine lv_iconst (v := (1 : Int32)) hx hb d_RD_readChannel_75 (by decide) ?_
    obtain ⟨q25, e24, h⟩ := xb h
    refine xk_i (xrunV (As := [.int (0 : Int32), .int (100000 : Int32), .int (1 : Int32)]) (rest := []) ⟨hx, hb, hml, hown, hts⟩ (c_WO_expectNumber l hq D lay cA adK adV s0 S22 (0 : Int32) (100000 : Int32) (1 : Int32) q25 e24) (cwV 3 hts (xT_V wd_530 wd_531 wd_532 wd_2 wd_533) rfl rfl rfl (by decide +kernel) ⟨Nat.le_of_ble_eq_true rfl, Nat.le_of_ble_eq_true rfl⟩) (xpV E hP hS (by decide) (xc_2 _ _ _ _) rfl) rfl rfl hl.1 rfl (lv_room (Nat.le_of_ble_eq_true rfl)) d_RD_readChannel_76 ⟨Nat.le_of_ble_eq_true rfl, Nat.le_of_ble_eq_true rfl⟩) hS hnh hlk (fun S9 e9 => by subst e9; exact (Option.some.inj h).symm) (fun v26 S27 w28 H locs hP hS => ?_)
    subst w28
    dsimp only [xT2] at h
    exact k_RD_readChannel_79 l hq C E S27 v16 v26 _ h H locs ls hP hS (lv_sub hl [1, 2, 0] rfl)
  · have h := xif_t c_34 h
    refine lv_aload_n hx hb d_RD_readChannel_54 rfl (lv_at hl 1 rfl) ?_
    refine va_get (v := .ref (lay 2)) (C := R_RD) (T := F_RD) (N := 4) hx hb hts i_RD hown hK hP 179 (xw_at (by decide) (xc_179 _ _ _ _)) rfl 0 (by decide) (hts _ wd_169) (fun _ h9 => h9) rfl d_RD_readChannel_55 ?_
    refine lv_iconst (v := (1 : Int32)) hx hb d_RD_readChannel_58 (by decide) ?_
    refine lv_bipush (v := (8 : Int32)) hx hb d_RD_readChannel_59 (by decide) ?_
    refine lv_iconst (v := (1 : Int32)) hx hb d_RD_readChannel_61 (by decide) ?_
    obtain ⟨q30, e29, h⟩ := xb h
    refine xk_i (xrunV (As := [.int (1 : Int32), .int (8 : Int32), .int (1 : Int32)]) (rest := []) ⟨hx, hb, hml, hown, hts⟩ (c_WO_expectNumber l hq D lay cA adK adV s0 S22 (1 : Int32) (8 : Int32) (1 : Int32) q30 e29) (cwV 3 hts (xT_V wd_530 wd_531 wd_532 wd_2 wd_533) rfl rfl rfl (by decide +kernel) ⟨Nat.le_of_ble_eq_true rfl, Nat.le_of_ble_eq_true rfl⟩) (xpV E hP hS (by decide) (xc_2 _ _ _ _) rfl) rfl rfl hl.1 rfl (lv_room (Nat.le_of_ble_eq_true rfl)) d_RD_readChannel_62 ⟨Nat.le_of_ble_eq_true rfl, Nat.le_of_ble_eq_true rfl⟩) hS hnh hlk (fun S9 e9 => by subst e9; exact (Option.some.inj h).symm) (fun v31 S32 w33 H locs hP hS => ?_)
    subst w33
    dsimp only [xT2] at h
    refine lv_goto (tgt := 79) hx hb d_RD_readChannel_65 (by decide) ?_
    exact k_RD_readChannel_79 l hq C E S32 v16 v31 _ h H locs ls hP hS (lv_sub hl [1, 2, 0] rfl)
def f_RD_readChannel (S : XS)  : Option ((Unit × XS) ⊕ XS) :=
  (f_RO_isFull S 173).bind fun q2 => if q2 = 0 then (f_RD_readChannel_23 S) else ((f_WO_fail S (4 : Int32)).bind (xT2 fun _ S6 => f_RD_readChannel_23 S6))
set_option maxHeartbeats 4000000 in
set_option maxRecDepth 100000 in
theorem k_RD_readChannel (l : Launch) (hq : l.stackTraces = false) {p : Program} {e : Env} {s : State} {m : MethodId} {args : Array Value} {below : List Frame} {meth : Method} {c : Code} {D : va_G} {lay : Nat → Nat} {cA : Nat → ClassId} {adK adV : Nat → Nat} {s0 : State} (C : xB p s m args meth c R_RD b_RD_readChannel ((Option.none : Option Jvm.ClassFile.FieldType)) 5) (E : xE D lay cA adK adV s0 s s.heap) : ∀ (S : XS)  (r : (Unit × XS) ⊕ XS) (_ : f_RD_readChannel S = some r) (H : Heap) (locs : List Loc) (ls : Array Slot), va_P D xcl (xw lay cA S) H → va_S (xI lay) s.heap H locs → lv_has ls 5 [(0, .ref (lay 179))] → W p l e rm_RD_readChannel s m args below meth c H locs 0 0 (XF below (xrv D lay cA r) (xrt D lay cA r) s 0 0 1 6 (xI lay)) (F0 m 0 ls []) := by
  obtain ⟨hx, hb, hr, hml, hown, hts, hlk, hnh⟩ := id C
  have hK := E.K
  intro S r h H locs ls hP hS hl
  unfold f_RD_readChannel at h
  refine lv_aload_n hx hb d_RD_readChannel_0 rfl (lv_at hl 0 rfl) ?_
  refine va_get (v := .ref (lay 3)) (C := R_RD) (T := F_RD) (N := 4) hx hb hts i_RD hown hK hP 179 (xw_at (by decide) (xc_179 _ _ _ _)) rfl 1 (by decide) (hts _ wd_170) (fun _ h9 => h9) rfl d_RD_readChannel_1 ?_
  refine va_getN (v := .ref (lay 173)) (C := R_CF) (T := F_CF) (N := 7) hx hb hts i_CF hown hK hP 3 (xw_at (by decide) (xc_3 _ _ _ _)) rfl 2 (by decide) (E.nest wn_138) (fun _ h9 => h9) rfl d_RD_readChannel_4 ?_
  refine lv_astore_n (lv' := [(1, .ref (lay 173)), (0, .ref (lay 179))]) hx hb d_RD_readChannel_7 rfl hl (by decide) rfl (fun ls hl => ?_)
  refine lv_aload_n hx hb d_RD_readChannel_8 rfl (lv_at hl 0 rfl) ?_
  obtain ⟨q2, e1, h⟩ := xb h
  refine xc_i (va_runV (As := []) (rest := []) ⟨hx, hb, hml, hown, hts⟩ (c_RO_isFull l D lay cA adK adV s0 S 173 q2 e1) (cwV 0 hts (xT_V wd_547 wd_548 wd_549 wd_5 wd_550) rfl rfl rfl (by decide +kernel) ⟨Nat.le_of_ble_eq_true rfl, Nat.le_of_ble_eq_true rfl⟩) (xpV E hP hS (xR_lt (by decide : xR 173)).1 (xc_RO _ _ _ _ (by decide : xR 173)) rfl) rfl rfl hl.1 rfl (lv_room (Nat.le_of_ble_eq_true rfl)) d_RD_readChannel_9 ⟨Nat.le_of_ble_eq_true rfl, Nat.le_of_ble_eq_true rfl⟩) hS (fun H locs hP hS => ?_)
  refine lv_if_eq (tgt := 23) hx hb d_RD_readChannel_12 (by decide) (fun c_8 => ?_) (fun c_8 => ?_)
  · have h := xif_t c_8 h
    exact k_RD_readChannel_23 l hq C E S  _ h H locs ls hP hS (lv_sub hl [1, 0] rfl)
  · have h := xif_f c_8 h
    refine lv_aload_n hx hb d_RD_readChannel_15 rfl (lv_at hl 1 rfl) ?_
    refine va_get (v := .ref (lay 2)) (C := R_RD) (T := F_RD) (N := 4) hx hb hts i_RD hown hK hP 179 (xw_at (by decide) (xc_179 _ _ _ _)) rfl 0 (by decide) (hts _ wd_169) (fun _ h9 => h9) rfl d_RD_readChannel_16 ?_
    refine lv_iconst (v := (4 : Int32)) hx hb d_RD_readChannel_19 (by decide) ?_
    obtain ⟨q4, e3, h⟩ := xb h
    refine xk_v (xrunV (As := [.int (4 : Int32)]) (rest := []) ⟨hx, hb, hml, hown, hts⟩ (c_WO_fail l hq D lay cA adK adV s0 S (4 : Int32) q4 e3) (cwV 1 hts (xT_V wd_502 wd_386 wd_387 wd_2 wd_388) rfl rfl rfl (by decide +kernel) ⟨Nat.le_of_ble_eq_true rfl, Nat.le_of_ble_eq_true rfl⟩) (xpV E hP hS (by decide) (xc_2 _ _ _ _) rfl) rfl rfl hl.1 rfl (lv_room (Nat.le_of_ble_eq_true rfl)) d_RD_readChannel_20 ⟨Nat.le_of_ble_eq_true rfl, Nat.le_of_ble_eq_true rfl⟩) hS hnh hlk (fun S9 e9 => by subst e9; exact (Option.some.inj h).symm) (fun v5 S6 w7 H locs hP hS => ?_)
    subst w7
    dsimp only [xT2] at h
    exact k_RD_readChannel_23 l hq C E S6  _ h H locs ls hP hS (lv_sub hl [1, 0] rfl)
theorem c_RD_readChannel (l : Launch) (hq : l.stackTraces = false) (D : va_G) (lay : Nat → Nat) (cA : Nat → ClassId) (adK adV : Nat → Nat) (s0 : State) (S : XS)  (r : (Unit × XS) ⊕ XS) (h : f_RD_readChannel S  = some r) : MetX l y_RD_readChannel (.code y_RD_readChannel b_RD_readChannel 5 ((Option.none : Option Jvm.ClassFile.FieldType)) :: xT) rm_RD_readChannel (xPc D lay cA adK adV s0 S [.ref (lay 179)]) (xrv D lay cA r) (xrt D lay cA r) 0 0 1 6 (xI lay) := by
  refine MetX.ofW (cc := b_RD_readChannel) (maxL := 5) (ret := (Option.none : Option Jvm.ClassFile.FieldType)) (by decide +kernel) rfl ?_
  intro p e s m args below meth c s₁ B hml hv
  obtain ⟨rfl, hP, E⟩ := hv
  have C := xB_of B hml
  have hl := lv_entry ([.ref (lay 179)]) (n := 5) (Nat.le_of_ble_eq_true rfl)
  rw [lg_entry_eq]
  generalize (lg_sl ([.ref (lay 179)]) ++ List.replicate (5 - (lg_sl ([.ref (lay 179)])).length) Slot.unset).toArray = ls at hl ⊢
  exact k_RD_readChannel l hq C E S  r h s.heap [] ls hP va_S.rf hl
/-! ConfigTexts$Reader.readWindow()V -/
def rm_RD_readWindow : Room := { frames := 9, cells := 1, slots := 6, locals := 165 }
theorem d_RD_readWindow_0 : decode b_RD_readWindow 0 = .ok (.aload_n 0, 1) := by decide +kernel
theorem d_RD_readWindow_1 : decode b_RD_readWindow 1 = .ok (.getfield 15, 3) := by decide +kernel
theorem d_RD_readWindow_4 : decode b_RD_readWindow 4 = .ok (.getfield 241, 3) := by decide +kernel
theorem d_RD_readWindow_7 : decode b_RD_readWindow 7 = .ok (.astore_n 1, 1) := by decide +kernel
theorem d_RD_readWindow_8 : decode b_RD_readWindow 8 = .ok (.aload_n 1, 1) := by decide +kernel
theorem d_RD_readWindow_9 : decode b_RD_readWindow 9 = .ok (.invokevirtual 130, 3) := by decide +kernel
theorem d_RD_readWindow_12 : decode b_RD_readWindow 12 = .ok (.ifCond .eq 11, 3) := by decide +kernel
theorem d_RD_readWindow_15 : decode b_RD_readWindow 15 = .ok (.aload_n 0, 1) := by decide +kernel
theorem d_RD_readWindow_16 : decode b_RD_readWindow 16 = .ok (.getfield 9, 3) := by decide +kernel
theorem d_RD_readWindow_19 : decode b_RD_readWindow 19 = .ok (.iconst 4, 1) := by decide +kernel
theorem d_RD_readWindow_20 : decode b_RD_readWindow 20 = .ok (.invokevirtual 98, 3) := by decide +kernel
theorem d_RD_readWindow_23 : decode b_RD_readWindow 23 = .ok (.aload_n 0, 1) := by decide +kernel
theorem d_RD_readWindow_24 : decode b_RD_readWindow 24 = .ok (.invokevirtual 221, 3) := by decide +kernel
theorem d_RD_readWindow_27 : decode b_RD_readWindow 27 = .ok (.istore_n 2, 1) := by decide +kernel
theorem d_RD_readWindow_28 : decode b_RD_readWindow 28 = .ok (.aload_n 0, 1) := by decide +kernel
theorem d_RD_readWindow_29 : decode b_RD_readWindow 29 = .ok (.getfield 9, 3) := by decide +kernel
theorem d_RD_readWindow_32 : decode b_RD_readWindow 32 = .ok (.iconst 1, 1) := by decide +kernel
theorem d_RD_readWindow_33 : decode b_RD_readWindow 33 = .ok (.sipush 200, 3) := by decide +kernel
theorem d_RD_readWindow_36 : decode b_RD_readWindow 36 = .ok (.iconst 1, 1) := by decide +kernel
theorem d_RD_readWindow_37 : decode b_RD_readWindow 37 = .ok (.invokevirtual 141, 3) := by decide +kernel
theorem d_RD_readWindow_40 : decode b_RD_readWindow 40 = .ok (.istore_n 3, 1) := by decide +kernel
theorem d_RD_readWindow_41 : decode b_RD_readWindow 41 = .ok (.aload_n 0, 1) := by decide +kernel
theorem d_RD_readWindow_42 : decode b_RD_readWindow 42 = .ok (.getfield 9, 3) := by decide +kernel
theorem d_RD_readWindow_45 : decode b_RD_readWindow 45 = .ok (.ldc 80, 2) := by decide +kernel
theorem d_RD_readWindow_47 : decode b_RD_readWindow 47 = .ok (.invokevirtual 82, 3) := by decide +kernel
theorem d_RD_readWindow_50 : decode b_RD_readWindow 50 = .ok (.aload_n 1, 1) := by decide +kernel
theorem d_RD_readWindow_51 : decode b_RD_readWindow 51 = .ok (.lconst 0, 1) := by decide +kernel
theorem d_RD_readWindow_52 : decode b_RD_readWindow 52 = .ok (.iconst 0, 1) := by decide +kernel
theorem d_RD_readWindow_53 : decode b_RD_readWindow 53 = .ok (.invokevirtual 137, 3) := by decide +kernel
theorem d_RD_readWindow_56 : decode b_RD_readWindow 56 = .ok (.aload_n 1, 1) := by decide +kernel
theorem d_RD_readWindow_57 : decode b_RD_readWindow 57 = .ok (.iconst 0, 1) := by decide +kernel
theorem d_RD_readWindow_58 : decode b_RD_readWindow 58 = .ok (.iload_n 2, 1) := by decide +kernel
theorem d_RD_readWindow_59 : decode b_RD_readWindow 59 = .ok (.invokevirtual 147, 3) := by decide +kernel
theorem d_RD_readWindow_62 : decode b_RD_readWindow 62 = .ok (.aload_n 1, 1) := by decide +kernel
theorem d_RD_readWindow_63 : decode b_RD_readWindow 63 = .ok (.iconst 1, 1) := by decide +kernel
theorem d_RD_readWindow_64 : decode b_RD_readWindow 64 = .ok (.iload_n 3, 1) := by decide +kernel
theorem d_RD_readWindow_65 : decode b_RD_readWindow 65 = .ok (.invokevirtual 147, 3) := by decide +kernel
theorem d_RD_readWindow_68 : decode b_RD_readWindow 68 = .ok (.aload_n 0, 1) := by decide +kernel
theorem d_RD_readWindow_69 : decode b_RD_readWindow 69 = .ok (.getfield 15, 3) := by decide +kernel
theorem d_RD_readWindow_72 : decode b_RD_readWindow 72 = .ok (.dup, 1) := by decide +kernel
theorem d_RD_readWindow_73 : decode b_RD_readWindow 73 = .ok (.getfield 244, 3) := by decide +kernel
theorem d_RD_readWindow_76 : decode b_RD_readWindow 76 = .ok (.iload_n 3, 1) := by decide +kernel
theorem d_RD_readWindow_77 : decode b_RD_readWindow 77 = .ok (.iadd, 1) := by decide +kernel
theorem d_RD_readWindow_78 : decode b_RD_readWindow 78 = .ok (.putfield 244, 3) := by decide +kernel
theorem d_RD_readWindow_81 : decode b_RD_readWindow 81 = .ok (.return_, 1) := by decide +kernel
def f_RD_readWindow_23 (S : XS)  : Option ((Unit × XS) ⊕ XS) :=
  (f_RD_readPartitionName S).bind (xT2 fun v11 S12 => (f_WO_expectNumber S12 (1 : Int32) (200 : Int32) (1 : Int32)).bind (xT2 fun v16 S17 => (f_WO_expect S17 6).bind (xT2 fun _ S22 => (f_RO_add S22 176 (0 : Int64) (0 : Int32)).bind fun q25 => (f_RO_setLast q25 176 (0 : Int32) v11).bind fun q27 => (f_RO_setLast q27 176 (1 : Int32) v16).bind fun q29 => some (.inl ((), xpi q29 3 6 ((xgi q29 3 6) + v16))))))
set_option maxHeartbeats 4000000 in
set_option maxRecDepth 100000 in
theorem k_RD_readWindow_23 (l : Launch) (hq : l.stackTraces = false) {p : Program} {e : Env} {s : State} {m : MethodId} {args : Array Value} {below : List Frame} {meth : Method} {c : Code} {D : va_G} {lay : Nat → Nat} {cA : Nat → ClassId} {adK adV : Nat → Nat} {s0 : State} (C : xB p s m args meth c R_RD b_RD_readWindow ((Option.none : Option Jvm.ClassFile.FieldType)) 4) (E : xE D lay cA adK adV s0 s s.heap) : ∀ (S : XS)  (r : (Unit × XS) ⊕ XS) (_ : f_RD_readWindow_23 S = some r) (H : Heap) (locs : List Loc) (ls : Array Slot), va_P D xcl (xw lay cA S) H → va_S (xI lay) s.heap H locs → lv_has ls 4 [(0, .ref (lay 179)), (1, .ref (lay 176))] → W p l e rm_RD_readWindow s m args below meth c H locs 0 0 (XF below (xrv D lay cA r) (xrt D lay cA r) s 0 0 1 6 (xI lay)) (F0 m 23 ls []) := by
  obtain ⟨hx, hb, hr, hml, hown, hts, hlk, hnh⟩ := id C
  have hK := E.K
  intro S r h H locs ls hP hS hl
  unfold f_RD_readWindow_23 at h
  refine lv_aload_n hx hb d_RD_readWindow_23 rfl (lv_at hl 0 rfl) ?_
  obtain ⟨q10, e9, h⟩ := xb h
  refine xk_i (xrunV (As := []) (rest := []) ⟨hx, hb, hml, hown, hts⟩ (c_RD_readPartitionName l hq D lay cA adK adV s0 S q10 e9) (cwV 0 hts (xT_V wd_633 wd_635 wp_17 wd_6 wd_636) rfl rfl rfl (by decide +kernel) ⟨Nat.le_of_ble_eq_true rfl, Nat.le_of_ble_eq_true rfl⟩) (xpV E hP hS (by decide) (xc_179 _ _ _ _) rfl) rfl rfl hl.1 rfl (lv_room (Nat.le_of_ble_eq_true rfl)) d_RD_readWindow_24 ⟨Nat.le_of_ble_eq_true rfl, Nat.le_of_ble_eq_true rfl⟩) hS hnh hlk (fun S9 e9 => by subst e9; exact (Option.some.inj h).symm) (fun v11 S12 w13 H locs hP hS => ?_)
  subst w13
  dsimp only [xT2] at h
  refine lv_istore_n (lv' := [(2, .int v11), (0, .ref (lay 179)), (1, .ref (lay 176))]) hx hb d_RD_readWindow_27 rfl hl (by decide) rfl (fun ls hl => ?_)
  refine lv_aload_n hx hb d_RD_readWindow_28 rfl (lv_at hl 1 rfl) ?_
  refine va_get (v := .ref (lay 2)) (C := R_RD) (T := F_RD) (N := 4) hx hb hts i_RD hown hK hP 179 (xw_at (by decide) (xc_179 _ _ _ _)) rfl 0 (by decide) (hts _ wd_169) (fun _ h9 => h9) rfl d_RD_readWindow_29 ?_
  refine lv_iconst (v := (1 : Int32)) hx hb d_RD_readWindow_32 (by decide) ?_
  refine lv_sipush (v := (200 : Int32)) hx hb d_RD_readWindow_33 (by decide) ?_
  refine lv_iconst (v := (1 : Int32)) hx hb d_RD_readWindow_36 (by decide) ?_
  obtain ⟨q15, e14, h⟩ := xb h
  refine xk_i (xrunV (As := [.int (1 : Int32), .int (200 : Int32), .int (1 : Int32)]) (rest := []) ⟨hx, hb, hml, hown, hts⟩ (c_WO_expectNumber l hq D lay cA adK adV s0 S12 (1 : Int32) (200 : Int32) (1 : Int32) q15 e14) (cwV 3 hts (xT_V wd_530 wd_531 wd_532 wd_2 wd_533) rfl rfl rfl (by decide +kernel) ⟨Nat.le_of_ble_eq_true rfl, Nat.le_of_ble_eq_true rfl⟩) (xpV E hP hS (by decide) (xc_2 _ _ _ _) rfl) rfl rfl hl.1 rfl (lv_room (Nat.le_of_ble_eq_true rfl)) d_RD_readWindow_37 ⟨Nat.le_of_ble_eq_true rfl, Nat.le_of_ble_eq_true rfl⟩) hS hnh hlk (fun S9 e9 => by subst e9; exact (Option.some.inj h).symm) (fun v16 S17 w18 H locs hP hS => ?_)
  subst w18
  dsimp only [xT2] at h
  refine lv_istore_n (lv' := [(3, .int v16), (2, .int v11), (0, .ref (lay 179)), (1, .ref (lay 176))]) hx hb d_RD_readWindow_40 rfl hl (by decide) rfl (fun ls hl => ?_)
  refine lv_aload_n hx hb d_RD_readWindow_41 rfl (lv_at hl 2 rfl) ?_
  refine va_get (v := .ref (lay 2)) (C := R_RD) (T := F_RD) (N := 4) hx hb hts i_RD hown hK hP 179 (xw_at (by decide) (xc_179 _ _ _ _)) rfl 0 (by decide) (hts _ wd_169) (fun _ h9 => h9) rfl d_RD_readWindow_42 ?_
  refine va_ldcS hx hb hown (E.lit (List.mem_of_getElem? (i := 7) rfl : ("ConfigTexts$Reader", 80, ";", 6) ∈ xlits)) d_RD_readWindow_45 ?_
  obtain ⟨q20, e19, h⟩ := xb h
  refine xk_v (xrunV (As := [.ref (adK 6)]) (rest := []) ⟨hx, hb, hml, hown, hts⟩ (c_WO_expect l hq D lay cA adK adV s0 S17 6 q20 e19) (cwV 1 hts (xT_V wd_493 wd_494 wd_495 wd_2 wd_496) rfl rfl rfl (by decide +kernel) ⟨Nat.le_of_ble_eq_true rfl, Nat.le_of_ble_eq_true rfl⟩) (xpV E hP hS (by decide) (xc_2 _ _ _ _) rfl) rfl rfl hl.1 rfl (lv_room (Nat.le_of_ble_eq_true rfl)) d_RD_readWindow_47 ⟨Nat.le_of_ble_eq_true rfl, Nat.le_of_ble_eq_true rfl⟩) hS hnh hlk (fun S9 e9 => by subst e9; exact (Option.some.inj h).symm) (fun v21 S22 w23 H locs hP hS => ?_)
  subst w23
  dsimp only [xT2] at h
  refine lv_aload_n hx hb d_RD_readWindow_50 rfl (lv_at hl 3 rfl) ?_
  refine lv_lconst (v := (0 : Int64)) hx hb d_RD_readWindow_51 (by decide) ?_
  refine lv_iconst (v := (0 : Int32)) hx hb d_RD_readWindow_52 (by decide) ?_
  obtain ⟨q25, e24, h⟩ := xb h
  refine xc_v (va_runV (As := [.long (0 : Int64), .int (0 : Int32)]) (rest := []) ⟨hx, hb, hml, hown, hts⟩ (c_RO_add l D lay cA adK adV s0 S22 176 (0 : Int64) (0 : Int32) q25 e24) (cwV 2 hts (xT_V wd_559 wd_560 wd_561 wd_5 wd_562) rfl rfl rfl (by decide +kernel) ⟨Nat.le_of_ble_eq_true rfl, Nat.le_of_ble_eq_true rfl⟩) (xpV E hP hS (xR_lt (by decide : xR 176)).1 (xc_RO _ _ _ _ (by decide : xR 176)) rfl) rfl rfl hl.1 rfl (lv_room (Nat.le_of_ble_eq_true rfl)) d_RD_readWindow_53 ⟨Nat.le_of_ble_eq_true rfl, Nat.le_of_ble_eq_true rfl⟩) hS (fun H locs hP hS => ?_)
  refine lv_aload_n hx hb d_RD_readWindow_56 rfl (lv_at hl 3 rfl) ?_
  refine lv_iconst (v := (0 : Int32)) hx hb d_RD_readWindow_57 (by decide) ?_
  refine lv_iload_n hx hb d_RD_readWindow_58 rfl (lv_at hl 1 rfl) ?_
  obtain ⟨q27, e26, h⟩ := xb h
  refine xc_v (va_runV (As := [.int (0 : Int32), .int v11]) (rest := []) ⟨hx, hb, hml, hown, hts⟩ (c_RO_setLast l D lay cA adK adV s0 q25 176 (0 : Int32) v11 q27 e26) (cwV 2 hts (xT_V wd_565 wd_566 wd_567 wd_5 wd_568) rfl rfl rfl (by decide +kernel) ⟨Nat.le_of_ble_eq_true rfl, Nat.le_of_ble_eq_true rfl⟩) (xpV E hP hS (xR_lt (by decide : xR 176)).1 (xc_RO _ _ _ _ (by decide : xR 176)) rfl) rfl rfl hl.1 rfl (lv_room (Nat.le_of_ble_eq_true rfl)) d_RD_readWindow_59 ⟨Nat.le_of_ble_eq_true rfl, Nat.le_of_ble_eq_true rfl⟩) hS (fun H locs hP hS => ?_)
  refine lv_aload_n hx hb d_RD_readWindow_62 rfl (lv_at hl 3 rfl) ?_
  refine lv_iconst (v := (1 : Int32)) hx hb d_RD_readWindow_63 (by decide) ?_
  refine lv_iload_n hx hb d_RD_readWindow_64 rfl (lv_at hl 0 rfl) ?_
  obtain ⟨q29, e28, h⟩ := xb h
  refine xc_v (va_runV (As := [.int (1 : Int32), .int v16]) (rest := []) ⟨hx, hb, hml, hown, hts⟩ (c_RO_setLast l D lay cA adK adV s0 q27 176 (1 : Int32) v16 q29 e28) (cwV 2 hts (xT_V wd_565 wd_566 wd_567 wd_5 wd_568) rfl rfl rfl (by decide +kernel) ⟨Nat.le_of_ble_eq_true rfl, Nat.le_of_ble_eq_true rfl⟩) (xpV E hP hS (xR_lt (by decide : xR 176)).1 (xc_RO _ _ _ _ (by decide : xR 176)) rfl) rfl rfl hl.1 rfl (lv_room (Nat.le_of_ble_eq_true rfl)) d_RD_readWindow_65 ⟨Nat.le_of_ble_eq_true rfl, Nat.le_of_ble_eq_true rfl⟩) hS (fun H locs hP hS => ?_)
  refine lv_aload_n hx hb d_RD_readWindow_68 rfl (lv_at hl 2 rfl) ?_
  refine va_get (v := .ref (lay 3)) (C := R_RD) (T := F_RD) (N := 4) hx hb hts i_RD hown hK hP 179 (xw_at (by decide) (xc_179 _ _ _ _)) rfl 1 (by decide) (hts _ wd_170) (fun _ h9 => h9) rfl d_RD_readWindow_69 ?_
  refine lv_dup hx hb d_RD_readWindow_72 rfl ?_
  refine va_getN (v := .int (xgi q29 3 6)) (C := R_CF) (T := F_CF) (N := 7) hx hb hts i_CF hown hK hP 3 (xw_at (by decide) (xc_3 _ _ _ _)) rfl 6 (by decide) (E.nest wn_147) (fun _ h9 => h9) rfl d_RD_readWindow_73 ?_
  refine lv_iload_n hx hb d_RD_readWindow_76 rfl (lv_at hl 0 rfl) ?_
  refine lv_iadd hx hb d_RD_readWindow_77 ?_
  refine xput_CF_6N hx hb hts hown E hP hS (E.nest wn_147) d_RD_readWindow_78 (fun H locs hP hS => ?_)
  have h9 := Option.some.inj h
  subst h9
  exact xret (W.vret hx hb hr (fun t ht hW => ⟨_, rfl, ⟨⟨(), (xpi q29 3 6 ((xgi q29 3 6) + v16)), rfl, rfl, by show va_P D xcl _ t.heap; rw [ht]; exact hP⟩, hS.F ht⟩⟩) hS.2.2 d_RD_readWindow_81)
def f_RD_readWindow (S : XS)  : Option ((Unit × XS) ⊕ XS) :=
  (f_RO_isFull S 176).bind fun q2 => if q2 = 0 then (f_RD_readWindow_23 S) else ((f_WO_fail S (4 : Int32)).bind (xT2 fun _ S6 => f_RD_readWindow_23 S6))
set_option maxHeartbeats 4000000 in
set_option maxRecDepth 100000 in
theorem k_RD_readWindow (l : Launch) (hq : l.stackTraces = false) {p : Program} {e : Env} {s : State} {m : MethodId} {args : Array Value} {below : List Frame} {meth : Method} {c : Code} {D : va_G} {lay : Nat → Nat} {cA : Nat → ClassId} {adK adV : Nat → Nat} {s0 : State} (C : xB p s m args meth c R_RD b_RD_readWindow ((Option.none : Option Jvm.ClassFile.FieldType)) 4) (E : xE D lay cA adK adV s0 s s.heap) : ∀ (S : XS)  (r : (Unit × XS) ⊕ XS) (_ : f_RD_readWindow S = some r) (H : Heap) (locs : List Loc) (ls : Array Slot), va_P D xcl (xw lay cA S) H → va_S (xI lay) s.heap H locs → lv_has ls 4 [(0, .ref (lay 179))] → W p l e rm_RD_readWindow s m args below meth c H locs 0 0 (XF below (xrv D lay cA r) (xrt D lay cA r) s 0 0 1 6 (xI lay)) (F0 m 0 ls []) := by
  obtain ⟨hx, hb, hr, hml, hown, hts, hlk, hnh⟩ := id C
  have hK := E.K
  intro S r h H locs ls hP hS hl
  unfold f_RD_readWindow at h
  refine lv_aload_n hx hb d_RD_readWindow_0 rfl (lv_at hl 0 rfl) ?_
  refine va_get (v := .ref (lay 3)) (C := R_RD) (T := F_RD) (N := 4) hx hb hts i_RD hown hK hP 179 (xw_at (by decide) (xc_179 _ _ _ _)) rfl 1 (by decide) (hts _ wd_170) (fun _ h9 => h9) rfl d_RD_readWindow_1 ?_
  refine va_getN (v := .ref (lay 176)) (C := R_CF) (T := F_CF) (N := 7) hx hb hts i_CF hown hK hP 3 (xw_at (by decide) (xc_3 _ _ _ _)) rfl 3 (by decide) (E.nest wn_141) (fun _ h9 => h9) rfl d_RD_readWindow_4 ?_
  refine lv_astore_n (lv' := [(1, .ref (lay 176)), (0, .ref (lay 179))]) hx hb d_RD_readWindow_7 rfl hl (by decide) rfl (fun ls hl => ?_)
  refine lv_aload_n hx hb d_RD_readWindow_8 rfl (lv_at hl 0 rfl) ?_
  obtain ⟨q2, e1, h⟩ := xb h
  refine xc_i (va_runV (As := []) (rest := []) ⟨hx, hb, hml, hown, hts⟩ (c_RO_isFull l D lay cA adK adV s0 S 176 q2 e1) (cwV 0 hts (xT_V wd_547 wd_548 wd_549 wd_5 wd_550) rfl rfl rfl (by decide +kernel) ⟨Nat.le_of_ble_eq_true rfl, Nat.le_of_ble_eq_true rfl⟩) (xpV E hP hS (xR_lt (by decide : xR 176)).1 (xc_RO _ _ _ _ (by decide : xR 176)) rfl) rfl rfl hl.1 rfl (lv_room (Nat.le_of_ble_eq_true rfl)) d_RD_readWindow_9 ⟨Nat.le_of_ble_eq_true rfl, Nat.le_of_ble_eq_true rfl⟩) hS (fun H locs hP hS => ?_)
  refine lv_if_eq (tgt := 23) hx hb d_RD_readWindow_12 (by decide) (fun c_8 => ?_) (fun c_8 => ?_)
  · have h := xif_t c_8 h
    exact k_RD_readWindow_23 l hq C E S  _ h H locs ls hP hS (lv_sub hl [1, 0] rfl)
  · have h := xif_f c_8 h
    refine lv_aload_n hx hb d_RD_readWindow_15 rfl (lv_at hl 1 rfl) ?_
    refine va_get (v := .ref (lay 2)) (C := R_RD) (T := F_RD) (N := 4) hx hb hts i_RD hown hK hP 179 (xw_at (by decide) (xc_179 _ _ _ _)) rfl 0 (by decide) (hts _ wd_169) (fun _ h9 => h9) rfl d_RD_readWindow_16 ?_
    refine lv_iconst (v := (4 : Int32)) hx hb d_RD_readWindow_19 (by decide) ?_
    obtain ⟨q4, e3, h⟩ := xb h
    refine xk_v (xrunV (As := [.int (4 : Int32)]) (rest := []) ⟨hx, hb, hml, hown, hts⟩ (c_WO_fail l hq D lay cA adK adV s0 S (4 : Int32) q4 e3) (cwV 1 hts (xT_V wd_502 wd_386 wd_387 wd_2 wd_388) rfl rfl rfl (by decide +kernel) ⟨Nat.le_of_ble_eq_true rfl, Nat.le_of_ble_eq_true rfl⟩) (xpV E hP hS (by decide) (xc_2 _ _ _ _) rfl) rfl rfl hl.1 rfl (lv_room (Nat.le_of_ble_eq_true rfl)) d_RD_readWindow_20 ⟨Nat.le_of_ble_eq_true rfl, Nat.le_of_ble_eq_true rfl⟩) hS hnh hlk (fun S9 e9 => by subst e9; exact (Option.some.inj h).symm) (fun v5 S6 w7 H locs hP hS => ?_)
    subst w7
    dsimp only [xT2] at h
    exact k_RD_readWindow_23 l hq C E S6  _ h H locs ls hP hS (lv_sub hl [1, 0] rfl)
theorem c_RD_readWindow (l : Launch) (hq : l.stackTraces = false) (D : va_G) (lay : Nat → Nat) (cA : Nat → ClassId) (adK adV : Nat → Nat) (s0 : State) (S : XS)  (r : (Unit × XS) ⊕ XS) (h : f_RD_readWindow S  = some r) : MetX l y_RD_readWindow (.code y_RD_readWindow b_RD_readWindow 4 ((Option.none : Option Jvm.ClassFile.FieldType)) :: xT) rm_RD_readWindow (xPc D lay cA adK adV s0 S [.ref (lay 179)]) (xrv D lay cA r) (xrt D lay cA r) 0 0 1 6 (xI lay) := by
  refine MetX.ofW (cc := b_RD_readWindow) (maxL := 4) (ret := (Option.none : Option Jvm.ClassFile.FieldType)) (by decide +kernel) rfl ?_
  intro p e s m args below meth c s₁ B hml hv
  obtain ⟨rfl, hP, E⟩ := hv
  have C := xB_of B hml
  have hl := lv_entry ([.ref (lay 179)]) (n := 4) (Nat.le_of_ble_eq_true rfl)
  rw [lg_entry_eq]
  generalize (lg_sl ([.ref (lay 179)]) ++ List.replicate (4 - (lg_sl ([.ref (lay 179)])).length) Slot.unset).toArray = ls at hl ⊢
  exact k_RD_readWindow l hq C E S  r h s.heap [] ls hP va_S.rf hl
/-! ConfigTexts$Reader.readFrame()V -/
def rm_RD_readFrame : Room := { frames := 10, cells := 1, slots := 6, locals := 188 }
theorem d_RD_readFrame_0 : decode b_RD_readFrame 0 = .ok (.aload_n 0, 1) := by decide +kernel
theorem d_RD_readFrame_1 : decode b_RD_readFrame 1 = .ok (.getfield 9, 3) := by decide +kernel
theorem d_RD_readFrame_4 : decode b_RD_readFrame 4 = .ok (.ldc 236, 2) := by decide +kernel
theorem d_RD_readFrame_6 : decode b_RD_readFrame 6 = .ok (.invokevirtual 82, 3) := by decide +kernel
theorem d_RD_readFrame_9 : decode b_RD_readFrame 9 = .ok (.aload_n 0, 1) := by decide +kernel
theorem d_RD_readFrame_10 : decode b_RD_readFrame 10 = .ok (.getfield 9, 3) := by decide +kernel
theorem d_RD_readFrame_13 : decode b_RD_readFrame 13 = .ok (.ldc 117, 2) := by decide +kernel
theorem d_RD_readFrame_15 : decode b_RD_readFrame 15 = .ok (.invokevirtual 82, 3) := by decide +kernel
theorem d_RD_readFrame_18 : decode b_RD_readFrame 18 = .ok (.iconst 0, 1) := by decide +kernel
theorem d_RD_readFrame_19 : decode b_RD_readFrame 19 = .ok (.istore_n 1, 1) := by decide +kernel
theorem d_RD_readFrame_20 : decode b_RD_readFrame 20 = .ok (.iload_n 1, 1) := by decide +kernel
theorem d_RD_readFrame_21 : decode b_RD_readFrame 21 = .ok (.bipush 16, 2) := by decide +kernel
theorem d_RD_readFrame_23 : decode b_RD_readFrame 23 = .ok (.if_icmp .gt 29, 3) := by decide +kernel
theorem d_RD_readFrame_26 : decode b_RD_readFrame 26 = .ok (.iload_n 1, 1) := by decide +kernel
theorem d_RD_readFrame_27 : decode b_RD_readFrame 27 = .ok (.ifCond .eq 15, 3) := by decide +kernel
theorem d_RD_readFrame_30 : decode b_RD_readFrame 30 = .ok (.aload_n 0, 1) := by decide +kernel
theorem d_RD_readFrame_31 : decode b_RD_readFrame 31 = .ok (.getfield 9, 3) := by decide +kernel
theorem d_RD_readFrame_34 : decode b_RD_readFrame 34 = .ok (.ldc 49, 2) := by decide +kernel
theorem d_RD_readFrame_36 : decode b_RD_readFrame 36 = .ok (.invokevirtual 51, 3) := by decide +kernel
theorem d_RD_readFrame_39 : decode b_RD_readFrame 39 = .ok (.ifCond .ne 13, 3) := by decide +kernel
theorem d_RD_readFrame_42 : decode b_RD_readFrame 42 = .ok (.aload_n 0, 1) := by decide +kernel
theorem d_RD_readFrame_43 : decode b_RD_readFrame 43 = .ok (.invokevirtual 238, 3) := by decide +kernel
theorem d_RD_readFrame_46 : decode b_RD_readFrame 46 = .ok (.iinc 1 1, 3) := by decide +kernel
theorem d_RD_readFrame_49 : decode b_RD_readFrame 49 = .ok (.goto (-29), 3) := by decide +kernel
theorem d_RD_readFrame_52 : decode b_RD_readFrame 52 = .ok (.aload_n 0, 1) := by decide +kernel
theorem d_RD_readFrame_53 : decode b_RD_readFrame 53 = .ok (.getfield 9, 3) := by decide +kernel
theorem d_RD_readFrame_56 : decode b_RD_readFrame 56 = .ok (.ldc 49, 2) := by decide +kernel
theorem d_RD_readFrame_58 : decode b_RD_readFrame 58 = .ok (.invokevirtual 82, 3) := by decide +kernel
theorem d_RD_readFrame_61 : decode b_RD_readFrame 61 = .ok (.return_, 1) := by decide +kernel
def f_RD_readFrame_20 : Nat → XS → Int32 → Option ((Unit × XS) ⊕ XS)
  | 0, _, _ => none
  | n + 1, S, a1 =>
    if (16 : Int32) < a1 then ((f_WO_expect S 7).bind (xT2 fun _ S14 => some (.inl ((), S14)))) else (if a1 = 0 then ((f_RD_readWindow S).bind (xT2 fun _ S19 => f_RD_readFrame_20 n S19 (a1 + (1 : Int32)))) else ((f_WO_is S 7).bind fun q22 => if q22 = 0 then ((f_RD_readWindow S).bind (xT2 fun _ S31 => f_RD_readFrame_20 n S31 (a1 + (1 : Int32)))) else ((f_WO_expect S 7).bind (xT2 fun _ S26 => some (.inl ((), S26))))))
set_option maxHeartbeats 4000000 in
set_option maxRecDepth 100000 in
theorem k_RD_readFrame_20 (l : Launch) (hq : l.stackTraces = false) {p : Program} {e : Env} {s : State} {m : MethodId} {args : Array Value} {below : List Frame} {meth : Method} {c : Code} {D : va_G} {lay : Nat → Nat} {cA : Nat → ClassId} {adK adV : Nat → Nat} {s0 : State} (C : xB p s m args meth c R_RD b_RD_readFrame ((Option.none : Option Jvm.ClassFile.FieldType)) 2) (E : xE D lay cA adK adV s0 s s.heap) : ∀ (n : Nat) (S : XS) (a1 : Int32) (r : (Unit × XS) ⊕ XS) (_ : f_RD_readFrame_20 n S a1 = some r) (H : Heap) (locs : List Loc) (ls : Array Slot), va_P D xcl (xw lay cA S) H → va_S (xI lay) s.heap H locs → lv_has ls 2 [(0, .ref (lay 179)), (1, .int a1)] → W p l e rm_RD_readFrame s m args below meth c H locs 0 0 (XF below (xrv D lay cA r) (xrt D lay cA r) s 0 0 1 6 (xI lay)) (F0 m 20 ls []) := by
  obtain ⟨hx, hb, hr, hml, hown, hts, hlk, hnh⟩ := id C
  have hK := E.K
  intro n
  induction n with
  | zero => intro S a1 r h; rw [f_RD_readFrame_20] at h; cases h
  | succ n ih =>
    intro S a1 r h H locs ls hP hS hl
    rw [f_RD_readFrame_20] at h
    refine lv_iload_n hx hb d_RD_readFrame_20 rfl (lv_at hl 1 rfl) ?_
    refine lv_bipush (v := (16 : Int32)) hx hb d_RD_readFrame_21 (by decide) ?_
    refine lv_icmp_gt (tgt := 52) hx hb d_RD_readFrame_23 (by decide) (fun c_35 => ?_) (fun c_35 => ?_)
    · have h := xif_t c_35 h
      refine lv_aload_n hx hb d_RD_readFrame_52 rfl (lv_at hl 0 rfl) ?_
      refine va_get (v := .ref (lay 2)) (C := R_RD) (T := F_RD) (N := 4) hx hb hts i_RD hown hK hP 179 (xw_at (by decide) (xc_179 _ _ _ _)) rfl 0 (by decide) (hts _ wd_169) (fun _ h9 => h9) rfl d_RD_readFrame_53 ?_
      refine va_ldcS hx hb hown (E.lit (List.mem_of_getElem? (i := 8) rfl : ("ConfigTexts$Reader", 49, "}", 7) ∈ xlits)) d_RD_readFrame_56 ?_
      obtain ⟨q12, e11, h⟩ := xb h
      refine xk_v (xrunV (As := [.ref (adK 7)]) (rest := []) ⟨hx, hb, hml, hown, hts⟩ (c_WO_expect l hq D lay cA adK adV s0 S 7 q12 e11) (cwV 1 hts (xT_V wd_493 wd_494 wd_495 wd_2 wd_496) rfl rfl rfl (by decide +kernel) ⟨Nat.le_of_ble_eq_true rfl, Nat.le_of_ble_eq_true rfl⟩) (xpV E hP hS (by decide) (xc_2 _ _ _ _) rfl) rfl rfl hl.1 rfl (lv_room (Nat.le_of_ble_eq_true rfl)) d_RD_readFrame_58 ⟨Nat.le_of_ble_eq_true rfl, Nat.le_of_ble_eq_true rfl⟩) hS hnh hlk (fun S9 e9 => by subst e9; exact (Option.some.inj h).symm) (fun v13 S14 w15 H locs hP hS => ?_)
      subst w15
      dsimp only [xT2] at h
      have h9 := Option.some.inj h
      subst h9
      exact xret (W.vret hx hb hr (fun t ht hW => ⟨_, rfl, ⟨⟨(), S14, rfl, rfl, by show va_P D xcl _ t.heap; rw [ht]; exact hP⟩, hS.F ht⟩⟩) hS.2.2 d_RD_readFrame_61)
    · have h := xif_f c_35 h
      refine lv_iload_n hx hb d_RD_readFrame_26 rfl (lv_at hl 1 rfl) ?_
      refine lv_if_eq (tgt := 42) hx hb d_RD_readFrame_27 (by decide) (fun c_34 => ?_) (fun c_34 => ?_)
      · have h := xif_t c_34 h
        refine lv_aload_n hx hb d_RD_readFrame_42 rfl (lv_at hl 0 rfl) ?_
        obtain ⟨q17, e16, h⟩ := xb h
        refine xk_v (xrunV (As := []) (rest := []) ⟨hx, hb, hml, hown, hts⟩ (c_RD_readWindow l hq D lay cA adK adV s0 S q17 e16) (cwV 0 hts (xT_V wd_653 wd_655 wp_19 wd_6 wd_656) rfl rfl rfl (by decide +kernel) ⟨Nat.le_of_ble_eq_true rfl, Nat.le_of_ble_eq_true rfl⟩) (xpV E hP hS (by decide) (xc_179 _ _ _ _) rfl) rfl rfl hl.1 rfl (lv_room (Nat.le_of_ble_eq_true rfl)) d_RD_readFrame_43 ⟨Nat.le_of_ble_eq_true rfl, Nat.le_of_ble_eq_true rfl⟩) hS hnh hlk (fun S9 e9 => by subst e9; exact (Option.some.inj h).symm) (fun v18 S19 w20 H locs hP hS => ?_)
        subst w20
        dsimp only [xT2] at h
        refine lv_iinc (v := a1 + (1 : Int32)) (lv' := [(1, .int (a1 + (1 : Int32))), (0, .ref (lay 179))]) hx hb d_RD_readFrame_46 hl (k := 1) rfl (by rfl) (by decide) rfl (fun ls hl => ?_)
        refine lv_goto (tgt := 20) hx hb d_RD_readFrame_49 (by decide) ?_
        exact ih S19 (a1 + (1 : Int32)) _ h H locs ls hP hS (lv_sub hl [1, 0] rfl)
      · have h := xif_f c_34 h
        refine lv_aload_n hx hb d_RD_readFrame_30 rfl (lv_at hl 0 rfl) ?_
        refine va_get (v := .ref (lay 2)) (C := R_RD) (T := F_RD) (N := 4) hx hb hts i_RD hown hK hP 179 (xw_at (by decide) (xc_179 _ _ _ _)) rfl 0 (by decide) (hts _ wd_169) (fun _ h9 => h9) rfl d_RD_readFrame_31 ?_
        refine va_ldcS hx hb hown (E.lit (List.mem_of_getElem? (i := 8) rfl : ("ConfigTexts$Reader", 49, "}", 7) ∈ xlits)) d_RD_readFrame_34 ?_
        obtain ⟨q22, e21, h⟩ := xb h
        refine xc_i (va_runV (As := [.ref (adK 7)]) (rest := []) ⟨hx, hb, hml, hown, hts⟩ (c_WO_is l D lay cA adK adV s0 S 7 q22 e21) (cwV 1 hts (xT_V wd_536 wd_456 wd_457 wd_2 wd_458) rfl rfl rfl (by decide +kernel) ⟨Nat.le_of_ble_eq_true rfl, Nat.le_of_ble_eq_true rfl⟩) (xpV E hP hS (by decide) (xc_2 _ _ _ _) rfl) rfl rfl hl.1 rfl (lv_room (Nat.le_of_ble_eq_true rfl)) d_RD_readFrame_36 ⟨Nat.le_of_ble_eq_true rfl, Nat.le_of_ble_eq_true rfl⟩) hS (fun H locs hP hS => ?_)
        refine lv_if_ne (tgt := 52) hx hb d_RD_readFrame_39 (by decide) (fun c_33 => ?_) (fun c_33 => ?_)
        · have h := xif_f c_33 h
          refine lv_aload_n hx hb d_RD_readFrame_52 rfl (lv_at hl 0 rfl) ?_
          refine va_get (v := .ref (lay 2)) (C := R_RD) (T := F_RD) (N := 4) hx hb hts i_RD hown hK hP 179 (xw_at (by decide) (xc_179 _ _ _ _)) rfl 0 (by decide) (hts _ wd_169) (fun _ h9 => h9) rfl d_RD_readFrame_53 ?_
          refine va_ldcS hx hb hown (E.lit (List.mem_of_getElem? (i := 8) rfl : ("ConfigTexts$Reader", 49, "}", 7) ∈ xlits)) d_RD_readFrame_56 ?_
          obtain ⟨q24, e23, h⟩ := xb h
          refine xk_v (xrunV (As := [.ref (adK 7)]) (rest := []) ⟨hx, hb, hml, hown, hts⟩ (c_WO_expect l hq D lay cA adK adV s0 S 7 q24 e23) (cwV 1 hts (xT_V wd_493 wd_494 wd_495 wd_2 wd_496) rfl rfl rfl (by decide +kernel) ⟨Nat.le_of_ble_eq_true rfl, Nat.le_of_ble_eq_true rfl⟩) (xpV E hP hS (by decide) (xc_2 _ _ _ _) rfl) rfl rfl hl.1 rfl (lv_room (Nat.le_of_ble_eq_true rfl)) d_RD_readFrame_58 ⟨Nat.le_of_ble_eq_true rfl, Nat.le_of_ble_eq_true rfl⟩) hS hnh hlk (fun S9 e9 => by subst e9; exact (Option.some.inj h).symm) (fun v25 S26 w27 H locs hP hS => ?_)
          subst w27
          dsimp only [xT2] at h
          have h9 := Option.some.inj h
          subst h9
          exact xret (W.vret hx hb hr (fun t ht hW => ⟨_, rfl, ⟨⟨(), S26, rfl, rfl, by show va_P D xcl _ t.heap; rw [ht]; exact hP⟩, hS.F ht⟩⟩) hS.2.2 d_RD_readFrame_61)
        · have h := xif_t c_33 h
          refine lv_aload_n hx hb d_RD_readFrame_42 rfl (lv_at hl 0 rfl) ?_
          obtain ⟨q29, e28, h⟩ := xb h
          refine xk_v (xrunV (As := []) (rest := []) ⟨hx, hb, hml, hown, hts⟩ (c_RD_readWindow l hq D lay cA adK adV s0 S q29 e28) (cwV 0 hts (xT_V wd_653 wd_655 wp_19 wd_6 wd_656) rfl rfl rfl (by decide +kernel) ⟨Nat.le_of_ble_eq_true rfl, Nat.le_of_ble_eq_true rfl⟩) (xpV E hP hS (by decide) (xc_179 _ _ _ _) rfl) rfl rfl hl.1 rfl (lv_room (Nat.le_of_ble_eq_true rfl)) d_RD_readFrame_43 ⟨Nat.le_of_ble_eq_true rfl, Nat.le_of_ble_eq_true rfl⟩) hS hnh hlk (fun S9 e9 => by subst e9; exact (Option.some.inj h).symm) (fun v30 S31 w32 H locs hP hS => ?_)
          subst w32
          dsimp only [xT2] at h
          refine lv_iinc (v := a1 + (1 : Int32)) (lv' := [(1, .int (a1 + (1 : Int32))), (0, .ref (lay 179))]) hx hb d_RD_readFrame_46 hl (k := 1) rfl (by rfl) (by decide) rfl (fun ls hl => ?_)
          refine lv_goto (tgt := 20) hx hb d_RD_readFrame_49 (by decide) ?_
          exact ih S31 (a1 + (1 : Int32)) _ h H locs ls hP hS (lv_sub hl [1, 0] rfl)
def f_RD_readFrame (S : XS)  : Option ((Unit × XS) ⊕ XS) :=
  (f_WO_expect S 27).bind (xT2 fun _ S4 => (f_WO_expect S4 4).bind (xT2 fun _ S9 => f_RD_readFrame_20 4096 S9 (0 : Int32)))
set_option maxHeartbeats 4000000 in
set_option maxRecDepth 100000 in
theorem k_RD_readFrame (l : Launch) (hq : l.stackTraces = false) {p : Program} {e : Env} {s : State} {m : MethodId} {args : Array Value} {below : List Frame} {meth : Method} {c : Code} {D : va_G} {lay : Nat → Nat} {cA : Nat → ClassId} {adK adV : Nat → Nat} {s0 : State} (C : xB p s m args meth c R_RD b_RD_readFrame ((Option.none : Option Jvm.ClassFile.FieldType)) 2) (E : xE D lay cA adK adV s0 s s.heap) : ∀ (S : XS)  (r : (Unit × XS) ⊕ XS) (_ : f_RD_readFrame S = some r) (H : Heap) (locs : List Loc) (ls : Array Slot), va_P D xcl (xw lay cA S) H → va_S (xI lay) s.heap H locs → lv_has ls 2 [(0, .ref (lay 179))] → W p l e rm_RD_readFrame s m args below meth c H locs 0 0 (XF below (xrv D lay cA r) (xrt D lay cA r) s 0 0 1 6 (xI lay)) (F0 m 0 ls []) := by
  obtain ⟨hx, hb, hr, hml, hown, hts, hlk, hnh⟩ := id C
  have hK := E.K
  intro S r h H locs ls hP hS hl
  unfold f_RD_readFrame at h
  refine lv_aload_n hx hb d_RD_readFrame_0 rfl (lv_at hl 0 rfl) ?_
  refine va_get (v := .ref (lay 2)) (C := R_RD) (T := F_RD) (N := 4) hx hb hts i_RD hown hK hP 179 (xw_at (by decide) (xc_179 _ _ _ _)) rfl 0 (by decide) (hts _ wd_169) (fun _ h9 => h9) rfl d_RD_readFrame_1 ?_
  refine va_ldcS hx hb hown (E.lit (List.mem_of_getElem? (i := 29) rfl : ("ConfigTexts$Reader", 236, "frame", 27) ∈ xlits)) d_RD_readFrame_4 ?_
  obtain ⟨q2, e1, h⟩ := xb h
  refine xk_v (xrunV (As := [.ref (adK 27)]) (rest := []) ⟨hx, hb, hml, hown, hts⟩ (c_WO_expect l hq D lay cA adK adV s0 S 27 q2 e1) (cwV 1 hts (xT_V wd_493 wd_494 wd_495 wd_2 wd_496) rfl rfl rfl (by decide +kernel) ⟨Nat.le_of_ble_eq_true rfl, Nat.le_of_ble_eq_true rfl⟩) (xpV E hP hS (by decide) (xc_2 _ _ _ _) rfl) rfl rfl hl.1 rfl (lv_room (Nat.le_of_ble_eq_true rfl)) d_RD_readFrame_6 ⟨Nat.le_of_ble_eq_true rfl, Nat.le_of_ble_eq_true rfl⟩) hS hnh hlk (fun S9 e9 => by subst e9; exact (Option.some.inj h).symm) (fun v3 S4 w5 H locs hP hS => ?_)
  subst w5
  dsimp only [xT2] at h
  refine lv_aload_n hx hb d_RD_readFrame_9 rfl (lv_at hl 0 rfl) ?_
  refine va_get (v := .ref (lay 2)) (C := R_RD) (T := F_RD) (N := 4) hx hb hts i_RD hown hK hP 179 (xw_at (by decide) (xc_179 _ _ _ _)) rfl 0 (by decide) (hts _ wd_169) (fun _ h9 => h9) rfl d_RD_readFrame_10 ?_
  refine va_ldcS hx hb hown (E.lit (List.mem_of_getElem? (i := 5) rfl : ("ConfigTexts$Reader", 117, "{", 4) ∈ xlits)) d_RD_readFrame_13 ?_
  obtain ⟨q7, e6, h⟩ := xb h
  refine xk_v (xrunV (As := [.ref (adK 4)]) (rest := []) ⟨hx, hb, hml, hown, hts⟩ (c_WO_expect l hq D lay cA adK adV s0 S4 4 q7 e6) (cwV 1 hts (xT_V wd_493 wd_494 wd_495 wd_2 wd_496) rfl rfl rfl (by decide +kernel) ⟨Nat.le_of_ble_eq_true rfl, Nat.le_of_ble_eq_true rfl⟩) (xpV E hP hS (by decide) (xc_2 _ _ _ _) rfl) rfl rfl hl.1 rfl (lv_room (Nat.le_of_ble_eq_true rfl)) d_RD_readFrame_15 ⟨Nat.le_of_ble_eq_true rfl, Nat.le_of_ble_eq_true rfl⟩) hS hnh hlk (fun S9 e9 => by subst e9; exact (Option.some.inj h).symm) (fun v8 S9 w10 H locs hP hS => ?_)
  subst w10
  dsimp only [xT2] at h
  refine lv_iconst (v := (0 : Int32)) hx hb d_RD_readFrame_18 (by decide) ?_
  refine lv_istore_n (lv' := [(1, .int (0 : Int32)), (0, .ref (lay 179))]) hx hb d_RD_readFrame_19 rfl hl (by decide) rfl (fun ls hl => ?_)
  exact k_RD_readFrame_20 l hq C E 4096 S9 (0 : Int32) _ h H locs ls hP hS (lv_sub hl [1, 0] rfl)
theorem c_RD_readFrame (l : Launch) (hq : l.stackTraces = false) (D : va_G) (lay : Nat → Nat) (cA : Nat → ClassId) (adK adV : Nat → Nat) (s0 : State) (S : XS)  (r : (Unit × XS) ⊕ XS) (h : f_RD_readFrame S  = some r) : MetX l y_RD_readFrame (.code y_RD_readFrame b_RD_readFrame 2 ((Option.none : Option Jvm.ClassFile.FieldType)) :: xT) rm_RD_readFrame (xPc D lay cA adK adV s0 S [.ref (lay 179)]) (xrv D lay cA r) (xrt D lay cA r) 0 0 1 6 (xI lay) := by
  refine MetX.ofW (cc := b_RD_readFrame) (maxL := 2) (ret := (Option.none : Option Jvm.ClassFile.FieldType)) (by decide +kernel) rfl ?_
  intro p e s m args below meth c s₁ B hml hv
  obtain ⟨rfl, hP, E⟩ := hv
  have C := xB_of B hml
  have hl := lv_entry ([.ref (lay 179)]) (n := 2) (Nat.le_of_ble_eq_true rfl)
  rw [lg_entry_eq]
  generalize (lg_sl ([.ref (lay 179)]) ++ List.replicate (2 - (lg_sl ([.ref (lay 179)])).length) Slot.unset).toArray = ls at hl ⊢
  exact k_RD_readFrame l hq C E S  r h s.heap [] ls hP va_S.rf hl
