/-! ConfigTexts$Rows.clear()V -/
def rm_RO_clear : Room := { frames := 0, cells := 0, slots := 0, locals := 0 }
theorem d_RO_clear_0 : decode b_RO_clear 0 = .ok (.aload_n 0, 1) := by decide +kernel
theorem d_RO_clear_1 : decode b_RO_clear 1 = .ok (.iconst 0, 1) := by decide +kernel
theorem d_RO_clear_2 : decode b_RO_clear 2 = .ok (.putfield 26, 3) := by decide +kernel
theorem d_RO_clear_5 : decode b_RO_clear 5 = .ok (.return_, 1) := by decide +kernel
def f_RO_clear (S : XS) (a0 : Nat) : Option (XS) :=
  if xR a0 then (some (xpi S a0 4 (0 : Int32))) else none
set_option maxHeartbeats 4000000 in
set_option maxRecDepth 100000 in
theorem k_RO_clear (l : Launch) {p : Program} {e : Env} {s : State} {m : MethodId} {args : Array Value} {below : List Frame} {meth : Method} {c : Code} {D : va_G} {lay : Nat → Nat} {cA : Nat → ClassId} {adK adV : Nat → Nat} {s0 : State} (C : xB p s m args meth c R_RO b_RO_clear ((Option.none : Option Jvm.ClassFile.FieldType)) 1) (E : xE D lay cA adK adV s0 s s.heap) : ∀ (S : XS) (a0 : Nat) (r : XS) (_ : f_RO_clear S a0 = some r) (H : Heap) (locs : List Loc) (ls : Array Slot), va_P D xcl (xw lay cA S) H → va_S (xI lay) s.heap H locs → lv_has ls 1 [(0, .ref (lay a0))] → W p l e rm_RO_clear s m args below meth c H locs 0 0 (MQ below (xqv D lay cA r) args s 0 0 (xI lay)) (F0 m 0 ls []) := by
  obtain ⟨hx, hb, hr, hml, hown, hts, hlk, hnh⟩ := id C
  have hK := E.K
  intro S a0 r h H locs ls hP hS hl
  unfold f_RO_clear at h
  refine lv_aload_n hx hb d_RO_clear_0 rfl (lv_at hl 0 rfl) ?_
  refine lv_iconst (v := (0 : Int32)) hx hb d_RO_clear_1 (by decide) ?_
  obtain ⟨hk1, h⟩ := xg h
  refine xput_RO_4 hx hb hts hown E hP hS hk1 (hts _ wd_92) d_RO_clear_2 (fun H locs hP hS => ?_)
  have h9 := Option.some.inj h
  subst h9
  exact W.vret hx hb hr (fun t ht hW => ⟨⟨(), rfl, trivial, by show va_P D xcl _ t.heap; rw [ht]; exact hP⟩, hS.F ht⟩) hS.2.2 d_RO_clear_5
theorem c_RO_clear (l : Launch) (D : va_G) (lay : Nat → Nat) (cA : Nat → ClassId) (adK adV : Nat → Nat) (s0 : State) (S : XS) (a0 : Nat) (r : XS) (h : f_RO_clear S a0 = some r) : Met l y_RO_clear (.code y_RO_clear b_RO_clear 1 ((Option.none : Option Jvm.ClassFile.FieldType)) :: xT) rm_RO_clear (xPc D lay cA adK adV s0 S [.ref (lay a0)]) (xqv D lay cA r) 0 0 (xI lay) := by
  refine Met.ofW (cc := b_RO_clear) (maxL := 1) (ret := (Option.none : Option Jvm.ClassFile.FieldType)) (by decide +kernel) rfl ?_
  intro p e s m args below meth c s₁ B hml hv
  obtain ⟨rfl, hP, E⟩ := hv
  have C := xB_of B hml
  have hl := lv_entry ([.ref (lay a0)]) (n := 1) (Nat.le_of_ble_eq_true rfl)
  rw [lg_entry_eq]
  generalize (lg_sl ([.ref (lay a0)]) ++ List.replicate (1 - (lg_sl ([.ref (lay a0)])).length) Slot.unset).toArray = ls at hl ⊢
  exact k_RO_clear l C E S a0 r h s.heap [] ls hP va_S.rf hl
/-! ConfigTexts$Rows.isFull()Z -/
def rm_RO_isFull : Room := { frames := 0, cells := 0, slots := 0, locals := 0 }
theorem d_RO_isFull_0 : decode b_RO_isFull 0 = .ok (.aload_n 0, 1) := by decide +kernel
theorem d_RO_isFull_1 : decode b_RO_isFull 1 = .ok (.getfield 26, 3) := by decide +kernel
theorem d_RO_isFull_4 : decode b_RO_isFull 4 = .ok (.aload_n 0, 1) := by decide +kernel
theorem d_RO_isFull_5 : decode b_RO_isFull 5 = .ok (.getfield 9, 3) := by decide +kernel
theorem d_RO_isFull_8 : decode b_RO_isFull 8 = .ok (.if_icmp .lt 7, 3) := by decide +kernel
theorem d_RO_isFull_11 : decode b_RO_isFull 11 = .ok (.iconst 1, 1) := by decide +kernel
theorem d_RO_isFull_12 : decode b_RO_isFull 12 = .ok (.goto 4, 3) := by decide +kernel
theorem d_RO_isFull_15 : decode b_RO_isFull 15 = .ok (.iconst 0, 1) := by decide +kernel
theorem d_RO_isFull_16 : decode b_RO_isFull 16 = .ok (.ireturn, 1) := by decide +kernel
def f_RO_isFull (S : XS) (a0 : Nat) : Option (Int32) :=
  if xR a0 then (if (xgi S a0 4) < (xgi S a0 0) then (some (0 : Int32)) else (some (1 : Int32))) else none
set_option maxHeartbeats 4000000 in
set_option maxRecDepth 100000 in
theorem k_RO_isFull (l : Launch) {p : Program} {e : Env} {s : State} {m : MethodId} {args : Array Value} {below : List Frame} {meth : Method} {c : Code} {D : va_G} {lay : Nat → Nat} {cA : Nat → ClassId} {adK adV : Nat → Nat} {s0 : State} (C : xB p s m args meth c R_RO b_RO_isFull ((Option.some Jvm.ClassFile.FieldType.boolean)) 1) (E : xE D lay cA adK adV s0 s s.heap) : ∀ (S : XS) (a0 : Nat) (r : Int32) (_ : f_RO_isFull S a0 = some r) (H : Heap) (locs : List Loc) (ls : Array Slot), va_P D xcl (xw lay cA S) H → va_S (xI lay) s.heap H locs → lv_has ls 1 [(0, .ref (lay a0))] → W p l e rm_RO_isFull s m args below meth c H locs 0 0 (MQ below (xqi D lay cA r S) args s 0 0 (xI lay)) (F0 m 0 ls []) := by
  obtain ⟨hx, hb, hr, hml, hown, hts, hlk, hnh⟩ := id C
  have hK := E.K
  intro S a0 r h H locs ls hP hS hl
  unfold f_RO_isFull at h
  refine lv_aload_n hx hb d_RO_isFull_0 rfl (lv_at hl 0 rfl) ?_
  obtain ⟨hk1, h⟩ := xg h
  refine va_get (v := .int (xgi S a0 4)) (C := R_RO) (T := F_RO) (N := 5) hx hb hts i_RO hown hK hP a0 (xw_at (xR_lt hk1).1 (xc_RO _ _ _ _ hk1)) rfl 4 (by decide) (hts _ wd_92) (fun _ h9 => h9) rfl d_RO_isFull_1 ?_
  refine lv_aload_n hx hb d_RO_isFull_4 rfl (lv_at hl 0 rfl) ?_
  refine va_get (v := .int (xgi S a0 0)) (C := R_RO) (T := F_RO) (N := 5) hx hb hts i_RO hown hK hP a0 (xw_at (xR_lt hk1).1 (xc_RO _ _ _ _ hk1)) rfl 0 (by decide) (hts _ wd_88) (fun _ h9 => h9) rfl d_RO_isFull_5 ?_
  refine lv_icmp_lt (tgt := 15) hx hb d_RO_isFull_8 (by decide) (fun c_2 => ?_) (fun c_2 => ?_)
  · have h := xif_t c_2 h
    refine lv_iconst (v := (0 : Int32)) hx hb d_RO_isFull_15 (by decide) ?_
    have h9 := Option.some.inj h
    subst h9
    exact W.zret (v := (0 : Int32)) hx hb hr (by decide) (fun t ht hW => ⟨⟨(0 : Int32), (), rfl, rfl, by show va_P D xcl _ t.heap; rw [ht]; exact hP⟩, hS.F ht⟩) hS.2.2 d_RO_isFull_16
  · have h := xif_f c_2 h
    refine lv_iconst (v := (1 : Int32)) hx hb d_RO_isFull_11 (by decide) ?_
    refine lv_goto (tgt := 16) hx hb d_RO_isFull_12 (by decide) ?_
    have h9 := Option.some.inj h
    subst h9
    exact W.zret (v := (1 : Int32)) hx hb hr (by decide) (fun t ht hW => ⟨⟨(1 : Int32), (), rfl, rfl, by show va_P D xcl _ t.heap; rw [ht]; exact hP⟩, hS.F ht⟩) hS.2.2 d_RO_isFull_16
theorem c_RO_isFull (l : Launch) (D : va_G) (lay : Nat → Nat) (cA : Nat → ClassId) (adK adV : Nat → Nat) (s0 : State) (S : XS) (a0 : Nat) (r : Int32) (h : f_RO_isFull S a0 = some r) : Met l y_RO_isFull (.code y_RO_isFull b_RO_isFull 1 ((Option.some Jvm.ClassFile.FieldType.boolean)) :: xT) rm_RO_isFull (xPc D lay cA adK adV s0 S [.ref (lay a0)]) (xqi D lay cA r S) 0 0 (xI lay) := by
  refine Met.ofW (cc := b_RO_isFull) (maxL := 1) (ret := (Option.some Jvm.ClassFile.FieldType.boolean)) (by decide +kernel) rfl ?_
  intro p e s m args below meth c s₁ B hml hv
  obtain ⟨rfl, hP, E⟩ := hv
  have C := xB_of B hml
  have hl := lv_entry ([.ref (lay a0)]) (n := 1) (Nat.le_of_ble_eq_true rfl)
  rw [lg_entry_eq]
  generalize (lg_sl ([.ref (lay a0)]) ++ List.replicate (1 - (lg_sl ([.ref (lay a0)])).length) Slot.unset).toArray = ls at hl ⊢
  exact k_RO_isFull l C E S a0 r h s.heap [] ls hP va_S.rf hl
/-! ConfigTexts$Rows.add(JI)V -/
def rm_RO_add : Room := { frames := 1, cells := 0, slots := 0, locals := 20 }
theorem d_RO_add_0 : decode b_RO_add 0 = .ok (.aload_n 0, 1) := by decide +kernel
theorem d_RO_add_1 : decode b_RO_add 1 = .ok (.invokevirtual 29, 3) := by decide +kernel
theorem d_RO_add_4 : decode b_RO_add 4 = .ok (.ifCond .eq 4, 3) := by decide +kernel
theorem d_RO_add_7 : decode b_RO_add 7 = .ok (.return_, 1) := by decide +kernel
theorem d_RO_add_8 : decode b_RO_add 8 = .ok (.aload_n 0, 1) := by decide +kernel
theorem d_RO_add_9 : decode b_RO_add 9 = .ok (.getfield 18, 3) := by decide +kernel
theorem d_RO_add_12 : decode b_RO_add 12 = .ok (.aload_n 0, 1) := by decide +kernel
theorem d_RO_add_13 : decode b_RO_add 13 = .ok (.getfield 26, 3) := by decide +kernel
theorem d_RO_add_16 : decode b_RO_add 16 = .ok (.lload_n 1, 1) := by decide +kernel
theorem d_RO_add_17 : decode b_RO_add 17 = .ok (.lastore, 1) := by decide +kernel
theorem d_RO_add_18 : decode b_RO_add 18 = .ok (.iconst 0, 1) := by decide +kernel
theorem d_RO_add_19 : decode b_RO_add 19 = .ok (.istore 4, 2) := by decide +kernel
theorem d_RO_add_21 : decode b_RO_add 21 = .ok (.iload 4, 2) := by decide +kernel
theorem d_RO_add_23 : decode b_RO_add 23 = .ok (.aload_n 0, 1) := by decide +kernel
theorem d_RO_add_24 : decode b_RO_add 24 = .ok (.getfield 15, 3) := by decide +kernel
theorem d_RO_add_27 : decode b_RO_add 27 = .ok (.if_icmp .ge 27, 3) := by decide +kernel
theorem d_RO_add_30 : decode b_RO_add 30 = .ok (.aload_n 0, 1) := by decide +kernel
theorem d_RO_add_31 : decode b_RO_add 31 = .ok (.getfield 22, 3) := by decide +kernel
theorem d_RO_add_34 : decode b_RO_add 34 = .ok (.aload_n 0, 1) := by decide +kernel
theorem d_RO_add_35 : decode b_RO_add 35 = .ok (.getfield 26, 3) := by decide +kernel
theorem d_RO_add_38 : decode b_RO_add 38 = .ok (.aload_n 0, 1) := by decide +kernel
theorem d_RO_add_39 : decode b_RO_add 39 = .ok (.getfield 15, 3) := by decide +kernel
theorem d_RO_add_42 : decode b_RO_add 42 = .ok (.imul, 1) := by decide +kernel
theorem d_RO_add_43 : decode b_RO_add 43 = .ok (.iload 4, 2) := by decide +kernel
theorem d_RO_add_45 : decode b_RO_add 45 = .ok (.iadd, 1) := by decide +kernel
theorem d_RO_add_46 : decode b_RO_add 46 = .ok (.iload_n 3, 1) := by decide +kernel
theorem d_RO_add_47 : decode b_RO_add 47 = .ok (.iastore, 1) := by decide +kernel
theorem d_RO_add_48 : decode b_RO_add 48 = .ok (.iinc 4 1, 3) := by decide +kernel
theorem d_RO_add_51 : decode b_RO_add 51 = .ok (.goto (-30), 3) := by decide +kernel
theorem d_RO_add_54 : decode b_RO_add 54 = .ok (.aload_n 0, 1) := by decide +kernel
theorem d_RO_add_55 : decode b_RO_add 55 = .ok (.dup, 1) := by decide +kernel
theorem d_RO_add_56 : decode b_RO_add 56 = .ok (.getfield 26, 3) := by decide +kernel
theorem d_RO_add_59 : decode b_RO_add 59 = .ok (.iconst 1, 1) := by decide +kernel
theorem d_RO_add_60 : decode b_RO_add 60 = .ok (.iadd, 1) := by decide +kernel
theorem d_RO_add_61 : decode b_RO_add 61 = .ok (.putfield 26, 3) := by decide +kernel
theorem d_RO_add_64 : decode b_RO_add 64 = .ok (.return_, 1) := by decide +kernel
def f_RO_add_21 : Nat → XS → Nat → Int32 → Int32 → Option (XS)
  | 0, _, _, _, _ => none
  | n + 1, S, a0, a3, a4 =>
    if xR a0 then (if (xgi S a0 1) ≤ a4 then (some (xpi S a0 4 ((xgi S a0 4) + (1 : Int32)))) else (if ¬ ((((xgi S a0 4) * (xgi S a0 1)) + a4) < 0 ∨ xMost a0 * xWid a0 ≤ (((xgi S a0 4) * (xgi S a0 1)) + a4).toNatClampNeg) then (f_RO_add_21 n (xpi S (a0 + 2) (((xgi S a0 4) * (xgi S a0 1)) + a4).toNatClampNeg a3) a0 a3 (a4 + (1 : Int32))) else none)) else none
set_option maxHeartbeats 4000000 in
set_option maxRecDepth 100000 in
theorem k_RO_add_21 (l : Launch) {p : Program} {e : Env} {s : State} {m : MethodId} {args : Array Value} {below : List Frame} {meth : Method} {c : Code} {D : va_G} {lay : Nat → Nat} {cA : Nat → ClassId} {adK adV : Nat → Nat} {s0 : State} (C : xB p s m args meth c R_RO b_RO_add ((Option.none : Option Jvm.ClassFile.FieldType)) 5) (E : xE D lay cA adK adV s0 s s.heap) : ∀ (n : Nat) (S : XS) (a0 : Nat) (a3 : Int32) (a4 : Int32) (r : XS) (_ : f_RO_add_21 n S a0 a3 a4 = some r) (H : Heap) (locs : List Loc) (ls : Array Slot), va_P D xcl (xw lay cA S) H → va_S (xI lay) s.heap H locs → lv_has ls 5 [(0, .ref (lay a0)), (3, .int a3), (4, .int a4)] → W p l e rm_RO_add s m args below meth c H locs 0 0 (MQ below (xqv D lay cA r) args s 0 0 (xI lay)) (F0 m 21 ls []) := by
  obtain ⟨hx, hb, hr, hml, hown, hts, hlk, hnh⟩ := id C
  have hK := E.K
  intro n
  induction n with
  | zero => intro S a0 a3 a4 r h; rw [f_RO_add_21] at h; cases h
  | succ n ih =>
    intro S a0 a3 a4 r h H locs ls hP hS hl
    rw [f_RO_add_21] at h
    refine lv_iload hx hb d_RO_add_21 (lv_at hl 2 rfl) ?_
    refine lv_aload_n hx hb d_RO_add_23 rfl (lv_at hl 0 rfl) ?_
    obtain ⟨hk6, h⟩ := xg h
    refine va_get (v := .int (xgi S a0 1)) (C := R_RO) (T := F_RO) (N := 5) hx hb hts i_RO hown hK hP a0 (xw_at (xR_lt hk6).1 (xc_RO _ _ _ _ hk6)) rfl 1 (by decide) (hts _ wd_89) (fun _ h9 => h9) rfl d_RO_add_24 ?_
    refine lv_icmp_ge (tgt := 54) hx hb d_RO_add_27 (by decide) (fun c_8 => ?_) (fun c_8 => ?_)
    · have h := xif_t c_8 h
      refine lv_aload_n hx hb d_RO_add_54 rfl (lv_at hl 0 rfl) ?_
      refine lv_dup hx hb d_RO_add_55 rfl ?_
      refine va_get (v := .int (xgi S a0 4)) (C := R_RO) (T := F_RO) (N := 5) hx hb hts i_RO hown hK hP a0 (xw_at (xR_lt hk6).1 (xc_RO _ _ _ _ hk6)) rfl 4 (by decide) (hts _ wd_92) (fun _ h9 => h9) rfl d_RO_add_56 ?_
      refine lv_iconst (v := (1 : Int32)) hx hb d_RO_add_59 (by decide) ?_
      refine lv_iadd hx hb d_RO_add_60 ?_
      refine xput_RO_4 hx hb hts hown E hP hS hk6 (hts _ wd_92) d_RO_add_61 (fun H locs hP hS => ?_)
      have h9 := Option.some.inj h
      subst h9
      exact W.vret hx hb hr (fun t ht hW => ⟨⟨(), rfl, trivial, by show va_P D xcl _ t.heap; rw [ht]; exact hP⟩, hS.F ht⟩) hS.2.2 d_RO_add_64
    · have h := xif_f c_8 h
      refine lv_aload_n hx hb d_RO_add_30 rfl (lv_at hl 0 rfl) ?_
      refine va_get (v := .ref (lay (a0 + 2))) (C := R_RO) (T := F_RO) (N := 5) hx hb hts i_RO hown hK hP a0 (xw_at (xR_lt hk6).1 (xc_RO _ _ _ _ hk6)) rfl 3 (by decide) (hts _ wd_91) (fun _ h9 => h9) rfl d_RO_add_31 ?_
      refine lv_aload_n hx hb d_RO_add_34 rfl (lv_at hl 0 rfl) ?_
      refine va_get (v := .int (xgi S a0 4)) (C := R_RO) (T := F_RO) (N := 5) hx hb hts i_RO hown hK hP a0 (xw_at (xR_lt hk6).1 (xc_RO _ _ _ _ hk6)) rfl 4 (by decide) (hts _ wd_92) (fun _ h9 => h9) rfl d_RO_add_35 ?_
      refine lv_aload_n hx hb d_RO_add_38 rfl (lv_at hl 0 rfl) ?_
      refine va_get (v := .int (xgi S a0 1)) (C := R_RO) (T := F_RO) (N := 5) hx hb hts i_RO hown hK hP a0 (xw_at (xR_lt hk6).1 (xc_RO _ _ _ _ hk6)) rfl 1 (by decide) (hts _ wd_89) (fun _ h9 => h9) rfl d_RO_add_39 ?_
      refine lv_imul hx hb d_RO_add_42 ?_
      refine lv_iload hx hb d_RO_add_43 (lv_at hl 2 rfl) ?_
      refine lv_iadd hx hb d_RO_add_45 ?_
      refine lv_iload_n hx hb d_RO_add_46 rfl (lv_at hl 1 rfl) ?_
      obtain ⟨hg7, h⟩ := xg h
      refine xas_ROU hx hb E hP hS hk6 hg7 d_RO_add_47 (fun H locs hP hS => ?_)
      refine lv_iinc (v := a4 + (1 : Int32)) (lv' := [(4, .int (a4 + (1 : Int32))), (0, .ref (lay a0)), (3, .int a3)]) hx hb d_RO_add_48 hl (k := 2) rfl (by rfl) (by decide) rfl (fun ls hl => ?_)
      refine lv_goto (tgt := 21) hx hb d_RO_add_51 (by decide) ?_
      exact ih (xpi S (a0 + 2) (((xgi S a0 4) * (xgi S a0 1)) + a4).toNatClampNeg a3) a0 a3 (a4 + (1 : Int32)) _ h H locs ls hP hS (lv_sub hl [1, 2, 0] rfl)
def f_RO_add (S : XS) (a0 : Nat) (a1 : Int64) (a3 : Int32) : Option (XS) :=
  if xR a0 then ((f_RO_isFull S a0).bind fun q3 => if q3 = 0 then (if ¬ ((xgi S a0 4) < 0 ∨ xMost a0 ≤ (xgi S a0 4).toNatClampNeg) then (f_RO_add_21 4096 (xpl S (a0 + 1) (xgi S a0 4).toNatClampNeg a1) a0 a3 (0 : Int32)) else none) else (some S)) else none
set_option maxHeartbeats 4000000 in
set_option maxRecDepth 100000 in
theorem k_RO_add (l : Launch) {p : Program} {e : Env} {s : State} {m : MethodId} {args : Array Value} {below : List Frame} {meth : Method} {c : Code} {D : va_G} {lay : Nat → Nat} {cA : Nat → ClassId} {adK adV : Nat → Nat} {s0 : State} (C : xB p s m args meth c R_RO b_RO_add ((Option.none : Option Jvm.ClassFile.FieldType)) 5) (E : xE D lay cA adK adV s0 s s.heap) : ∀ (S : XS) (a0 : Nat) (a1 : Int64) (a3 : Int32) (r : XS) (_ : f_RO_add S a0 a1 a3 = some r) (H : Heap) (locs : List Loc) (ls : Array Slot), va_P D xcl (xw lay cA S) H → va_S (xI lay) s.heap H locs → lv_has ls 5 [(0, .ref (lay a0)), (1, .long a1), (3, .int a3)] → W p l e rm_RO_add s m args below meth c H locs 0 0 (MQ below (xqv D lay cA r) args s 0 0 (xI lay)) (F0 m 0 ls []) := by
  obtain ⟨hx, hb, hr, hml, hown, hts, hlk, hnh⟩ := id C
  have hK := E.K
  intro S a0 a1 a3 r h H locs ls hP hS hl
  unfold f_RO_add at h
  refine lv_aload_n hx hb d_RO_add_0 rfl (lv_at hl 0 rfl) ?_
  obtain ⟨hk1, h⟩ := xg h
  obtain ⟨q3, e2, h⟩ := xb h
  refine xc_i (va_runV (As := []) (rest := []) ⟨hx, hb, hml, hown, hts⟩ (c_RO_isFull l D lay cA adK adV s0 S a0 q3 e2) (cwV 0 hts (xT_V wd_563 wd_548 wd_549 wd_5 wd_550) rfl rfl rfl (by decide +kernel) ⟨Nat.le_of_ble_eq_true rfl, Nat.le_of_ble_eq_true rfl⟩) (xpV E hP hS (xR_lt hk1).1 (xc_RO _ _ _ _ hk1) rfl) rfl rfl hl.1 rfl (lv_room (Nat.le_of_ble_eq_true rfl)) d_RO_add_1 ⟨Nat.le_of_ble_eq_true rfl, Nat.le_of_ble_eq_true rfl⟩) hS (fun H locs hP hS => ?_)
  refine lv_if_eq (tgt := 8) hx hb d_RO_add_4 (by decide) (fun c_5 => ?_) (fun c_5 => ?_)
  · have h := xif_t c_5 h
    refine lv_aload_n hx hb d_RO_add_8 rfl (lv_at hl 0 rfl) ?_
    refine va_get (v := .ref (lay (a0 + 1))) (C := R_RO) (T := F_RO) (N := 5) hx hb hts i_RO hown hK hP a0 (xw_at (xR_lt hk1).1 (xc_RO _ _ _ _ hk1)) rfl 2 (by decide) (hts _ wd_90) (fun _ h9 => h9) rfl d_RO_add_9 ?_
    refine lv_aload_n hx hb d_RO_add_12 rfl (lv_at hl 0 rfl) ?_
    refine va_get (v := .int (xgi S a0 4)) (C := R_RO) (T := F_RO) (N := 5) hx hb hts i_RO hown hK hP a0 (xw_at (xR_lt hk1).1 (xc_RO _ _ _ _ hk1)) rfl 4 (by decide) (hts _ wd_92) (fun _ h9 => h9) rfl d_RO_add_13 ?_
    refine lv_lload_n hx hb d_RO_add_16 rfl (lv_at hl 1 rfl) ?_
    obtain ⟨hg4, h⟩ := xg h
    refine xas_RON hx hb E hP hS hk1 hg4 d_RO_add_17 (fun H locs hP hS => ?_)
    refine lv_iconst (v := (0 : Int32)) hx hb d_RO_add_18 (by decide) ?_
    refine lv_istore (lv' := [(4, .int (0 : Int32)), (0, .ref (lay a0)), (1, .long a1), (3, .int a3)]) hx hb d_RO_add_19 hl (by decide) rfl (fun ls hl => ?_)
    exact k_RO_add_21 l C E 4096 (xpl S (a0 + 1) (xgi S a0 4).toNatClampNeg a1) a0 a3 (0 : Int32) _ h H locs ls hP hS (lv_sub hl [1, 3, 0] rfl)
  · have h := xif_f c_5 h
    have h9 := Option.some.inj h
    subst h9
    exact W.vret hx hb hr (fun t ht hW => ⟨⟨(), rfl, trivial, by show va_P D xcl _ t.heap; rw [ht]; exact hP⟩, hS.F ht⟩) hS.2.2 d_RO_add_7
theorem c_RO_add (l : Launch) (D : va_G) (lay : Nat → Nat) (cA : Nat → ClassId) (adK adV : Nat → Nat) (s0 : State) (S : XS) (a0 : Nat) (a1 : Int64) (a3 : Int32) (r : XS) (h : f_RO_add S a0 a1 a3 = some r) : Met l y_RO_add (.code y_RO_add b_RO_add 5 ((Option.none : Option Jvm.ClassFile.FieldType)) :: xT) rm_RO_add (xPc D lay cA adK adV s0 S [.ref (lay a0), .long a1, .int a3]) (xqv D lay cA r) 0 0 (xI lay) := by
  refine Met.ofW (cc := b_RO_add) (maxL := 5) (ret := (Option.none : Option Jvm.ClassFile.FieldType)) (by decide +kernel) rfl ?_
  intro p e s m args below meth c s₁ B hml hv
  obtain ⟨rfl, hP, E⟩ := hv
  have C := xB_of B hml
  have hl := lv_entry ([.ref (lay a0), .long a1, .int a3]) (n := 5) (Nat.le_of_ble_eq_true rfl)
  rw [lg_entry_eq]
  generalize (lg_sl ([.ref (lay a0), .long a1, .int a3]) ++ List.replicate (5 - (lg_sl ([.ref (lay a0), .long a1, .int a3])).length) Slot.unset).toArray = ls at hl ⊢
  exact k_RO_add l C E S a0 a1 a3 r h s.heap [] ls hP va_S.rf hl
/-! ConfigTexts$Rows.holds(II)Z -/
def rm_RO_holds : Room := { frames := 0, cells := 0, slots := 0, locals := 0 }
theorem d_RO_holds_0 : decode b_RO_holds 0 = .ok (.iload_n 1, 1) := by decide +kernel
theorem d_RO_holds_1 : decode b_RO_holds 1 = .ok (.ifCond .lt 27, 3) := by decide +kernel
theorem d_RO_holds_4 : decode b_RO_holds 4 = .ok (.iload_n 1, 1) := by decide +kernel
theorem d_RO_holds_5 : decode b_RO_holds 5 = .ok (.aload_n 0, 1) := by decide +kernel
theorem d_RO_holds_6 : decode b_RO_holds 6 = .ok (.getfield 26, 3) := by decide +kernel
theorem d_RO_holds_9 : decode b_RO_holds 9 = .ok (.if_icmp .ge 19, 3) := by decide +kernel
theorem d_RO_holds_12 : decode b_RO_holds 12 = .ok (.iload_n 2, 1) := by decide +kernel
theorem d_RO_holds_13 : decode b_RO_holds 13 = .ok (.ifCond .lt 15, 3) := by decide +kernel
theorem d_RO_holds_16 : decode b_RO_holds 16 = .ok (.iload_n 2, 1) := by decide +kernel
theorem d_RO_holds_17 : decode b_RO_holds 17 = .ok (.aload_n 0, 1) := by decide +kernel
theorem d_RO_holds_18 : decode b_RO_holds 18 = .ok (.getfield 15, 3) := by decide +kernel
theorem d_RO_holds_21 : decode b_RO_holds 21 = .ok (.if_icmp .ge 7, 3) := by decide +kernel
theorem d_RO_holds_24 : decode b_RO_holds 24 = .ok (.iconst 1, 1) := by decide +kernel
theorem d_RO_holds_25 : decode b_RO_holds 25 = .ok (.goto 4, 3) := by decide +kernel
theorem d_RO_holds_28 : decode b_RO_holds 28 = .ok (.iconst 0, 1) := by decide +kernel
theorem d_RO_holds_29 : decode b_RO_holds 29 = .ok (.ireturn, 1) := by decide +kernel
def f_RO_holds (S : XS) (a0 : Nat) (a1 : Int32) (a2 : Int32) : Option (Int32) :=
  if a1 < 0 then (some (0 : Int32)) else (if xR a0 then (if (xgi S a0 4) ≤ a1 then (some (0 : Int32)) else (if a2 < 0 then (some (0 : Int32)) else (if (xgi S a0 1) ≤ a2 then (some (0 : Int32)) else (some (1 : Int32))))) else none)
set_option maxHeartbeats 4000000 in
set_option maxRecDepth 100000 in
theorem k_RO_holds (l : Launch) {p : Program} {e : Env} {s : State} {m : MethodId} {args : Array Value} {below : List Frame} {meth : Method} {c : Code} {D : va_G} {lay : Nat → Nat} {cA : Nat → ClassId} {adK adV : Nat → Nat} {s0 : State} (C : xB p s m args meth c R_RO b_RO_holds ((Option.some Jvm.ClassFile.FieldType.boolean)) 3) (E : xE D lay cA adK adV s0 s s.heap) : ∀ (S : XS) (a0 : Nat) (a1 : Int32) (a2 : Int32) (r : Int32) (_ : f_RO_holds S a0 a1 a2 = some r) (H : Heap) (locs : List Loc) (ls : Array Slot), va_P D xcl (xw lay cA S) H → va_S (xI lay) s.heap H locs → lv_has ls 3 [(0, .ref (lay a0)), (1, .int a1), (2, .int a2)] → W p l e rm_RO_holds s m args below meth c H locs 0 0 (MQ below (xqi D lay cA r S) args s 0 0 (xI lay)) (F0 m 0 ls []) := by
  obtain ⟨hx, hb, hr, hml, hown, hts, hlk, hnh⟩ := id C
  have hK := E.K
  intro S a0 a1 a2 r h H locs ls hP hS hl
  unfold f_RO_holds at h
  refine lv_iload_n hx hb d_RO_holds_0 rfl (lv_at hl 1 rfl) ?_
  refine lv_if_lt (tgt := 28) hx hb d_RO_holds_1 (by decide) (fun c_5 => ?_) (fun c_5 => ?_)
  · have h := xif_t c_5 h
    refine lv_iconst (v := (0 : Int32)) hx hb d_RO_holds_28 (by decide) ?_
    have h9 := Option.some.inj h
    subst h9
    exact W.zret (v := (0 : Int32)) hx hb hr (by decide) (fun t ht hW => ⟨⟨(0 : Int32), (), rfl, rfl, by show va_P D xcl _ t.heap; rw [ht]; exact hP⟩, hS.F ht⟩) hS.2.2 d_RO_holds_29
  · have h := xif_f c_5 h
    refine lv_iload_n hx hb d_RO_holds_4 rfl (lv_at hl 1 rfl) ?_
    refine lv_aload_n hx hb d_RO_holds_5 rfl (lv_at hl 0 rfl) ?_
    obtain ⟨hk1, h⟩ := xg h
    refine va_get (v := .int (xgi S a0 4)) (C := R_RO) (T := F_RO) (N := 5) hx hb hts i_RO hown hK hP a0 (xw_at (xR_lt hk1).1 (xc_RO _ _ _ _ hk1)) rfl 4 (by decide) (hts _ wd_92) (fun _ h9 => h9) rfl d_RO_holds_6 ?_
    refine lv_icmp_ge (tgt := 28) hx hb d_RO_holds_9 (by decide) (fun c_4 => ?_) (fun c_4 => ?_)
    · have h := xif_t c_4 h
      refine lv_iconst (v := (0 : Int32)) hx hb d_RO_holds_28 (by decide) ?_
      have h9 := Option.some.inj h
      subst h9
      exact W.zret (v := (0 : Int32)) hx hb hr (by decide) (fun t ht hW => ⟨⟨(0 : Int32), (), rfl, rfl, by show va_P D xcl _ t.heap; rw [ht]; exact hP⟩, hS.F ht⟩) hS.2.2 d_RO_holds_29
    · have h := xif_f c_4 h
      refine lv_iload_n hx hb d_RO_holds_12 rfl (lv_at hl 2 rfl) ?_
      refine lv_if_lt (tgt := 28) hx hb d_RO_holds_13 (by decide) (fun c_3 => ?_) (fun c_3 => ?_)
      · have h := xif_t c_3 h
        refine lv_iconst (v := (0 : Int32)) hx hb d_RO_holds_28 (by decide) ?_
        have h9 := Option.some.inj h
        subst h9
        exact W.zret (v := (0 : Int32)) hx hb hr (by decide) (fun t ht hW => ⟨⟨(0 : Int32), (), rfl, rfl, by show va_P D xcl _ t.heap; rw [ht]; exact hP⟩, hS.F ht⟩) hS.2.2 d_RO_holds_29
      · have h := xif_f c_3 h
        refine lv_iload_n hx hb d_RO_holds_16 rfl (lv_at hl 2 rfl) ?_
        refine lv_aload_n hx hb d_RO_holds_17 rfl (lv_at hl 0 rfl) ?_
        refine va_get (v := .int (xgi S a0 1)) (C := R_RO) (T := F_RO) (N := 5) hx hb hts i_RO hown hK hP a0 (xw_at (xR_lt hk1).1 (xc_RO _ _ _ _ hk1)) rfl 1 (by decide) (hts _ wd_89) (fun _ h9 => h9) rfl d_RO_holds_18 ?_
        refine lv_icmp_ge (tgt := 28) hx hb d_RO_holds_21 (by decide) (fun c_2 => ?_) (fun c_2 => ?_)
        · have h := xif_t c_2 h
          refine lv_iconst (v := (0 : Int32)) hx hb d_RO_holds_28 (by decide) ?_
          have h9 := Option.some.inj h
          subst h9
          exact W.zret (v := (0 : Int32)) hx hb hr (by decide) (fun t ht hW => ⟨⟨(0 : Int32), (), rfl, rfl, by show va_P D xcl _ t.heap; rw [ht]; exact hP⟩, hS.F ht⟩) hS.2.2 d_RO_holds_29
        · have h := xif_f c_2 h
          refine lv_iconst (v := (1 : Int32)) hx hb d_RO_holds_24 (by decide) ?_
          refine lv_goto (tgt := 29) hx hb d_RO_holds_25 (by decide) ?_
          have h9 := Option.some.inj h
          subst h9
          exact W.zret (v := (1 : Int32)) hx hb hr (by decide) (fun t ht hW => ⟨⟨(1 : Int32), (), rfl, rfl, by show va_P D xcl _ t.heap; rw [ht]; exact hP⟩, hS.F ht⟩) hS.2.2 d_RO_holds_29
theorem c_RO_holds (l : Launch) (D : va_G) (lay : Nat → Nat) (cA : Nat → ClassId) (adK adV : Nat → Nat) (s0 : State) (S : XS) (a0 : Nat) (a1 : Int32) (a2 : Int32) (r : Int32) (h : f_RO_holds S a0 a1 a2 = some r) : Met l y_RO_holds (.code y_RO_holds b_RO_holds 3 ((Option.some Jvm.ClassFile.FieldType.boolean)) :: xT) rm_RO_holds (xPc D lay cA adK adV s0 S [.ref (lay a0), .int a1, .int a2]) (xqi D lay cA r S) 0 0 (xI lay) := by
  refine Met.ofW (cc := b_RO_holds) (maxL := 3) (ret := (Option.some Jvm.ClassFile.FieldType.boolean)) (by decide +kernel) rfl ?_
  intro p e s m args below meth c s₁ B hml hv
  obtain ⟨rfl, hP, E⟩ := hv
  have C := xB_of B hml
  have hl := lv_entry ([.ref (lay a0), .int a1, .int a2]) (n := 3) (Nat.le_of_ble_eq_true rfl)
  rw [lg_entry_eq]
  generalize (lg_sl ([.ref (lay a0), .int a1, .int a2]) ++ List.replicate (3 - (lg_sl ([.ref (lay a0), .int a1, .int a2])).length) Slot.unset).toArray = ls at hl ⊢
  exact k_RO_holds l C E S a0 a1 a2 r h s.heap [] ls hP va_S.rf hl
/-! ConfigTexts$Rows.get(II)I -/
def rm_RO_get : Room := { frames := 1, cells := 0, slots := 0, locals := 22 }
theorem d_RO_get_0 : decode b_RO_get 0 = .ok (.aload_n 0, 1) := by decide +kernel
theorem d_RO_get_1 : decode b_RO_get 1 = .ok (.iload_n 1, 1) := by decide +kernel
theorem d_RO_get_2 : decode b_RO_get 2 = .ok (.iload_n 2, 1) := by decide +kernel
theorem d_RO_get_3 : decode b_RO_get 3 = .ok (.invokevirtual 33, 3) := by decide +kernel
theorem d_RO_get_6 : decode b_RO_get 6 = .ok (.ifCond .eq 19, 3) := by decide +kernel
theorem d_RO_get_9 : decode b_RO_get 9 = .ok (.aload_n 0, 1) := by decide +kernel
theorem d_RO_get_10 : decode b_RO_get 10 = .ok (.getfield 22, 3) := by decide +kernel
theorem d_RO_get_13 : decode b_RO_get 13 = .ok (.iload_n 1, 1) := by decide +kernel
theorem d_RO_get_14 : decode b_RO_get 14 = .ok (.aload_n 0, 1) := by decide +kernel
theorem d_RO_get_15 : decode b_RO_get 15 = .ok (.getfield 15, 3) := by decide +kernel
theorem d_RO_get_18 : decode b_RO_get 18 = .ok (.imul, 1) := by decide +kernel
theorem d_RO_get_19 : decode b_RO_get 19 = .ok (.iload_n 2, 1) := by decide +kernel
theorem d_RO_get_20 : decode b_RO_get 20 = .ok (.iadd, 1) := by decide +kernel
theorem d_RO_get_21 : decode b_RO_get 21 = .ok (.iaload, 1) := by decide +kernel
theorem d_RO_get_22 : decode b_RO_get 22 = .ok (.goto 4, 3) := by decide +kernel
theorem d_RO_get_25 : decode b_RO_get 25 = .ok (.iconst (-1), 1) := by decide +kernel
theorem d_RO_get_26 : decode b_RO_get 26 = .ok (.ireturn, 1) := by decide +kernel
def f_RO_get (S : XS) (a0 : Nat) (a1 : Int32) (a2 : Int32) : Option (Int32) :=
  if xR a0 then ((f_RO_holds S a0 a1 a2).bind fun q3 => if q3 = 0 then (some (-1 : Int32)) else (if ¬ (((a1 * (xgi S a0 1)) + a2) < 0 ∨ xMost a0 * xWid a0 ≤ ((a1 * (xgi S a0 1)) + a2).toNatClampNeg) then (some (xgi S (a0 + 2) ((a1 * (xgi S a0 1)) + a2).toNatClampNeg)) else none)) else none
set_option maxHeartbeats 4000000 in
set_option maxRecDepth 100000 in
theorem k_RO_get (l : Launch) {p : Program} {e : Env} {s : State} {m : MethodId} {args : Array Value} {below : List Frame} {meth : Method} {c : Code} {D : va_G} {lay : Nat → Nat} {cA : Nat → ClassId} {adK adV : Nat → Nat} {s0 : State} (C : xB p s m args meth c R_RO b_RO_get ((Option.some Jvm.ClassFile.FieldType.int)) 3) (E : xE D lay cA adK adV s0 s s.heap) : ∀ (S : XS) (a0 : Nat) (a1 : Int32) (a2 : Int32) (r : Int32) (_ : f_RO_get S a0 a1 a2 = some r) (H : Heap) (locs : List Loc) (ls : Array Slot), va_P D xcl (xw lay cA S) H → va_S (xI lay) s.heap H locs → lv_has ls 3 [(0, .ref (lay a0)), (1, .int a1), (2, .int a2)] → W p l e rm_RO_get s m args below meth c H locs 0 0 (MQ below (xqi D lay cA r S) args s 0 0 (xI lay)) (F0 m 0 ls []) := by
  obtain ⟨hx, hb, hr, hml, hown, hts, hlk, hnh⟩ := id C
  have hK := E.K
  intro S a0 a1 a2 r h H locs ls hP hS hl
  unfold f_RO_get at h
  refine lv_aload_n hx hb d_RO_get_0 rfl (lv_at hl 0 rfl) ?_
  refine lv_iload_n hx hb d_RO_get_1 rfl (lv_at hl 1 rfl) ?_
  refine lv_iload_n hx hb d_RO_get_2 rfl (lv_at hl 2 rfl) ?_
  obtain ⟨hk1, h⟩ := xg h
  obtain ⟨q3, e2, h⟩ := xb h
  refine xc_i (va_runV (As := [.int a1, .int a2]) (rest := []) ⟨hx, hb, hml, hown, hts⟩ (c_RO_holds l D lay cA adK adV s0 S a0 a1 a2 q3 e2) (cwV 2 hts (xT_V wd_245 wd_247 wp_2 wd_5 wd_248) rfl rfl rfl (by decide +kernel) ⟨Nat.le_of_ble_eq_true rfl, Nat.le_of_ble_eq_true rfl⟩) (xpV E hP hS (xR_lt hk1).1 (xc_RO _ _ _ _ hk1) rfl) rfl rfl hl.1 rfl (lv_room (Nat.le_of_ble_eq_true rfl)) d_RO_get_3 ⟨Nat.le_of_ble_eq_true rfl, Nat.le_of_ble_eq_true rfl⟩) hS (fun H locs hP hS => ?_)
  refine lv_if_eq (tgt := 25) hx hb d_RO_get_6 (by decide) (fun c_5 => ?_) (fun c_5 => ?_)
  · have h := xif_t c_5 h
    refine lv_iconst (v := (-1 : Int32)) hx hb d_RO_get_25 (by decide) ?_
    have h9 := Option.some.inj h
    subst h9
    exact W.iret (v := (-1 : Int32)) hx hb hr (fun t ht hW => ⟨⟨(-1 : Int32), (), rfl, rfl, by show va_P D xcl _ t.heap; rw [ht]; exact hP⟩, hS.F ht⟩) hS.2.2 d_RO_get_26
  · have h := xif_f c_5 h
    refine lv_aload_n hx hb d_RO_get_9 rfl (lv_at hl 0 rfl) ?_
    refine va_get (v := .ref (lay (a0 + 2))) (C := R_RO) (T := F_RO) (N := 5) hx hb hts i_RO hown hK hP a0 (xw_at (xR_lt hk1).1 (xc_RO _ _ _ _ hk1)) rfl 3 (by decide) (hts _ wd_91) (fun _ h9 => h9) rfl d_RO_get_10 ?_
    refine lv_iload_n hx hb d_RO_get_13 rfl (lv_at hl 1 rfl) ?_
    refine lv_aload_n hx hb d_RO_get_14 rfl (lv_at hl 0 rfl) ?_
    refine va_get (v := .int (xgi S a0 1)) (C := R_RO) (T := F_RO) (N := 5) hx hb hts i_RO hown hK hP a0 (xw_at (xR_lt hk1).1 (xc_RO _ _ _ _ hk1)) rfl 1 (by decide) (hts _ wd_89) (fun _ h9 => h9) rfl d_RO_get_15 ?_
    refine lv_imul hx hb d_RO_get_18 ?_
    refine lv_iload_n hx hb d_RO_get_19 rfl (lv_at hl 2 rfl) ?_
    refine lv_iadd hx hb d_RO_get_20 ?_
    obtain ⟨hg4, h⟩ := xg h
    refine xal_ROU hx hb E hP hk1 hg4 d_RO_get_21 ?_
    refine lv_goto (tgt := 26) hx hb d_RO_get_22 (by decide) ?_
    have h9 := Option.some.inj h
    subst h9
    exact W.iret (v := xgi S (a0 + 2) ((a1 * (xgi S a0 1)) + a2).toNatClampNeg) hx hb hr (fun t ht hW => ⟨⟨xgi S (a0 + 2) ((a1 * (xgi S a0 1)) + a2).toNatClampNeg, (), rfl, rfl, by show va_P D xcl _ t.heap; rw [ht]; exact hP⟩, hS.F ht⟩) hS.2.2 d_RO_get_26
theorem c_RO_get (l : Launch) (D : va_G) (lay : Nat → Nat) (cA : Nat → ClassId) (adK adV : Nat → Nat) (s0 : State) (S : XS) (a0 : Nat) (a1 : Int32) (a2 : Int32) (r : Int32) (h : f_RO_get S a0 a1 a2 = some r) : Met l y_RO_get (.code y_RO_get b_RO_get 3 ((Option.some Jvm.ClassFile.FieldType.int)) :: xT) rm_RO_get (xPc D lay cA adK adV s0 S [.ref (lay a0), .int a1, .int a2]) (xqi D lay cA r S) 0 0 (xI lay) := by
  refine Met.ofW (cc := b_RO_get) (maxL := 3) (ret := (Option.some Jvm.ClassFile.FieldType.int)) (by decide +kernel) rfl ?_
  intro p e s m args below meth c s₁ B hml hv
  obtain ⟨rfl, hP, E⟩ := hv
  have C := xB_of B hml
  have hl := lv_entry ([.ref (lay a0), .int a1, .int a2]) (n := 3) (Nat.le_of_ble_eq_true rfl)
  rw [lg_entry_eq]
  generalize (lg_sl ([.ref (lay a0), .int a1, .int a2]) ++ List.replicate (3 - (lg_sl ([.ref (lay a0), .int a1, .int a2])).length) Slot.unset).toArray = ls at hl ⊢
  exact k_RO_get l C E S a0 a1 a2 r h s.heap [] ls hP va_S.rf hl
/-! ConfigTexts$Rows.set(III)V -/
def rm_RO_set : Room := { frames := 1, cells := 0, slots := 0, locals := 22 }
theorem d_RO_set_0 : decode b_RO_set 0 = .ok (.aload_n 0, 1) := by decide +kernel
theorem d_RO_set_1 : decode b_RO_set 1 = .ok (.iload_n 1, 1) := by decide +kernel
theorem d_RO_set_2 : decode b_RO_set 2 = .ok (.iload_n 2, 1) := by decide +kernel
theorem d_RO_set_3 : decode b_RO_set 3 = .ok (.invokevirtual 33, 3) := by decide +kernel
theorem d_RO_set_6 : decode b_RO_set 6 = .ok (.ifCond .eq 17, 3) := by decide +kernel
theorem d_RO_set_9 : decode b_RO_set 9 = .ok (.aload_n 0, 1) := by decide +kernel
theorem d_RO_set_10 : decode b_RO_set 10 = .ok (.getfield 22, 3) := by decide +kernel
theorem d_RO_set_13 : decode b_RO_set 13 = .ok (.iload_n 1, 1) := by decide +kernel
theorem d_RO_set_14 : decode b_RO_set 14 = .ok (.aload_n 0, 1) := by decide +kernel
theorem d_RO_set_15 : decode b_RO_set 15 = .ok (.getfield 15, 3) := by decide +kernel
theorem d_RO_set_18 : decode b_RO_set 18 = .ok (.imul, 1) := by decide +kernel
theorem d_RO_set_19 : decode b_RO_set 19 = .ok (.iload_n 2, 1) := by decide +kernel
theorem d_RO_set_20 : decode b_RO_set 20 = .ok (.iadd, 1) := by decide +kernel
theorem d_RO_set_21 : decode b_RO_set 21 = .ok (.iload_n 3, 1) := by decide +kernel
theorem d_RO_set_22 : decode b_RO_set 22 = .ok (.iastore, 1) := by decide +kernel
theorem d_RO_set_23 : decode b_RO_set 23 = .ok (.return_, 1) := by decide +kernel
def f_RO_set (S : XS) (a0 : Nat) (a1 : Int32) (a2 : Int32) (a3 : Int32) : Option (XS) :=
  if xR a0 then ((f_RO_holds S a0 a1 a2).bind fun q3 => if q3 = 0 then (some S) else (if ¬ (((a1 * (xgi S a0 1)) + a2) < 0 ∨ xMost a0 * xWid a0 ≤ ((a1 * (xgi S a0 1)) + a2).toNatClampNeg) then (some (xpi S (a0 + 2) ((a1 * (xgi S a0 1)) + a2).toNatClampNeg a3)) else none)) else none
set_option maxHeartbeats 4000000 in
set_option maxRecDepth 100000 in
theorem k_RO_set (l : Launch) {p : Program} {e : Env} {s : State} {m : MethodId} {args : Array Value} {below : List Frame} {meth : Method} {c : Code} {D : va_G} {lay : Nat → Nat} {cA : Nat → ClassId} {adK adV : Nat → Nat} {s0 : State} (C : xB p s m args meth c R_RO b_RO_set ((Option.none : Option Jvm.ClassFile.FieldType)) 4) (E : xE D lay cA adK adV s0 s s.heap) : ∀ (S : XS) (a0 : Nat) (a1 : Int32) (a2 : Int32) (a3 : Int32) (r : XS) (_ : f_RO_set S a0 a1 a2 a3 = some r) (H : Heap) (locs : List Loc) (ls : Array Slot), va_P D xcl (xw lay cA S) H → va_S (xI lay) s.heap H locs → lv_has ls 4 [(0, .ref (lay a0)), (1, .int a1), (2, .int a2), (3, .int a3)] → W p l e rm_RO_set s m args below meth c H locs 0 0 (MQ below (xqv D lay cA r) args s 0 0 (xI lay)) (F0 m 0 ls []) := by
  obtain ⟨hx, hb, hr, hml, hown, hts, hlk, hnh⟩ := id C
  have hK := E.K
  intro S a0 a1 a2 a3 r h H locs ls hP hS hl
  unfold f_RO_set at h
  refine lv_aload_n hx hb d_RO_set_0 rfl (lv_at hl 0 rfl) ?_
  refine lv_iload_n hx hb d_RO_set_1 rfl (lv_at hl 1 rfl) ?_
  refine lv_iload_n hx hb d_RO_set_2 rfl (lv_at hl 2 rfl) ?_
  obtain ⟨hk1, h⟩ := xg h
  obtain ⟨q3, e2, h⟩ := xb h
  refine xc_i (va_runV (As := [.int a1, .int a2]) (rest := []) ⟨hx, hb, hml, hown, hts⟩ (c_RO_holds l D lay cA adK adV s0 S a0 a1 a2 q3 e2) (cwV 2 hts (xT_V wd_245 wd_247 wp_2 wd_5 wd_248) rfl rfl rfl (by decide +kernel) ⟨Nat.le_of_ble_eq_true rfl, Nat.le_of_ble_eq_true rfl⟩) (xpV E hP hS (xR_lt hk1).1 (xc_RO _ _ _ _ hk1) rfl) rfl rfl hl.1 rfl (lv_room (Nat.le_of_ble_eq_true rfl)) d_RO_set_3 ⟨Nat.le_of_ble_eq_true rfl, Nat.le_of_ble_eq_true rfl⟩) hS (fun H locs hP hS => ?_)
  refine lv_if_eq (tgt := 23) hx hb d_RO_set_6 (by decide) (fun c_5 => ?_) (fun c_5 => ?_)
  · have h := xif_t c_5 h
    have h9 := Option.some.inj h
    subst h9
    exact W.vret hx hb hr (fun t ht hW => ⟨⟨(), rfl, trivial, by show va_P D xcl _ t.heap; rw [ht]; exact hP⟩, hS.F ht⟩) hS.2.2 d_RO_set_23
  · have h := xif_f c_5 h
    refine lv_aload_n hx hb d_RO_set_9 rfl (lv_at hl 0 rfl) ?_
    refine va_get (v := .ref (lay (a0 + 2))) (C := R_RO) (T := F_RO) (N := 5) hx hb hts i_RO hown hK hP a0 (xw_at (xR_lt hk1).1 (xc_RO _ _ _ _ hk1)) rfl 3 (by decide) (hts _ wd_91) (fun _ h9 => h9) rfl d_RO_set_10 ?_
    refine lv_iload_n hx hb d_RO_set_13 rfl (lv_at hl 1 rfl) ?_
    refine lv_aload_n hx hb d_RO_set_14 rfl (lv_at hl 0 rfl) ?_
    refine va_get (v := .int (xgi S a0 1)) (C := R_RO) (T := F_RO) (N := 5) hx hb hts i_RO hown hK hP a0 (xw_at (xR_lt hk1).1 (xc_RO _ _ _ _ hk1)) rfl 1 (by decide) (hts _ wd_89) (fun _ h9 => h9) rfl d_RO_set_15 ?_
    refine lv_imul hx hb d_RO_set_18 ?_
    refine lv_iload_n hx hb d_RO_set_19 rfl (lv_at hl 2 rfl) ?_
    refine lv_iadd hx hb d_RO_set_20 ?_
    refine lv_iload_n hx hb d_RO_set_21 rfl (lv_at hl 3 rfl) ?_
    obtain ⟨hg4, h⟩ := xg h
    refine xas_ROU hx hb E hP hS hk1 hg4 d_RO_set_22 (fun H locs hP hS => ?_)
    have h9 := Option.some.inj h
    subst h9
    exact W.vret hx hb hr (fun t ht hW => ⟨⟨(), rfl, trivial, by show va_P D xcl _ t.heap; rw [ht]; exact hP⟩, hS.F ht⟩) hS.2.2 d_RO_set_23
theorem c_RO_set (l : Launch) (D : va_G) (lay : Nat → Nat) (cA : Nat → ClassId) (adK adV : Nat → Nat) (s0 : State) (S : XS) (a0 : Nat) (a1 : Int32) (a2 : Int32) (a3 : Int32) (r : XS) (h : f_RO_set S a0 a1 a2 a3 = some r) : Met l y_RO_set (.code y_RO_set b_RO_set 4 ((Option.none : Option Jvm.ClassFile.FieldType)) :: xT) rm_RO_set (xPc D lay cA adK adV s0 S [.ref (lay a0), .int a1, .int a2, .int a3]) (xqv D lay cA r) 0 0 (xI lay) := by
  refine Met.ofW (cc := b_RO_set) (maxL := 4) (ret := (Option.none : Option Jvm.ClassFile.FieldType)) (by decide +kernel) rfl ?_
  intro p e s m args below meth c s₁ B hml hv
  obtain ⟨rfl, hP, E⟩ := hv
  have C := xB_of B hml
  have hl := lv_entry ([.ref (lay a0), .int a1, .int a2, .int a3]) (n := 4) (Nat.le_of_ble_eq_true rfl)
  rw [lg_entry_eq]
  generalize (lg_sl ([.ref (lay a0), .int a1, .int a2, .int a3]) ++ List.replicate (4 - (lg_sl ([.ref (lay a0), .int a1, .int a2, .int a3])).length) Slot.unset).toArray = ls at hl ⊢
  exact k_RO_set l C E S a0 a1 a2 a3 r h s.heap [] ls hP va_S.rf hl
/-! ConfigTexts$Rows.setLast(II)V -/
def rm_RO_setLast : Room := { frames := 2, cells := 0, slots := 0, locals := 45 }
theorem d_RO_setLast_0 : decode b_RO_setLast 0 = .ok (.aload_n 0, 1) := by decide +kernel
theorem d_RO_setLast_1 : decode b_RO_setLast 1 = .ok (.aload_n 0, 1) := by decide +kernel
theorem d_RO_setLast_2 : decode b_RO_setLast 2 = .ok (.getfield 26, 3) := by decide +kernel
theorem d_RO_setLast_5 : decode b_RO_setLast 5 = .ok (.iconst 1, 1) := by decide +kernel
theorem d_RO_setLast_6 : decode b_RO_setLast 6 = .ok (.isub, 1) := by decide +kernel
theorem d_RO_setLast_7 : decode b_RO_setLast 7 = .ok (.iload_n 1, 1) := by decide +kernel
theorem d_RO_setLast_8 : decode b_RO_setLast 8 = .ok (.iload_n 2, 1) := by decide +kernel
theorem d_RO_setLast_9 : decode b_RO_setLast 9 = .ok (.invokevirtual 37, 3) := by decide +kernel
theorem d_RO_setLast_12 : decode b_RO_setLast 12 = .ok (.return_, 1) := by decide +kernel
def f_RO_setLast (S : XS) (a0 : Nat) (a1 : Int32) (a2 : Int32) : Option (XS) :=
  if xR a0 then ((f_RO_set S a0 ((xgi S a0 4) - (1 : Int32)) a1 a2).bind fun q3 => some q3) else none
set_option maxHeartbeats 4000000 in
set_option maxRecDepth 100000 in
theorem k_RO_setLast (l : Launch) {p : Program} {e : Env} {s : State} {m : MethodId} {args : Array Value} {below : List Frame} {meth : Method} {c : Code} {D : va_G} {lay : Nat → Nat} {cA : Nat → ClassId} {adK adV : Nat → Nat} {s0 : State} (C : xB p s m args meth c R_RO b_RO_setLast ((Option.none : Option Jvm.ClassFile.FieldType)) 3) (E : xE D lay cA adK adV s0 s s.heap) : ∀ (S : XS) (a0 : Nat) (a1 : Int32) (a2 : Int32) (r : XS) (_ : f_RO_setLast S a0 a1 a2 = some r) (H : Heap) (locs : List Loc) (ls : Array Slot), va_P D xcl (xw lay cA S) H → va_S (xI lay) s.heap H locs → lv_has ls 3 [(0, .ref (lay a0)), (1, .int a1), (2, .int a2)] → W p l e rm_RO_setLast s m args below meth c H locs 0 0 (MQ below (xqv D lay cA r) args s 0 0 (xI lay)) (F0 m 0 ls []) := by
  obtain ⟨hx, hb, hr, hml, hown, hts, hlk, hnh⟩ := id C
  have hK := E.K
  intro S a0 a1 a2 r h H locs ls hP hS hl
  unfold f_RO_setLast at h
  refine lv_aload_n hx hb d_RO_setLast_0 rfl (lv_at hl 0 rfl) ?_
  refine lv_aload_n hx hb d_RO_setLast_1 rfl (lv_at hl 0 rfl) ?_
  obtain ⟨hk1, h⟩ := xg h
  refine va_get (v := .int (xgi S a0 4)) (C := R_RO) (T := F_RO) (N := 5) hx hb hts i_RO hown hK hP a0 (xw_at (xR_lt hk1).1 (xc_RO _ _ _ _ hk1)) rfl 4 (by decide) (hts _ wd_92) (fun _ h9 => h9) rfl d_RO_setLast_2 ?_
  refine lv_iconst (v := (1 : Int32)) hx hb d_RO_setLast_5 (by decide) ?_
  refine lv_isub hx hb d_RO_setLast_6 ?_
  refine lv_iload_n hx hb d_RO_setLast_7 rfl (lv_at hl 1 rfl) ?_
  refine lv_iload_n hx hb d_RO_setLast_8 rfl (lv_at hl 2 rfl) ?_
  obtain ⟨q3, e2, h⟩ := xb h
  refine xc_v (va_runV (As := [.int ((xgi S a0 4) - (1 : Int32)), .int a1, .int a2]) (rest := []) ⟨hx, hb, hml, hown, hts⟩ (c_RO_set l D lay cA adK adV s0 S a0 ((xgi S a0 4) - (1 : Int32)) a1 a2 q3 e2) (cwV 3 hts (xT_V wd_569 wd_570 wd_571 wd_5 wd_572) rfl rfl rfl (by decide +kernel) ⟨Nat.le_of_ble_eq_true rfl, Nat.le_of_ble_eq_true rfl⟩) (xpV E hP hS (xR_lt hk1).1 (xc_RO _ _ _ _ hk1) rfl) rfl rfl hl.1 rfl (lv_room (Nat.le_of_ble_eq_true rfl)) d_RO_setLast_9 ⟨Nat.le_of_ble_eq_true rfl, Nat.le_of_ble_eq_true rfl⟩) hS (fun H locs hP hS => ?_)
  have h9 := Option.some.inj h
  subst h9
  exact W.vret hx hb hr (fun t ht hW => ⟨⟨(), rfl, trivial, by show va_P D xcl _ t.heap; rw [ht]; exact hP⟩, hS.F ht⟩) hS.2.2 d_RO_setLast_12
theorem c_RO_setLast (l : Launch) (D : va_G) (lay : Nat → Nat) (cA : Nat → ClassId) (adK adV : Nat → Nat) (s0 : State) (S : XS) (a0 : Nat) (a1 : Int32) (a2 : Int32) (r : XS) (h : f_RO_setLast S a0 a1 a2 = some r) : Met l y_RO_setLast (.code y_RO_setLast b_RO_setLast 3 ((Option.none : Option Jvm.ClassFile.FieldType)) :: xT) rm_RO_setLast (xPc D lay cA adK adV s0 S [.ref (lay a0), .int a1, .int a2]) (xqv D lay cA r) 0 0 (xI lay) := by
  refine Met.ofW (cc := b_RO_setLast) (maxL := 3) (ret := (Option.none : Option Jvm.ClassFile.FieldType)) (by decide +kernel) rfl ?_
  intro p e s m args below meth c s₁ B hml hv
  obtain ⟨rfl, hP, E⟩ := hv
  have C := xB_of B hml
  have hl := lv_entry ([.ref (lay a0), .int a1, .int a2]) (n := 3) (Nat.le_of_ble_eq_true rfl)
  rw [lg_entry_eq]
  generalize (lg_sl ([.ref (lay a0), .int a1, .int a2]) ++ List.replicate (3 - (lg_sl ([.ref (lay a0), .int a1, .int a2])).length) Slot.unset).toArray = ls at hl ⊢
  exact k_RO_setLast l C E S a0 a1 a2 r h s.heap [] ls hP va_S.rf hl
/-! ConfigTexts$Rows.find(J)I -/
def rm_RO_find : Room := { frames := 0, cells := 0, slots := 0, locals := 0 }
theorem d_RO_find_0 : decode b_RO_find 0 = .ok (.iconst 0, 1) := by decide +kernel
theorem d_RO_find_1 : decode b_RO_find 1 = .ok (.istore_n 3, 1) := by decide +kernel
theorem d_RO_find_2 : decode b_RO_find 2 = .ok (.iload_n 3, 1) := by decide +kernel
theorem d_RO_find_3 : decode b_RO_find 3 = .ok (.aload_n 0, 1) := by decide +kernel
theorem d_RO_find_4 : decode b_RO_find 4 = .ok (.getfield 26, 3) := by decide +kernel
theorem d_RO_find_7 : decode b_RO_find 7 = .ok (.if_icmp .ge 22, 3) := by decide +kernel
theorem d_RO_find_10 : decode b_RO_find 10 = .ok (.aload_n 0, 1) := by decide +kernel
theorem d_RO_find_11 : decode b_RO_find 11 = .ok (.getfield 18, 3) := by decide +kernel
theorem d_RO_find_14 : decode b_RO_find 14 = .ok (.iload_n 3, 1) := by decide +kernel
theorem d_RO_find_15 : decode b_RO_find 15 = .ok (.laload, 1) := by decide +kernel
theorem d_RO_find_16 : decode b_RO_find 16 = .ok (.lload_n 1, 1) := by decide +kernel
theorem d_RO_find_17 : decode b_RO_find 17 = .ok (.lcmp, 1) := by decide +kernel
theorem d_RO_find_18 : decode b_RO_find 18 = .ok (.ifCond .ne 5, 3) := by decide +kernel
theorem d_RO_find_21 : decode b_RO_find 21 = .ok (.iload_n 3, 1) := by decide +kernel
theorem d_RO_find_22 : decode b_RO_find 22 = .ok (.ireturn, 1) := by decide +kernel
theorem d_RO_find_23 : decode b_RO_find 23 = .ok (.iinc 3 1, 3) := by decide +kernel
theorem d_RO_find_26 : decode b_RO_find 26 = .ok (.goto (-24), 3) := by decide +kernel
theorem d_RO_find_29 : decode b_RO_find 29 = .ok (.iconst (-1), 1) := by decide +kernel
theorem d_RO_find_30 : decode b_RO_find 30 = .ok (.ireturn, 1) := by decide +kernel
def f_RO_find_2 : Nat → XS → Nat → Int64 → Int32 → Option (Int32)
  | 0, _, _, _, _ => none
  | n + 1, S, a0, a1, a3 =>
    if xR a0 then (if (xgi S a0 4) ≤ a3 then (some (-1 : Int32)) else (if ¬ (a3 < 0 ∨ xMost a0 ≤ a3.toNatClampNeg) then (if (lg_cmp (xgl S (a0 + 1) a3.toNatClampNeg) a1) = 0 then (some a3) else (f_RO_find_2 n S a0 a1 (a3 + (1 : Int32)))) else none)) else none
set_option maxHeartbeats 4000000 in
set_option maxRecDepth 100000 in
theorem k_RO_find_2 (l : Launch) {p : Program} {e : Env} {s : State} {m : MethodId} {args : Array Value} {below : List Frame} {meth : Method} {c : Code} {D : va_G} {lay : Nat → Nat} {cA : Nat → ClassId} {adK adV : Nat → Nat} {s0 : State} (C : xB p s m args meth c R_RO b_RO_find ((Option.some Jvm.ClassFile.FieldType.int)) 4) (E : xE D lay cA adK adV s0 s s.heap) : ∀ (n : Nat) (S : XS) (a0 : Nat) (a1 : Int64) (a3 : Int32) (r : Int32) (_ : f_RO_find_2 n S a0 a1 a3 = some r) (H : Heap) (locs : List Loc) (ls : Array Slot), va_P D xcl (xw lay cA S) H → va_S (xI lay) s.heap H locs → lv_has ls 4 [(0, .ref (lay a0)), (1, .long a1), (3, .int a3)] → W p l e rm_RO_find s m args below meth c H locs 0 0 (MQ below (xqi D lay cA r S) args s 0 0 (xI lay)) (F0 m 2 ls []) := by
  obtain ⟨hx, hb, hr, hml, hown, hts, hlk, hnh⟩ := id C
  have hK := E.K
  intro n
  induction n with
  | zero => intro S a0 a1 a3 r h; rw [f_RO_find_2] at h; cases h
  | succ n ih =>
    intro S a0 a1 a3 r h H locs ls hP hS hl
    rw [f_RO_find_2] at h
    refine lv_iload_n hx hb d_RO_find_2 rfl (lv_at hl 2 rfl) ?_
    refine lv_aload_n hx hb d_RO_find_3 rfl (lv_at hl 0 rfl) ?_
    obtain ⟨hk1, h⟩ := xg h
    refine va_get (v := .int (xgi S a0 4)) (C := R_RO) (T := F_RO) (N := 5) hx hb hts i_RO hown hK hP a0 (xw_at (xR_lt hk1).1 (xc_RO _ _ _ _ hk1)) rfl 4 (by decide) (hts _ wd_92) (fun _ h9 => h9) rfl d_RO_find_4 ?_
    refine lv_icmp_ge (tgt := 29) hx hb d_RO_find_7 (by decide) (fun c_4 => ?_) (fun c_4 => ?_)
    · have h := xif_t c_4 h
      refine lv_iconst (v := (-1 : Int32)) hx hb d_RO_find_29 (by decide) ?_
      have h9 := Option.some.inj h
      subst h9
      exact W.iret (v := (-1 : Int32)) hx hb hr (fun t ht hW => ⟨⟨(-1 : Int32), (), rfl, rfl, by show va_P D xcl _ t.heap; rw [ht]; exact hP⟩, hS.F ht⟩) hS.2.2 d_RO_find_30
    · have h := xif_f c_4 h
      refine lv_aload_n hx hb d_RO_find_10 rfl (lv_at hl 0 rfl) ?_
      refine va_get (v := .ref (lay (a0 + 1))) (C := R_RO) (T := F_RO) (N := 5) hx hb hts i_RO hown hK hP a0 (xw_at (xR_lt hk1).1 (xc_RO _ _ _ _ hk1)) rfl 2 (by decide) (hts _ wd_90) (fun _ h9 => h9) rfl d_RO_find_11 ?_
      refine lv_iload_n hx hb d_RO_find_14 rfl (lv_at hl 2 rfl) ?_
      obtain ⟨hg2, h⟩ := xg h
      refine xal_RON hx hb E hP hk1 hg2 d_RO_find_15 ?_
      refine lv_lload_n hx hb d_RO_find_16 rfl (lv_at hl 1 rfl) ?_
      refine W.lcmp hx hb d_RO_find_17 ?_
      refine lv_if_ne (tgt := 23) hx hb d_RO_find_18 (by decide) (fun c_3 => ?_) (fun c_3 => ?_)
      · have h := xif_f c_3 h
        refine lv_iinc (v := a3 + (1 : Int32)) (lv' := [(3, .int (a3 + (1 : Int32))), (0, .ref (lay a0)), (1, .long a1)]) hx hb d_RO_find_23 hl (k := 2) rfl (by rfl) (by decide) rfl (fun ls hl => ?_)
        refine lv_goto (tgt := 2) hx hb d_RO_find_26 (by decide) ?_
        exact ih S a0 a1 (a3 + (1 : Int32)) _ h H locs ls hP hS (lv_sub hl [1, 2, 0] rfl)
      · have h := xif_t c_3 h
        refine lv_iload_n hx hb d_RO_find_21 rfl (lv_at hl 2 rfl) ?_
        have h9 := Option.some.inj h
        subst h9
        exact W.iret (v := a3) hx hb hr (fun t ht hW => ⟨⟨a3, (), rfl, rfl, by show va_P D xcl _ t.heap; rw [ht]; exact hP⟩, hS.F ht⟩) hS.2.2 d_RO_find_22
def f_RO_find (S : XS) (a0 : Nat) (a1 : Int64) : Option (Int32) :=
  f_RO_find_2 4096 S a0 a1 (0 : Int32)
set_option maxHeartbeats 4000000 in
set_option maxRecDepth 100000 in
theorem k_RO_find (l : Launch) {p : Program} {e : Env} {s : State} {m : MethodId} {args : Array Value} {below : List Frame} {meth : Method} {c : Code} {D : va_G} {lay : Nat → Nat} {cA : Nat → ClassId} {adK adV : Nat → Nat} {s0 : State} (C : xB p s m args meth c R_RO b_RO_find ((Option.some Jvm.ClassFile.FieldType.int)) 4) (E : xE D lay cA adK adV s0 s s.heap) : ∀ (S : XS) (a0 : Nat) (a1 : Int64) (r : Int32) (_ : f_RO_find S a0 a1 = some r) (H : Heap) (locs : List Loc) (ls : Array Slot), va_P D xcl (xw lay cA S) H → va_S (xI lay) s.heap H locs → lv_has ls 4 [(0, .ref (lay a0)), (1, .long a1)] → W p l e rm_RO_find s m args below meth c H locs 0 0 (MQ below (xqi D lay cA r S) args s 0 0 (xI lay)) (F0 m 0 ls []) := by
  obtain ⟨hx, hb, hr, hml, hown, hts, hlk, hnh⟩ := id C
  have hK := E.K
  intro S a0 a1 r h H locs ls hP hS hl
  unfold f_RO_find at h
  refine lv_iconst (v := (0 : Int32)) hx hb d_RO_find_0 (by decide) ?_
  refine lv_istore_n (lv' := [(3, .int (0 : Int32)), (0, .ref (lay a0)), (1, .long a1)]) hx hb d_RO_find_1 rfl hl (by decide) rfl (fun ls hl => ?_)
  exact k_RO_find_2 l C E 4096 S a0 a1 (0 : Int32) _ h H locs ls hP hS (lv_sub hl [1, 2, 0] rfl)
theorem c_RO_find (l : Launch) (D : va_G) (lay : Nat → Nat) (cA : Nat → ClassId) (adK adV : Nat → Nat) (s0 : State) (S : XS) (a0 : Nat) (a1 : Int64) (r : Int32) (h : f_RO_find S a0 a1 = some r) : Met l y_RO_find (.code y_RO_find b_RO_find 4 ((Option.some Jvm.ClassFile.FieldType.int)) :: xT) rm_RO_find (xPc D lay cA adK adV s0 S [.ref (lay a0), .long a1]) (xqi D lay cA r S) 0 0 (xI lay) := by
  refine Met.ofW (cc := b_RO_find) (maxL := 4) (ret := (Option.some Jvm.ClassFile.FieldType.int)) (by decide +kernel) rfl ?_
  intro p e s m args below meth c s₁ B hml hv
  obtain ⟨rfl, hP, E⟩ := hv
  have C := xB_of B hml
  have hl := lv_entry ([.ref (lay a0), .long a1]) (n := 4) (Nat.le_of_ble_eq_true rfl)
  rw [lg_entry_eq]
  generalize (lg_sl ([.ref (lay a0), .long a1]) ++ List.replicate (4 - (lg_sl ([.ref (lay a0), .long a1])).length) Slot.unset).toArray = ls at hl ⊢
  exact k_RO_find l C E S a0 a1 r h s.heap [] ls hP va_S.rf hl
/-! ConfigTexts$Partition.begin(J)V -/
def rm_PA_begin : Room := { frames := 1, cells := 0, slots := 0, locals := 20 }
theorem d_PA_begin_0 : decode b_PA_begin 0 = .ok (.aload_n 0, 1) := by decide +kernel
theorem d_PA_begin_1 : decode b_PA_begin 1 = .ok (.lload_n 1, 1) := by decide +kernel
theorem d_PA_begin_2 : decode b_PA_begin 2 = .ok (.putfield 30, 3) := by decide +kernel
theorem d_PA_begin_5 : decode b_PA_begin 5 = .ok (.aload_n 0, 1) := by decide +kernel
theorem d_PA_begin_6 : decode b_PA_begin 6 = .ok (.iconst 0, 1) := by decide +kernel
theorem d_PA_begin_7 : decode b_PA_begin 7 = .ok (.putfield 34, 3) := by decide +kernel
theorem d_PA_begin_10 : decode b_PA_begin 10 = .ok (.aload_n 0, 1) := by decide +kernel
theorem d_PA_begin_11 : decode b_PA_begin 11 = .ok (.iconst (-1), 1) := by decide +kernel
theorem d_PA_begin_12 : decode b_PA_begin 12 = .ok (.putfield 38, 3) := by decide +kernel
theorem d_PA_begin_15 : decode b_PA_begin 15 = .ok (.iconst 0, 1) := by decide +kernel
theorem d_PA_begin_16 : decode b_PA_begin 16 = .ok (.istore_n 3, 1) := by decide +kernel
theorem d_PA_begin_17 : decode b_PA_begin 17 = .ok (.iload_n 3, 1) := by decide +kernel
theorem d_PA_begin_18 : decode b_PA_begin 18 = .ok (.iconst 4, 1) := by decide +kernel
theorem d_PA_begin_19 : decode b_PA_begin 19 = .ok (.if_icmp .ge 16, 3) := by decide +kernel
theorem d_PA_begin_22 : decode b_PA_begin 22 = .ok (.aload_n 0, 1) := by decide +kernel
theorem d_PA_begin_23 : decode b_PA_begin 23 = .ok (.getfield 9, 3) := by decide +kernel
theorem d_PA_begin_26 : decode b_PA_begin 26 = .ok (.iload_n 3, 1) := by decide +kernel
theorem d_PA_begin_27 : decode b_PA_begin 27 = .ok (.iconst 0, 1) := by decide +kernel
theorem d_PA_begin_28 : decode b_PA_begin 28 = .ok (.iastore, 1) := by decide +kernel
theorem d_PA_begin_29 : decode b_PA_begin 29 = .ok (.iinc 3 1, 3) := by decide +kernel
theorem d_PA_begin_32 : decode b_PA_begin 32 = .ok (.goto (-15), 3) := by decide +kernel
theorem d_PA_begin_35 : decode b_PA_begin 35 = .ok (.iconst 0, 1) := by decide +kernel
theorem d_PA_begin_36 : decode b_PA_begin 36 = .ok (.istore_n 3, 1) := by decide +kernel
theorem d_PA_begin_37 : decode b_PA_begin 37 = .ok (.iload_n 3, 1) := by decide +kernel
theorem d_PA_begin_38 : decode b_PA_begin 38 = .ok (.bipush 6, 2) := by decide +kernel
theorem d_PA_begin_40 : decode b_PA_begin 40 = .ok (.if_icmp .ge 18, 3) := by decide +kernel
theorem d_PA_begin_43 : decode b_PA_begin 43 = .ok (.aload_n 0, 1) := by decide +kernel
theorem d_PA_begin_44 : decode b_PA_begin 44 = .ok (.getfield 17, 3) := by decide +kernel
theorem d_PA_begin_47 : decode b_PA_begin 47 = .ok (.iload_n 3, 1) := by decide +kernel
theorem d_PA_begin_48 : decode b_PA_begin 48 = .ok (.aaload, 1) := by decide +kernel
theorem d_PA_begin_49 : decode b_PA_begin 49 = .ok (.invokevirtual 41, 3) := by decide +kernel
theorem d_PA_begin_52 : decode b_PA_begin 52 = .ok (.iinc 3 1, 3) := by decide +kernel
theorem d_PA_begin_55 : decode b_PA_begin 55 = .ok (.goto (-18), 3) := by decide +kernel
theorem d_PA_begin_58 : decode b_PA_begin 58 = .ok (.return_, 1) := by decide +kernel
def f_PA_begin_37 : Nat → XS → Nat → Int32 → Option (XS)
  | 0, _, _, _ => none
  | n + 1, S, a0, a3 =>
    if (6 : Int32) ≤ a3 then (some S) else (if xP a0 then (if ¬ (a3 < 0 ∨ 6 ≤ a3.toNatClampNeg) then (if xR (a0 + 2 + 1 + 3 * a3.toNatClampNeg) then ((f_RO_clear S (a0 + 2 + 1 + 3 * a3.toNatClampNeg)).bind fun q9 => f_PA_begin_37 n q9 a0 (a3 + (1 : Int32))) else none) else none) else none)
set_option maxHeartbeats 4000000 in
set_option maxRecDepth 100000 in
theorem k_PA_begin_37 (l : Launch) {p : Program} {e : Env} {s : State} {m : MethodId} {args : Array Value} {below : List Frame} {meth : Method} {c : Code} {D : va_G} {lay : Nat → Nat} {cA : Nat → ClassId} {adK adV : Nat → Nat} {s0 : State} (C : xB p s m args meth c R_PA b_PA_begin ((Option.none : Option Jvm.ClassFile.FieldType)) 4) (E : xE D lay cA adK adV s0 s s.heap) : ∀ (n : Nat) (S : XS) (a0 : Nat) (a3 : Int32) (r : XS) (_ : f_PA_begin_37 n S a0 a3 = some r) (H : Heap) (locs : List Loc) (ls : Array Slot), va_P D xcl (xw lay cA S) H → va_S (xI lay) s.heap H locs → lv_has ls 4 [(0, .ref (lay a0)), (3, .int a3)] → W p l e rm_PA_begin s m args below meth c H locs 0 0 (MQ below (xqv D lay cA r) args s 0 0 (xI lay)) (F0 m 37 ls []) := by
  obtain ⟨hx, hb, hr, hml, hown, hts, hlk, hnh⟩ := id C
  have hK := E.K
  intro n
  induction n with
  | zero => intro S a0 a3 r h; rw [f_PA_begin_37] at h; cases h
  | succ n ih =>
    intro S a0 a3 r h H locs ls hP hS hl
    rw [f_PA_begin_37] at h
    refine lv_iload_n hx hb d_PA_begin_37 rfl (lv_at hl 1 rfl) ?_
    refine lv_bipush (v := (6 : Int32)) hx hb d_PA_begin_38 (by decide) ?_
    refine lv_icmp_ge (tgt := 58) hx hb d_PA_begin_40 (by decide) (fun c_10 => ?_) (fun c_10 => ?_)
    · have h := xif_t c_10 h
      have h9 := Option.some.inj h
      subst h9
      exact W.vret hx hb hr (fun t ht hW => ⟨⟨(), rfl, trivial, by show va_P D xcl _ t.heap; rw [ht]; exact hP⟩, hS.F ht⟩) hS.2.2 d_PA_begin_58
    · have h := xif_f c_10 h
      refine lv_aload_n hx hb d_PA_begin_43 rfl (lv_at hl 0 rfl) ?_
      obtain ⟨hk5, h⟩ := xg h
      refine va_get (v := .ref (lay (a0 + 2))) (C := R_PA) (T := F_PA) (N := 5) hx hb hts i_PA hown hK hP a0 (xw_at (xP_lt hk5).1 (xc_PA _ _ _ _ hk5)) rfl 4 (by decide) (hts _ wd_116) (fun _ h9 => h9) rfl d_PA_begin_44 ?_
      refine lv_iload_n hx hb d_PA_begin_47 rfl (lv_at hl 1 rfl) ?_
      obtain ⟨hg6, h⟩ := xg h
      refine xal_PAT hx hb E hP hk5 hg6 d_PA_begin_48 ?_
      obtain ⟨hk7, h⟩ := xg h
      obtain ⟨q9, e8, h⟩ := xb h
      refine xc_v (va_runV (As := []) (rest := []) ⟨hx, hb, hml, hown, hts⟩ (c_RO_clear l D lay cA adK adV s0 S (a0 + 2 + 1 + 3 * a3.toNatClampNeg) q9 e8) (cwV 0 hts (xT_V wd_521 wd_274 wd_275 wd_5 wd_276) rfl rfl rfl (by decide +kernel) ⟨Nat.le_of_ble_eq_true rfl, Nat.le_of_ble_eq_true rfl⟩) (xpV E hP hS (xR_lt hk7).1 (xc_RO _ _ _ _ hk7) rfl) rfl rfl hl.1 rfl (lv_room (Nat.le_of_ble_eq_true rfl)) d_PA_begin_49 ⟨Nat.le_of_ble_eq_true rfl, Nat.le_of_ble_eq_true rfl⟩) hS (fun H locs hP hS => ?_)
      refine lv_iinc (v := a3 + (1 : Int32)) (lv' := [(3, .int (a3 + (1 : Int32))), (0, .ref (lay a0))]) hx hb d_PA_begin_52 hl (k := 1) rfl (by rfl) (by decide) rfl (fun ls hl => ?_)
      refine lv_goto (tgt := 37) hx hb d_PA_begin_55 (by decide) ?_
      exact ih q9 a0 (a3 + (1 : Int32)) _ h H locs ls hP hS (lv_sub hl [1, 0] rfl)
def f_PA_begin_17 : Nat → XS → Nat → Int32 → Option (XS)
  | 0, _, _, _ => none
  | n + 1, S, a0, a3 =>
    if (4 : Int32) ≤ a3 then (f_PA_begin_37 4096 S a0 (0 : Int32)) else (if xP a0 then (if ¬ (a3 < 0 ∨ 4 ≤ a3.toNatClampNeg) then (f_PA_begin_17 n (xpi S (a0 + 1) a3.toNatClampNeg (0 : Int32)) a0 (a3 + (1 : Int32))) else none) else none)
set_option maxHeartbeats 4000000 in
set_option maxRecDepth 100000 in
theorem k_PA_begin_17 (l : Launch) {p : Program} {e : Env} {s : State} {m : MethodId} {args : Array Value} {below : List Frame} {meth : Method} {c : Code} {D : va_G} {lay : Nat → Nat} {cA : Nat → ClassId} {adK adV : Nat → Nat} {s0 : State} (C : xB p s m args meth c R_PA b_PA_begin ((Option.none : Option Jvm.ClassFile.FieldType)) 4) (E : xE D lay cA adK adV s0 s s.heap) : ∀ (n : Nat) (S : XS) (a0 : Nat) (a3 : Int32) (r : XS) (_ : f_PA_begin_17 n S a0 a3 = some r) (H : Heap) (locs : List Loc) (ls : Array Slot), va_P D xcl (xw lay cA S) H → va_S (xI lay) s.heap H locs → lv_has ls 4 [(0, .ref (lay a0)), (3, .int a3)] → W p l e rm_PA_begin s m args below meth c H locs 0 0 (MQ below (xqv D lay cA r) args s 0 0 (xI lay)) (F0 m 17 ls []) := by
  obtain ⟨hx, hb, hr, hml, hown, hts, hlk, hnh⟩ := id C
  have hK := E.K
  intro n
  induction n with
  | zero => intro S a0 a3 r h; rw [f_PA_begin_17] at h; cases h
  | succ n ih =>
    intro S a0 a3 r h H locs ls hP hS hl
    rw [f_PA_begin_17] at h
    refine lv_iload_n hx hb d_PA_begin_17 rfl (lv_at hl 1 rfl) ?_
    refine lv_iconst (v := (4 : Int32)) hx hb d_PA_begin_18 (by decide) ?_
    refine lv_icmp_ge (tgt := 35) hx hb d_PA_begin_19 (by decide) (fun c_4 => ?_) (fun c_4 => ?_)
    · have h := xif_t c_4 h
      refine lv_iconst (v := (0 : Int32)) hx hb d_PA_begin_35 (by decide) ?_
      refine lv_istore_n (lv' := [(3, .int (0 : Int32)), (0, .ref (lay a0))]) hx hb d_PA_begin_36 rfl hl (by decide) rfl (fun ls hl => ?_)
      exact k_PA_begin_37 l C E 4096 S a0 (0 : Int32) _ h H locs ls hP hS (lv_sub hl [1, 0] rfl)
    · have h := xif_f c_4 h
      refine lv_aload_n hx hb d_PA_begin_22 rfl (lv_at hl 0 rfl) ?_
      obtain ⟨hk2, h⟩ := xg h
      refine va_get (v := .ref (lay (a0 + 1))) (C := R_PA) (T := F_PA) (N := 5) hx hb hts i_PA hown hK hP a0 (xw_at (xP_lt hk2).1 (xc_PA _ _ _ _ hk2)) rfl 3 (by decide) (hts _ wd_115) (fun _ h9 => h9) rfl d_PA_begin_23 ?_
      refine lv_iload_n hx hb d_PA_begin_26 rfl (lv_at hl 1 rfl) ?_
      refine lv_iconst (v := (0 : Int32)) hx hb d_PA_begin_27 (by decide) ?_
      obtain ⟨hg3, h⟩ := xg h
      refine xas_PAA hx hb E hP hS hk2 hg3 d_PA_begin_28 (fun H locs hP hS => ?_)
      refine lv_iinc (v := a3 + (1 : Int32)) (lv' := [(3, .int (a3 + (1 : Int32))), (0, .ref (lay a0))]) hx hb d_PA_begin_29 hl (k := 1) rfl (by rfl) (by decide) rfl (fun ls hl => ?_)
      refine lv_goto (tgt := 17) hx hb d_PA_begin_32 (by decide) ?_
      exact ih (xpi S (a0 + 1) a3.toNatClampNeg (0 : Int32)) a0 (a3 + (1 : Int32)) _ h H locs ls hP hS (lv_sub hl [1, 0] rfl)
def f_PA_begin (S : XS) (a0 : Nat) (a1 : Int64) : Option (XS) :=
  if xP a0 then (f_PA_begin_17 4096 (xpi (xpi (xpl S a0 0 a1) a0 1 (0 : Int32)) a0 2 (-1 : Int32)) a0 (0 : Int32)) else none
set_option maxHeartbeats 4000000 in
set_option maxRecDepth 100000 in
theorem k_PA_begin (l : Launch) {p : Program} {e : Env} {s : State} {m : MethodId} {args : Array Value} {below : List Frame} {meth : Method} {c : Code} {D : va_G} {lay : Nat → Nat} {cA : Nat → ClassId} {adK adV : Nat → Nat} {s0 : State} (C : xB p s m args meth c R_PA b_PA_begin ((Option.none : Option Jvm.ClassFile.FieldType)) 4) (E : xE D lay cA adK adV s0 s s.heap) : ∀ (S : XS) (a0 : Nat) (a1 : Int64) (r : XS) (_ : f_PA_begin S a0 a1 = some r) (H : Heap) (locs : List Loc) (ls : Array Slot), va_P D xcl (xw lay cA S) H → va_S (xI lay) s.heap H locs → lv_has ls 4 [(0, .ref (lay a0)), (1, .long a1)] → W p l e rm_PA_begin s m args below meth c H locs 0 0 (MQ below (xqv D lay cA r) args s 0 0 (xI lay)) (F0 m 0 ls []) := by
  obtain ⟨hx, hb, hr, hml, hown, hts, hlk, hnh⟩ := id C
  have hK := E.K
  intro S a0 a1 r h H locs ls hP hS hl
  unfold f_PA_begin at h
  refine lv_aload_n hx hb d_PA_begin_0 rfl (lv_at hl 0 rfl) ?_
  refine lv_lload_n hx hb d_PA_begin_1 rfl (lv_at hl 1 rfl) ?_
  obtain ⟨hk1, h⟩ := xg h
  refine xput_PA_0 hx hb hts hown E hP hS hk1 (hts _ wd_109) d_PA_begin_2 (fun H locs hP hS => ?_)
  refine lv_aload_n hx hb d_PA_begin_5 rfl (lv_at hl 0 rfl) ?_
  refine lv_iconst (v := (0 : Int32)) hx hb d_PA_begin_6 (by decide) ?_
  refine xput_PA_1 hx hb hts hown E hP hS hk1 (hts _ wd_111) d_PA_begin_7 (fun H locs hP hS => ?_)
  refine lv_aload_n hx hb d_PA_begin_10 rfl (lv_at hl 0 rfl) ?_
  refine lv_iconst (v := (-1 : Int32)) hx hb d_PA_begin_11 (by decide) ?_
  refine xput_PA_2 hx hb hts hown E hP hS hk1 (hts _ wd_113) d_PA_begin_12 (fun H locs hP hS => ?_)
  refine lv_iconst (v := (0 : Int32)) hx hb d_PA_begin_15 (by decide) ?_
  refine lv_istore_n (lv' := [(3, .int (0 : Int32)), (0, .ref (lay a0)), (1, .long a1)]) hx hb d_PA_begin_16 rfl hl (by decide) rfl (fun ls hl => ?_)
  exact k_PA_begin_17 l C E 4096 (xpi (xpi (xpl S a0 0 a1) a0 1 (0 : Int32)) a0 2 (-1 : Int32)) a0 (0 : Int32) _ h H locs ls hP hS (lv_sub hl [1, 0] rfl)
theorem c_PA_begin (l : Launch) (D : va_G) (lay : Nat → Nat) (cA : Nat → ClassId) (adK adV : Nat → Nat) (s0 : State) (S : XS) (a0 : Nat) (a1 : Int64) (r : XS) (h : f_PA_begin S a0 a1 = some r) : Met l y_PA_begin (.code y_PA_begin b_PA_begin 4 ((Option.none : Option Jvm.ClassFile.FieldType)) :: xT) rm_PA_begin (xPc D lay cA adK adV s0 S [.ref (lay a0), .long a1]) (xqv D lay cA r) 0 0 (xI lay) := by
  refine Met.ofW (cc := b_PA_begin) (maxL := 4) (ret := (Option.none : Option Jvm.ClassFile.FieldType)) (by decide +kernel) rfl ?_
  intro p e s m args below meth c s₁ B hml hv
  obtain ⟨rfl, hP, E⟩ := hv
  have C := xB_of B hml
  have hl := lv_entry ([.ref (lay a0), .long a1]) (n := 4) (Nat.le_of_ble_eq_true rfl)
  rw [lg_entry_eq]
  generalize (lg_sl ([.ref (lay a0), .long a1]) ++ List.replicate (4 - (lg_sl ([.ref (lay a0), .long a1])).length) Slot.unset).toArray = ls at hl ⊢
  exact k_PA_begin l C E S a0 a1 r h s.heap [] ls hP va_S.rf hl
/-! ConfigTexts$Partition.hasThing(J)Z -/
def rm_PA_hasThing : Room := { frames := 1, cells := 0, slots := 0, locals := 23 }
theorem d_PA_hasThing_0 : decode b_PA_hasThing 0 = .ok (.iconst 0, 1) := by decide +kernel
theorem d_PA_hasThing_1 : decode b_PA_hasThing 1 = .ok (.istore_n 3, 1) := by decide +kernel
theorem d_PA_hasThing_2 : decode b_PA_hasThing 2 = .ok (.iload_n 3, 1) := by decide +kernel
theorem d_PA_hasThing_3 : decode b_PA_hasThing 3 = .ok (.bipush 6, 2) := by decide +kernel
theorem d_PA_hasThing_5 : decode b_PA_hasThing 5 = .ok (.if_icmp .ge 25, 3) := by decide +kernel
theorem d_PA_hasThing_8 : decode b_PA_hasThing 8 = .ok (.aload_n 0, 1) := by decide +kernel
theorem d_PA_hasThing_9 : decode b_PA_hasThing 9 = .ok (.getfield 17, 3) := by decide +kernel
theorem d_PA_hasThing_12 : decode b_PA_hasThing 12 = .ok (.iload_n 3, 1) := by decide +kernel
theorem d_PA_hasThing_13 : decode b_PA_hasThing 13 = .ok (.aaload, 1) := by decide +kernel
theorem d_PA_hasThing_14 : decode b_PA_hasThing 14 = .ok (.lload_n 1, 1) := by decide +kernel
theorem d_PA_hasThing_15 : decode b_PA_hasThing 15 = .ok (.invokevirtual 44, 3) := by decide +kernel
theorem d_PA_hasThing_18 : decode b_PA_hasThing 18 = .ok (.iconst (-1), 1) := by decide +kernel
theorem d_PA_hasThing_19 : decode b_PA_hasThing 19 = .ok (.if_icmp .eq 5, 3) := by decide +kernel
theorem d_PA_hasThing_22 : decode b_PA_hasThing 22 = .ok (.iconst 1, 1) := by decide +kernel
theorem d_PA_hasThing_23 : decode b_PA_hasThing 23 = .ok (.ireturn, 1) := by decide +kernel
theorem d_PA_hasThing_24 : decode b_PA_hasThing 24 = .ok (.iinc 3 1, 3) := by decide +kernel
theorem d_PA_hasThing_27 : decode b_PA_hasThing 27 = .ok (.goto (-25), 3) := by decide +kernel
theorem d_PA_hasThing_30 : decode b_PA_hasThing 30 = .ok (.iconst 0, 1) := by decide +kernel
theorem d_PA_hasThing_31 : decode b_PA_hasThing 31 = .ok (.ireturn, 1) := by decide +kernel
def f_PA_hasThing_2 : Nat → XS → Nat → Int64 → Int32 → Option (Int32)
  | 0, _, _, _, _ => none
  | n + 1, S, a0, a1, a3 =>
    if (6 : Int32) ≤ a3 then (some (0 : Int32)) else (if xP a0 then (if ¬ (a3 < 0 ∨ 6 ≤ a3.toNatClampNeg) then (if xR (a0 + 2 + 1 + 3 * a3.toNatClampNeg) then ((f_RO_find S (a0 + 2 + 1 + 3 * a3.toNatClampNeg) a1).bind fun q5 => if q5 = (-1 : Int32) then (f_PA_hasThing_2 n S a0 a1 (a3 + (1 : Int32))) else (some (1 : Int32))) else none) else none) else none)
set_option maxHeartbeats 4000000 in
set_option maxRecDepth 100000 in
theorem k_PA_hasThing_2 (l : Launch) {p : Program} {e : Env} {s : State} {m : MethodId} {args : Array Value} {below : List Frame} {meth : Method} {c : Code} {D : va_G} {lay : Nat → Nat} {cA : Nat → ClassId} {adK adV : Nat → Nat} {s0 : State} (C : xB p s m args meth c R_PA b_PA_hasThing ((Option.some Jvm.ClassFile.FieldType.boolean)) 4) (E : xE D lay cA adK adV s0 s s.heap) : ∀ (n : Nat) (S : XS) (a0 : Nat) (a1 : Int64) (a3 : Int32) (r : Int32) (_ : f_PA_hasThing_2 n S a0 a1 a3 = some r) (H : Heap) (locs : List Loc) (ls : Array Slot), va_P D xcl (xw lay cA S) H → va_S (xI lay) s.heap H locs → lv_has ls 4 [(0, .ref (lay a0)), (1, .long a1), (3, .int a3)] → W p l e rm_PA_hasThing s m args below meth c H locs 0 0 (MQ below (xqi D lay cA r S) args s 0 0 (xI lay)) (F0 m 2 ls []) := by
  obtain ⟨hx, hb, hr, hml, hown, hts, hlk, hnh⟩ := id C
  have hK := E.K
  intro n
  induction n with
  | zero => intro S a0 a1 a3 r h; rw [f_PA_hasThing_2] at h; cases h
  | succ n ih =>
    intro S a0 a1 a3 r h H locs ls hP hS hl
    rw [f_PA_hasThing_2] at h
    refine lv_iload_n hx hb d_PA_hasThing_2 rfl (lv_at hl 2 rfl) ?_
    refine lv_bipush (v := (6 : Int32)) hx hb d_PA_hasThing_3 (by decide) ?_
    refine lv_icmp_ge (tgt := 30) hx hb d_PA_hasThing_5 (by decide) (fun c_7 => ?_) (fun c_7 => ?_)
    · have h := xif_t c_7 h
      refine lv_iconst (v := (0 : Int32)) hx hb d_PA_hasThing_30 (by decide) ?_
      have h9 := Option.some.inj h
      subst h9
      exact W.zret (v := (0 : Int32)) hx hb hr (by decide) (fun t ht hW => ⟨⟨(0 : Int32), (), rfl, rfl, by show va_P D xcl _ t.heap; rw [ht]; exact hP⟩, hS.F ht⟩) hS.2.2 d_PA_hasThing_31
    · have h := xif_f c_7 h
      refine lv_aload_n hx hb d_PA_hasThing_8 rfl (lv_at hl 0 rfl) ?_
      obtain ⟨hk1, h⟩ := xg h
      refine va_get (v := .ref (lay (a0 + 2))) (C := R_PA) (T := F_PA) (N := 5) hx hb hts i_PA hown hK hP a0 (xw_at (xP_lt hk1).1 (xc_PA _ _ _ _ hk1)) rfl 4 (by decide) (hts _ wd_116) (fun _ h9 => h9) rfl d_PA_hasThing_9 ?_
      refine lv_iload_n hx hb d_PA_hasThing_12 rfl (lv_at hl 2 rfl) ?_
      obtain ⟨hg2, h⟩ := xg h
      refine xal_PAT hx hb E hP hk1 hg2 d_PA_hasThing_13 ?_
      refine lv_lload_n hx hb d_PA_hasThing_14 rfl (lv_at hl 1 rfl) ?_
      obtain ⟨hk3, h⟩ := xg h
      obtain ⟨q5, e4, h⟩ := xb h
      refine xc_i (va_runV (As := [.long a1]) (rest := []) ⟨hx, hb, hml, hown, hts⟩ (c_RO_find l D lay cA adK adV s0 S (a0 + 2 + 1 + 3 * a3.toNatClampNeg) a1 q5 e4) (cwV 1 hts (xT_V wd_555 wd_556 wd_557 wd_5 wd_558) rfl rfl rfl (by decide +kernel) ⟨Nat.le_of_ble_eq_true rfl, Nat.le_of_ble_eq_true rfl⟩) (xpV E hP hS (xR_lt hk3).1 (xc_RO _ _ _ _ hk3) rfl) rfl rfl hl.1 rfl (lv_room (Nat.le_of_ble_eq_true rfl)) d_PA_hasThing_15 ⟨Nat.le_of_ble_eq_true rfl, Nat.le_of_ble_eq_true rfl⟩) hS (fun H locs hP hS => ?_)
      refine lv_iconst (v := (-1 : Int32)) hx hb d_PA_hasThing_18 (by decide) ?_
      refine lv_icmp_eq (tgt := 24) hx hb d_PA_hasThing_19 (by decide) (fun c_6 => ?_) (fun c_6 => ?_)
      · have h := xif_t c_6 h
        refine lv_iinc (v := a3 + (1 : Int32)) (lv' := [(3, .int (a3 + (1 : Int32))), (0, .ref (lay a0)), (1, .long a1)]) hx hb d_PA_hasThing_24 hl (k := 2) rfl (by rfl) (by decide) rfl (fun ls hl => ?_)
        refine lv_goto (tgt := 2) hx hb d_PA_hasThing_27 (by decide) ?_
        exact ih S a0 a1 (a3 + (1 : Int32)) _ h H locs ls hP hS (lv_sub hl [1, 2, 0] rfl)
      · have h := xif_f c_6 h
        refine lv_iconst (v := (1 : Int32)) hx hb d_PA_hasThing_22 (by decide) ?_
        have h9 := Option.some.inj h
        subst h9
        exact W.zret (v := (1 : Int32)) hx hb hr (by decide) (fun t ht hW => ⟨⟨(1 : Int32), (), rfl, rfl, by show va_P D xcl _ t.heap; rw [ht]; exact hP⟩, hS.F ht⟩) hS.2.2 d_PA_hasThing_23
def f_PA_hasThing (S : XS) (a0 : Nat) (a1 : Int64) : Option (Int32) :=
  f_PA_hasThing_2 4096 S a0 a1 (0 : Int32)
set_option maxHeartbeats 4000000 in
set_option maxRecDepth 100000 in
theorem k_PA_hasThing (l : Launch) {p : Program} {e : Env} {s : State} {m : MethodId} {args : Array Value} {below : List Frame} {meth : Method} {c : Code} {D : va_G} {lay : Nat → Nat} {cA : Nat → ClassId} {adK adV : Nat → Nat} {s0 : State} (C : xB p s m args meth c R_PA b_PA_hasThing ((Option.some Jvm.ClassFile.FieldType.boolean)) 4) (E : xE D lay cA adK adV s0 s s.heap) : ∀ (S : XS) (a0 : Nat) (a1 : Int64) (r : Int32) (_ : f_PA_hasThing S a0 a1 = some r) (H : Heap) (locs : List Loc) (ls : Array Slot), va_P D xcl (xw lay cA S) H → va_S (xI lay) s.heap H locs → lv_has ls 4 [(0, .ref (lay a0)), (1, .long a1)] → W p l e rm_PA_hasThing s m args below meth c H locs 0 0 (MQ below (xqi D lay cA r S) args s 0 0 (xI lay)) (F0 m 0 ls []) := by
  obtain ⟨hx, hb, hr, hml, hown, hts, hlk, hnh⟩ := id C
  have hK := E.K
  intro S a0 a1 r h H locs ls hP hS hl
  unfold f_PA_hasThing at h
  refine lv_iconst (v := (0 : Int32)) hx hb d_PA_hasThing_0 (by decide) ?_
  refine lv_istore_n (lv' := [(3, .int (0 : Int32)), (0, .ref (lay a0)), (1, .long a1)]) hx hb d_PA_hasThing_1 rfl hl (by decide) rfl (fun ls hl => ?_)
  exact k_PA_hasThing_2 l C E 4096 S a0 a1 (0 : Int32) _ h H locs ls hP hS (lv_sub hl [1, 2, 0] rfl)
theorem c_PA_hasThing (l : Launch) (D : va_G) (lay : Nat → Nat) (cA : Nat → ClassId) (adK adV : Nat → Nat) (s0 : State) (S : XS) (a0 : Nat) (a1 : Int64) (r : Int32) (h : f_PA_hasThing S a0 a1 = some r) : Met l y_PA_hasThing (.code y_PA_hasThing b_PA_hasThing 4 ((Option.some Jvm.ClassFile.FieldType.boolean)) :: xT) rm_PA_hasThing (xPc D lay cA adK adV s0 S [.ref (lay a0), .long a1]) (xqi D lay cA r S) 0 0 (xI lay) := by
  refine Met.ofW (cc := b_PA_hasThing) (maxL := 4) (ret := (Option.some Jvm.ClassFile.FieldType.boolean)) (by decide +kernel) rfl ?_
  intro p e s m args below meth c s₁ B hml hv
  obtain ⟨rfl, hP, E⟩ := hv
  have C := xB_of B hml
  have hl := lv_entry ([.ref (lay a0), .long a1]) (n := 4) (Nat.le_of_ble_eq_true rfl)
  rw [lg_entry_eq]
  generalize (lg_sl ([.ref (lay a0), .long a1]) ++ List.replicate (4 - (lg_sl ([.ref (lay a0), .long a1])).length) Slot.unset).toArray = ls at hl ⊢
  exact k_PA_hasThing l C E S a0 a1 r h s.heap [] ls hP va_S.rf hl
/-! ConfigTexts$Partition.setAction(II)V -/
def rm_PA_setAction : Room := { frames := 0, cells := 0, slots := 0, locals := 0 }
theorem d_PA_setAction_0 : decode b_PA_setAction 0 = .ok (.iload_n 1, 1) := by decide +kernel
theorem d_PA_setAction_1 : decode b_PA_setAction 1 = .ok (.ifCond .lt 15, 3) := by decide +kernel
theorem d_PA_setAction_4 : decode b_PA_setAction 4 = .ok (.iload_n 1, 1) := by decide +kernel
theorem d_PA_setAction_5 : decode b_PA_setAction 5 = .ok (.iconst 4, 1) := by decide +kernel
theorem d_PA_setAction_6 : decode b_PA_setAction 6 = .ok (.if_icmp .ge 10, 3) := by decide +kernel
theorem d_PA_setAction_9 : decode b_PA_setAction 9 = .ok (.aload_n 0, 1) := by decide +kernel
theorem d_PA_setAction_10 : decode b_PA_setAction 10 = .ok (.getfield 9, 3) := by decide +kernel
theorem d_PA_setAction_13 : decode b_PA_setAction 13 = .ok (.iload_n 1, 1) := by decide +kernel
theorem d_PA_setAction_14 : decode b_PA_setAction 14 = .ok (.iload_n 2, 1) := by decide +kernel
theorem d_PA_setAction_15 : decode b_PA_setAction 15 = .ok (.iastore, 1) := by decide +kernel
theorem d_PA_setAction_16 : decode b_PA_setAction 16 = .ok (.return_, 1) := by decide +kernel
def f_PA_setAction (S : XS) (a0 : Nat) (a1 : Int32) (a2 : Int32) : Option (XS) :=
  if a1 < 0 then (some S) else (if (4 : Int32) ≤ a1 then (some S) else (if xP a0 then (if ¬ (a1 < 0 ∨ 4 ≤ a1.toNatClampNeg) then (some (xpi S (a0 + 1) a1.toNatClampNeg a2)) else none) else none))
set_option maxHeartbeats 4000000 in
set_option maxRecDepth 100000 in
theorem k_PA_setAction (l : Launch) {p : Program} {e : Env} {s : State} {m : MethodId} {args : Array Value} {below : List Frame} {meth : Method} {c : Code} {D : va_G} {lay : Nat → Nat} {cA : Nat → ClassId} {adK adV : Nat → Nat} {s0 : State} (C : xB p s m args meth c R_PA b_PA_setAction ((Option.none : Option Jvm.ClassFile.FieldType)) 3) (E : xE D lay cA adK adV s0 s s.heap) : ∀ (S : XS) (a0 : Nat) (a1 : Int32) (a2 : Int32) (r : XS) (_ : f_PA_setAction S a0 a1 a2 = some r) (H : Heap) (locs : List Loc) (ls : Array Slot), va_P D xcl (xw lay cA S) H → va_S (xI lay) s.heap H locs → lv_has ls 3 [(0, .ref (lay a0)), (1, .int a1), (2, .int a2)] → W p l e rm_PA_setAction s m args below meth c H locs 0 0 (MQ below (xqv D lay cA r) args s 0 0 (xI lay)) (F0 m 0 ls []) := by
  obtain ⟨hx, hb, hr, hml, hown, hts, hlk, hnh⟩ := id C
  have hK := E.K
  intro S a0 a1 a2 r h H locs ls hP hS hl
  unfold f_PA_setAction at h
  refine lv_iload_n hx hb d_PA_setAction_0 rfl (lv_at hl 1 rfl) ?_
  refine lv_if_lt (tgt := 16) hx hb d_PA_setAction_1 (by decide) (fun c_4 => ?_) (fun c_4 => ?_)
  · have h := xif_t c_4 h
    have h9 := Option.some.inj h
    subst h9
    exact W.vret hx hb hr (fun t ht hW => ⟨⟨(), rfl, trivial, by show va_P D xcl _ t.heap; rw [ht]; exact hP⟩, hS.F ht⟩) hS.2.2 d_PA_setAction_16
  · have h := xif_f c_4 h
    refine lv_iload_n hx hb d_PA_setAction_4 rfl (lv_at hl 1 rfl) ?_
    refine lv_iconst (v := (4 : Int32)) hx hb d_PA_setAction_5 (by decide) ?_
    refine lv_icmp_ge (tgt := 16) hx hb d_PA_setAction_6 (by decide) (fun c_3 => ?_) (fun c_3 => ?_)
    · have h := xif_t c_3 h
      have h9 := Option.some.inj h
      subst h9
      exact W.vret hx hb hr (fun t ht hW => ⟨⟨(), rfl, trivial, by show va_P D xcl _ t.heap; rw [ht]; exact hP⟩, hS.F ht⟩) hS.2.2 d_PA_setAction_16
    · have h := xif_f c_3 h
      refine lv_aload_n hx hb d_PA_setAction_9 rfl (lv_at hl 0 rfl) ?_
      obtain ⟨hk1, h⟩ := xg h
      refine va_get (v := .ref (lay (a0 + 1))) (C := R_PA) (T := F_PA) (N := 5) hx hb hts i_PA hown hK hP a0 (xw_at (xP_lt hk1).1 (xc_PA _ _ _ _ hk1)) rfl 3 (by decide) (hts _ wd_115) (fun _ h9 => h9) rfl d_PA_setAction_10 ?_
      refine lv_iload_n hx hb d_PA_setAction_13 rfl (lv_at hl 1 rfl) ?_
      refine lv_iload_n hx hb d_PA_setAction_14 rfl (lv_at hl 2 rfl) ?_
      obtain ⟨hg2, h⟩ := xg h
      refine xas_PAA hx hb E hP hS hk1 hg2 d_PA_setAction_15 (fun H locs hP hS => ?_)
      have h9 := Option.some.inj h
      subst h9
      exact W.vret hx hb hr (fun t ht hW => ⟨⟨(), rfl, trivial, by show va_P D xcl _ t.heap; rw [ht]; exact hP⟩, hS.F ht⟩) hS.2.2 d_PA_setAction_16
theorem c_PA_setAction (l : Launch) (D : va_G) (lay : Nat → Nat) (cA : Nat → ClassId) (adK adV : Nat → Nat) (s0 : State) (S : XS) (a0 : Nat) (a1 : Int32) (a2 : Int32) (r : XS) (h : f_PA_setAction S a0 a1 a2 = some r) : Met l y_PA_setAction (.code y_PA_setAction b_PA_setAction 3 ((Option.none : Option Jvm.ClassFile.FieldType)) :: xT) rm_PA_setAction (xPc D lay cA adK adV s0 S [.ref (lay a0), .int a1, .int a2]) (xqv D lay cA r) 0 0 (xI lay) := by
  refine Met.ofW (cc := b_PA_setAction) (maxL := 3) (ret := (Option.none : Option Jvm.ClassFile.FieldType)) (by decide +kernel) rfl ?_
  intro p e s m args below meth c s₁ B hml hv
  obtain ⟨rfl, hP, E⟩ := hv
  have C := xB_of B hml
  have hl := lv_entry ([.ref (lay a0), .int a1, .int a2]) (n := 3) (Nat.le_of_ble_eq_true rfl)
  rw [lg_entry_eq]
  generalize (lg_sl ([.ref (lay a0), .int a1, .int a2]) ++ List.replicate (3 - (lg_sl ([.ref (lay a0), .int a1, .int a2])).length) Slot.unset).toArray = ls at hl ⊢
  exact k_PA_setAction l C E S a0 a1 a2 r h s.heap [] ls hP va_S.rf hl
/-! ConfigTexts$Partition.get(I)I -/
def rm_PA_get : Room := { frames := 0, cells := 0, slots := 0, locals := 0 }
theorem d_PA_get_0 : decode b_PA_get 0 = .ok (.iload_n 1, 1) := by decide +kernel
theorem d_PA_get_1 : decode b_PA_get 1 = .ok (.ifCond .ne 8, 3) := by decide +kernel
theorem d_PA_get_4 : decode b_PA_get 4 = .ok (.aload_n 0, 1) := by decide +kernel
theorem d_PA_get_5 : decode b_PA_get 5 = .ok (.getfield 34, 3) := by decide +kernel
theorem d_PA_get_8 : decode b_PA_get 8 = .ok (.ireturn, 1) := by decide +kernel
theorem d_PA_get_9 : decode b_PA_get 9 = .ok (.iload_n 1, 1) := by decide +kernel
theorem d_PA_get_10 : decode b_PA_get 10 = .ok (.iconst 1, 1) := by decide +kernel
theorem d_PA_get_11 : decode b_PA_get 11 = .ok (.if_icmp .lt 21, 3) := by decide +kernel
theorem d_PA_get_14 : decode b_PA_get 14 = .ok (.iload_n 1, 1) := by decide +kernel
theorem d_PA_get_15 : decode b_PA_get 15 = .ok (.bipush 6, 2) := by decide +kernel
theorem d_PA_get_17 : decode b_PA_get 17 = .ok (.if_icmp .gt 15, 3) := by decide +kernel
theorem d_PA_get_20 : decode b_PA_get 20 = .ok (.aload_n 0, 1) := by decide +kernel
theorem d_PA_get_21 : decode b_PA_get 21 = .ok (.getfield 17, 3) := by decide +kernel
theorem d_PA_get_24 : decode b_PA_get 24 = .ok (.iload_n 1, 1) := by decide +kernel
theorem d_PA_get_25 : decode b_PA_get 25 = .ok (.iconst 1, 1) := by decide +kernel
theorem d_PA_get_26 : decode b_PA_get 26 = .ok (.isub, 1) := by decide +kernel
theorem d_PA_get_27 : decode b_PA_get 27 = .ok (.aaload, 1) := by decide +kernel
theorem d_PA_get_28 : decode b_PA_get 28 = .ok (.getfield 48, 3) := by decide +kernel
theorem d_PA_get_31 : decode b_PA_get 31 = .ok (.ireturn, 1) := by decide +kernel
theorem d_PA_get_32 : decode b_PA_get 32 = .ok (.iload_n 1, 1) := by decide +kernel
theorem d_PA_get_33 : decode b_PA_get 33 = .ok (.bipush 7, 2) := by decide +kernel
theorem d_PA_get_35 : decode b_PA_get 35 = .ok (.if_icmp .ne 8, 3) := by decide +kernel
theorem d_PA_get_38 : decode b_PA_get 38 = .ok (.aload_n 0, 1) := by decide +kernel
theorem d_PA_get_39 : decode b_PA_get 39 = .ok (.getfield 38, 3) := by decide +kernel
theorem d_PA_get_42 : decode b_PA_get 42 = .ok (.ireturn, 1) := by decide +kernel
theorem d_PA_get_43 : decode b_PA_get 43 = .ok (.iload_n 1, 1) := by decide +kernel
theorem d_PA_get_44 : decode b_PA_get 44 = .ok (.bipush 8, 2) := by decide +kernel
theorem d_PA_get_46 : decode b_PA_get 46 = .ok (.if_icmp .lt 21, 3) := by decide +kernel
theorem d_PA_get_49 : decode b_PA_get 49 = .ok (.iload_n 1, 1) := by decide +kernel
theorem d_PA_get_50 : decode b_PA_get 50 = .ok (.bipush 12, 2) := by decide +kernel
theorem d_PA_get_52 : decode b_PA_get 52 = .ok (.if_icmp .ge 15, 3) := by decide +kernel
theorem d_PA_get_55 : decode b_PA_get 55 = .ok (.aload_n 0, 1) := by decide +kernel
theorem d_PA_get_56 : decode b_PA_get 56 = .ok (.getfield 9, 3) := by decide +kernel
theorem d_PA_get_59 : decode b_PA_get 59 = .ok (.iload_n 1, 1) := by decide +kernel
theorem d_PA_get_60 : decode b_PA_get 60 = .ok (.bipush 8, 2) := by decide +kernel
theorem d_PA_get_62 : decode b_PA_get 62 = .ok (.isub, 1) := by decide +kernel
theorem d_PA_get_63 : decode b_PA_get 63 = .ok (.iaload, 1) := by decide +kernel
theorem d_PA_get_64 : decode b_PA_get 64 = .ok (.goto 4, 3) := by decide +kernel
theorem d_PA_get_67 : decode b_PA_get 67 = .ok (.iconst (-1), 1) := by decide +kernel
theorem d_PA_get_68 : decode b_PA_get 68 = .ok (.ireturn, 1) := by decide +kernel
def f_PA_get_32 (S : XS) (a0 : Nat) (a1 : Int32) : Option (Int32) :=
  if a1 = (7 : Int32) then (if xP a0 then (some (xgi S a0 2)) else none) else (if a1 < (8 : Int32) then (some (-1 : Int32)) else (if (12 : Int32) ≤ a1 then (some (-1 : Int32)) else (if xP a0 then (if ¬ ((a1 - (8 : Int32)) < 0 ∨ 4 ≤ (a1 - (8 : Int32)).toNatClampNeg) then (some (xgi S (a0 + 1) (a1 - (8 : Int32)).toNatClampNeg)) else none) else none)))
set_option maxHeartbeats 4000000 in
set_option maxRecDepth 100000 in
theorem k_PA_get_32 (l : Launch) {p : Program} {e : Env} {s : State} {m : MethodId} {args : Array Value} {below : List Frame} {meth : Method} {c : Code} {D : va_G} {lay : Nat → Nat} {cA : Nat → ClassId} {adK adV : Nat → Nat} {s0 : State} (C : xB p s m args meth c R_PA b_PA_get ((Option.some Jvm.ClassFile.FieldType.int)) 2) (E : xE D lay cA adK adV s0 s s.heap) : ∀ (S : XS) (a0 : Nat) (a1 : Int32) (r : Int32) (_ : f_PA_get_32 S a0 a1 = some r) (H : Heap) (locs : List Loc) (ls : Array Slot), va_P D xcl (xw lay cA S) H → va_S (xI lay) s.heap H locs → lv_has ls 2 [(0, .ref (lay a0)), (1, .int a1)] → W p l e rm_PA_get s m args below meth c H locs 0 0 (MQ below (xqi D lay cA r S) args s 0 0 (xI lay)) (F0 m 32 ls []) := by
  obtain ⟨hx, hb, hr, hml, hown, hts, hlk, hnh⟩ := id C
  have hK := E.K
  intro S a0 a1 r h H locs ls hP hS hl
  unfold f_PA_get_32 at h
  refine lv_iload_n hx hb d_PA_get_32 rfl (lv_at hl 1 rfl) ?_
  refine lv_bipush (v := (7 : Int32)) hx hb d_PA_get_33 (by decide) ?_
  refine lv_icmp_ne (tgt := 43) hx hb d_PA_get_35 (by decide) (fun c_13 => ?_) (fun c_13 => ?_)
  · have h := xif_f c_13 h
    refine lv_iload_n hx hb d_PA_get_43 rfl (lv_at hl 1 rfl) ?_
    refine lv_bipush (v := (8 : Int32)) hx hb d_PA_get_44 (by decide) ?_
    refine lv_icmp_lt (tgt := 67) hx hb d_PA_get_46 (by decide) (fun c_11 => ?_) (fun c_11 => ?_)
    · have h := xif_t c_11 h
      refine lv_iconst (v := (-1 : Int32)) hx hb d_PA_get_67 (by decide) ?_
      have h9 := Option.some.inj h
      subst h9
      exact W.iret (v := (-1 : Int32)) hx hb hr (fun t ht hW => ⟨⟨(-1 : Int32), (), rfl, rfl, by show va_P D xcl _ t.heap; rw [ht]; exact hP⟩, hS.F ht⟩) hS.2.2 d_PA_get_68
    · have h := xif_f c_11 h
      refine lv_iload_n hx hb d_PA_get_49 rfl (lv_at hl 1 rfl) ?_
      refine lv_bipush (v := (12 : Int32)) hx hb d_PA_get_50 (by decide) ?_
      refine lv_icmp_ge (tgt := 67) hx hb d_PA_get_52 (by decide) (fun c_10 => ?_) (fun c_10 => ?_)
      · have h := xif_t c_10 h
        refine lv_iconst (v := (-1 : Int32)) hx hb d_PA_get_67 (by decide) ?_
        have h9 := Option.some.inj h
        subst h9
        exact W.iret (v := (-1 : Int32)) hx hb hr (fun t ht hW => ⟨⟨(-1 : Int32), (), rfl, rfl, by show va_P D xcl _ t.heap; rw [ht]; exact hP⟩, hS.F ht⟩) hS.2.2 d_PA_get_68
      · have h := xif_f c_10 h
        refine lv_aload_n hx hb d_PA_get_55 rfl (lv_at hl 0 rfl) ?_
        obtain ⟨hk8, h⟩ := xg h
        refine va_get (v := .ref (lay (a0 + 1))) (C := R_PA) (T := F_PA) (N := 5) hx hb hts i_PA hown hK hP a0 (xw_at (xP_lt hk8).1 (xc_PA _ _ _ _ hk8)) rfl 3 (by decide) (hts _ wd_115) (fun _ h9 => h9) rfl d_PA_get_56 ?_
        refine lv_iload_n hx hb d_PA_get_59 rfl (lv_at hl 1 rfl) ?_
        refine lv_bipush (v := (8 : Int32)) hx hb d_PA_get_60 (by decide) ?_
        refine lv_isub hx hb d_PA_get_62 ?_
        obtain ⟨hg9, h⟩ := xg h
        refine xal_PAA hx hb E hP hk8 hg9 d_PA_get_63 ?_
        refine lv_goto (tgt := 68) hx hb d_PA_get_64 (by decide) ?_
        have h9 := Option.some.inj h
        subst h9
        exact W.iret (v := xgi S (a0 + 1) (a1 - (8 : Int32)).toNatClampNeg) hx hb hr (fun t ht hW => ⟨⟨xgi S (a0 + 1) (a1 - (8 : Int32)).toNatClampNeg, (), rfl, rfl, by show va_P D xcl _ t.heap; rw [ht]; exact hP⟩, hS.F ht⟩) hS.2.2 d_PA_get_68
  · have h := xif_t c_13 h
    refine lv_aload_n hx hb d_PA_get_38 rfl (lv_at hl 0 rfl) ?_
    obtain ⟨hk12, h⟩ := xg h
    refine va_get (v := .int (xgi S a0 2)) (C := R_PA) (T := F_PA) (N := 5) hx hb hts i_PA hown hK hP a0 (xw_at (xP_lt hk12).1 (xc_PA _ _ _ _ hk12)) rfl 2 (by decide) (hts _ wd_113) (fun _ h9 => h9) rfl d_PA_get_39 ?_
    have h9 := Option.some.inj h
    subst h9
    exact W.iret (v := xgi S a0 2) hx hb hr (fun t ht hW => ⟨⟨xgi S a0 2, (), rfl, rfl, by show va_P D xcl _ t.heap; rw [ht]; exact hP⟩, hS.F ht⟩) hS.2.2 d_PA_get_42
def f_PA_get (S : XS) (a0 : Nat) (a1 : Int32) : Option (Int32) :=
  if a1 = 0 then (if xP a0 then (some (xgi S a0 1)) else none) else (if a1 < (1 : Int32) then (f_PA_get_32 S a0 a1) else (if (6 : Int32) < a1 then (f_PA_get_32 S a0 a1) else (if xP a0 then (if ¬ ((a1 - (1 : Int32)) < 0 ∨ 6 ≤ (a1 - (1 : Int32)).toNatClampNeg) then (if xR (a0 + 2 + 1 + 3 * (a1 - (1 : Int32)).toNatClampNeg) then (some (xgi S (a0 + 2 + 1 + 3 * (a1 - (1 : Int32)).toNatClampNeg) 4)) else none) else none) else none)))
set_option maxHeartbeats 4000000 in
set_option maxRecDepth 100000 in
theorem k_PA_get (l : Launch) {p : Program} {e : Env} {s : State} {m : MethodId} {args : Array Value} {below : List Frame} {meth : Method} {c : Code} {D : va_G} {lay : Nat → Nat} {cA : Nat → ClassId} {adK adV : Nat → Nat} {s0 : State} (C : xB p s m args meth c R_PA b_PA_get ((Option.some Jvm.ClassFile.FieldType.int)) 2) (E : xE D lay cA adK adV s0 s s.heap) : ∀ (S : XS) (a0 : Nat) (a1 : Int32) (r : Int32) (_ : f_PA_get S a0 a1 = some r) (H : Heap) (locs : List Loc) (ls : Array Slot), va_P D xcl (xw lay cA S) H → va_S (xI lay) s.heap H locs → lv_has ls 2 [(0, .ref (lay a0)), (1, .int a1)] → W p l e rm_PA_get s m args below meth c H locs 0 0 (MQ below (xqi D lay cA r S) args s 0 0 (xI lay)) (F0 m 0 ls []) := by
  obtain ⟨hx, hb, hr, hml, hown, hts, hlk, hnh⟩ := id C
  have hK := E.K
  intro S a0 a1 r h H locs ls hP hS hl
  unfold f_PA_get at h
  refine lv_iload_n hx hb d_PA_get_0 rfl (lv_at hl 1 rfl) ?_
  refine lv_if_ne (tgt := 9) hx hb d_PA_get_1 (by decide) (fun c_7 => ?_) (fun c_7 => ?_)
  · have h := xif_f c_7 h
    refine lv_iload_n hx hb d_PA_get_9 rfl (lv_at hl 1 rfl) ?_
    refine lv_iconst (v := (1 : Int32)) hx hb d_PA_get_10 (by decide) ?_
    refine lv_icmp_lt (tgt := 32) hx hb d_PA_get_11 (by decide) (fun c_5 => ?_) (fun c_5 => ?_)
    · have h := xif_t c_5 h
      exact k_PA_get_32 l C E S a0 a1 _ h H locs ls hP hS hl
    · have h := xif_f c_5 h
      refine lv_iload_n hx hb d_PA_get_14 rfl (lv_at hl 1 rfl) ?_
      refine lv_bipush (v := (6 : Int32)) hx hb d_PA_get_15 (by decide) ?_
      refine lv_icmp_gt (tgt := 32) hx hb d_PA_get_17 (by decide) (fun c_4 => ?_) (fun c_4 => ?_)
      · have h := xif_t c_4 h
        exact k_PA_get_32 l C E S a0 a1 _ h H locs ls hP hS hl
      · have h := xif_f c_4 h
        refine lv_aload_n hx hb d_PA_get_20 rfl (lv_at hl 0 rfl) ?_
        obtain ⟨hk1, h⟩ := xg h
        refine va_get (v := .ref (lay (a0 + 2))) (C := R_PA) (T := F_PA) (N := 5) hx hb hts i_PA hown hK hP a0 (xw_at (xP_lt hk1).1 (xc_PA _ _ _ _ hk1)) rfl 4 (by decide) (hts _ wd_116) (fun _ h9 => h9) rfl d_PA_get_21 ?_
        refine lv_iload_n hx hb d_PA_get_24 rfl (lv_at hl 1 rfl) ?_
        refine lv_iconst (v := (1 : Int32)) hx hb d_PA_get_25 (by decide) ?_
        refine lv_isub hx hb d_PA_get_26 ?_
        obtain ⟨hg2, h⟩ := xg h
        refine xal_PAT hx hb E hP hk1 hg2 d_PA_get_27 ?_
        obtain ⟨hk3, h⟩ := xg h
        refine va_getN (v := .int (xgi S (a0 + 2 + 1 + 3 * (a1 - (1 : Int32)).toNatClampNeg) 4)) (C := R_RO) (T := F_RO) (N := 5) hx hb hts i_RO hown hK hP (a0 + 2 + 1 + 3 * (a1 - (1 : Int32)).toNatClampNeg) (xw_at (xR_lt hk3).1 (xc_RO _ _ _ _ hk3)) rfl 4 (by decide) (E.nest wn_93) (fun _ h9 => h9) rfl d_PA_get_28 ?_
        have h9 := Option.some.inj h
        subst h9
        exact W.iret (v := xgi S (a0 + 2 + 1 + 3 * (a1 - (1 : Int32)).toNatClampNeg) 4) hx hb hr (fun t ht hW => ⟨⟨xgi S (a0 + 2 + 1 + 3 * (a1 - (1 : Int32)).toNatClampNeg) 4, (), rfl, rfl, by show va_P D xcl _ t.heap; rw [ht]; exact hP⟩, hS.F ht⟩) hS.2.2 d_PA_get_31
  · have h := xif_t c_7 h
    refine lv_aload_n hx hb d_PA_get_4 rfl (lv_at hl 0 rfl) ?_
    obtain ⟨hk6, h⟩ := xg h
    refine va_get (v := .int (xgi S a0 1)) (C := R_PA) (T := F_PA) (N := 5) hx hb hts i_PA hown hK hP a0 (xw_at (xP_lt hk6).1 (xc_PA _ _ _ _ hk6)) rfl 1 (by decide) (hts _ wd_111) (fun _ h9 => h9) rfl d_PA_get_5 ?_
    have h9 := Option.some.inj h
    subst h9
    exact W.iret (v := xgi S a0 1) hx hb hr (fun t ht hW => ⟨⟨xgi S a0 1, (), rfl, rfl, by show va_P D xcl _ t.heap; rw [ht]; exact hP⟩, hS.F ht⟩) hS.2.2 d_PA_get_8
theorem c_PA_get (l : Launch) (D : va_G) (lay : Nat → Nat) (cA : Nat → ClassId) (adK adV : Nat → Nat) (s0 : State) (S : XS) (a0 : Nat) (a1 : Int32) (r : Int32) (h : f_PA_get S a0 a1 = some r) : Met l y_PA_get (.code y_PA_get b_PA_get 2 ((Option.some Jvm.ClassFile.FieldType.int)) :: xT) rm_PA_get (xPc D lay cA adK adV s0 S [.ref (lay a0), .int a1]) (xqi D lay cA r S) 0 0 (xI lay) := by
  refine Met.ofW (cc := b_PA_get) (maxL := 2) (ret := (Option.some Jvm.ClassFile.FieldType.int)) (by decide +kernel) rfl ?_
  intro p e s m args below meth c s₁ B hml hv
  obtain ⟨rfl, hP, E⟩ := hv
  have C := xB_of B hml
  have hl := lv_entry ([.ref (lay a0), .int a1]) (n := 2) (Nat.le_of_ble_eq_true rfl)
  rw [lg_entry_eq]
  generalize (lg_sl ([.ref (lay a0), .int a1]) ++ List.replicate (2 - (lg_sl ([.ref (lay a0), .int a1])).length) Slot.unset).toArray = ls at hl ⊢
  exact k_PA_get l C E S a0 a1 r h s.heap [] ls hP va_S.rf hl
/-! ConfigTexts$Configuration.clear()V -/
def rm_CF_clear : Room := { frames := 1, cells := 0, slots := 0, locals := 20 }
theorem d_CF_clear_0 : decode b_CF_clear 0 = .ok (.aload_n 0, 1) := by decide +kernel
theorem d_CF_clear_1 : decode b_CF_clear 1 = .ok (.iconst 0, 1) := by decide +kernel
theorem d_CF_clear_2 : decode b_CF_clear 2 = .ok (.putfield 30, 3) := by decide +kernel
theorem d_CF_clear_5 : decode b_CF_clear 5 = .ok (.aload_n 0, 1) := by decide +kernel
theorem d_CF_clear_6 : decode b_CF_clear 6 = .ok (.getfield 23, 3) := by decide +kernel
theorem d_CF_clear_9 : decode b_CF_clear 9 = .ok (.invokevirtual 34, 3) := by decide +kernel
theorem d_CF_clear_12 : decode b_CF_clear 12 = .ok (.aload_n 0, 1) := by decide +kernel
theorem d_CF_clear_13 : decode b_CF_clear 13 = .ok (.getfield 27, 3) := by decide +kernel
theorem d_CF_clear_16 : decode b_CF_clear 16 = .ok (.invokevirtual 34, 3) := by decide +kernel
theorem d_CF_clear_19 : decode b_CF_clear 19 = .ok (.aload_n 0, 1) := by decide +kernel
theorem d_CF_clear_20 : decode b_CF_clear 20 = .ok (.iconst 0, 1) := by decide +kernel
theorem d_CF_clear_21 : decode b_CF_clear 21 = .ok (.putfield 37, 3) := by decide +kernel
theorem d_CF_clear_24 : decode b_CF_clear 24 = .ok (.aload_n 0, 1) := by decide +kernel
theorem d_CF_clear_25 : decode b_CF_clear 25 = .ok (.iconst 0, 1) := by decide +kernel
theorem d_CF_clear_26 : decode b_CF_clear 26 = .ok (.putfield 40, 3) := by decide +kernel
theorem d_CF_clear_29 : decode b_CF_clear 29 = .ok (.aload_n 0, 1) := by decide +kernel
theorem d_CF_clear_30 : decode b_CF_clear 30 = .ok (.iconst 0, 1) := by decide +kernel
theorem d_CF_clear_31 : decode b_CF_clear 31 = .ok (.putfield 43, 3) := by decide +kernel
theorem d_CF_clear_34 : decode b_CF_clear 34 = .ok (.return_, 1) := by decide +kernel
def f_CF_clear (S : XS)  : Option (XS) :=
  (f_RO_clear (xpi S 3 1 (0 : Int32)) 173).bind fun q2 => (f_RO_clear q2 176).bind fun q4 => some (xpi (xpi (xpi q4 3 4 (0 : Int32)) 3 5 (0 : Int32)) 3 6 (0 : Int32))
set_option maxHeartbeats 4000000 in
set_option maxRecDepth 100000 in
theorem k_CF_clear (l : Launch) {p : Program} {e : Env} {s : State} {m : MethodId} {args : Array Value} {below : List Frame} {meth : Method} {c : Code} {D : va_G} {lay : Nat → Nat} {cA : Nat → ClassId} {adK adV : Nat → Nat} {s0 : State} (C : xB p s m args meth c R_CF b_CF_clear ((Option.none : Option Jvm.ClassFile.FieldType)) 1) (E : xE D lay cA adK adV s0 s s.heap) : ∀ (S : XS)  (r : XS) (_ : f_CF_clear S = some r) (H : Heap) (locs : List Loc) (ls : Array Slot), va_P D xcl (xw lay cA S) H → va_S (xI lay) s.heap H locs → lv_has ls 1 [(0, .ref (lay 3))] → W p l e rm_CF_clear s m args below meth c H locs 0 0 (MQ below (xqv D lay cA r) args s 0 0 (xI lay)) (F0 m 0 ls []) := by
  obtain ⟨hx, hb, hr, hml, hown, hts, hlk, hnh⟩ := id C
  have hK := E.K
  intro S r h H locs ls hP hS hl
  unfold f_CF_clear at h
  refine lv_aload_n hx hb d_CF_clear_0 rfl (lv_at hl 0 rfl) ?_
  refine lv_iconst (v := (0 : Int32)) hx hb d_CF_clear_1 (by decide) ?_
  refine xput_CF_1 hx hb hts hown E hP hS (hts _ wd_133) d_CF_clear_2 (fun H locs hP hS => ?_)
  refine lv_aload_n hx hb d_CF_clear_5 rfl (lv_at hl 0 rfl) ?_
  refine va_get (v := .ref (lay 173)) (C := R_CF) (T := F_CF) (N := 7) hx hb hts i_CF hown hK hP 3 (xw_at (by decide) (xc_3 _ _ _ _)) rfl 2 (by decide) (hts _ wd_136) (fun _ h9 => h9) rfl d_CF_clear_6 ?_
  obtain ⟨q2, e1, h⟩ := xb h
  refine xc_v (va_runV (As := []) (rest := []) ⟨hx, hb, hml, hown, hts⟩ (c_RO_clear l D lay cA adK adV s0 (xpi S 3 1 (0 : Int32)) 173 q2 e1) (cwV 0 hts (xT_V wd_273 wd_274 wd_275 wd_5 wd_276) rfl rfl rfl (by decide +kernel) ⟨Nat.le_of_ble_eq_true rfl, Nat.le_of_ble_eq_true rfl⟩) (xpV E hP hS (xR_lt (by decide : xR 173)).1 (xc_RO _ _ _ _ (by decide : xR 173)) rfl) rfl rfl hl.1 rfl (lv_room (Nat.le_of_ble_eq_true rfl)) d_CF_clear_9 ⟨Nat.le_of_ble_eq_true rfl, Nat.le_of_ble_eq_true rfl⟩) hS (fun H locs hP hS => ?_)
  refine lv_aload_n hx hb d_CF_clear_12 rfl (lv_at hl 0 rfl) ?_
  refine va_get (v := .ref (lay 176)) (C := R_CF) (T := F_CF) (N := 7) hx hb hts i_CF hown hK hP 3 (xw_at (by decide) (xc_3 _ _ _ _)) rfl 3 (by decide) (hts _ wd_139) (fun _ h9 => h9) rfl d_CF_clear_13 ?_
  obtain ⟨q4, e3, h⟩ := xb h
  refine xc_v (va_runV (As := []) (rest := []) ⟨hx, hb, hml, hown, hts⟩ (c_RO_clear l D lay cA adK adV s0 q2 176 q4 e3) (cwV 0 hts (xT_V wd_273 wd_274 wd_275 wd_5 wd_276) rfl rfl rfl (by decide +kernel) ⟨Nat.le_of_ble_eq_true rfl, Nat.le_of_ble_eq_true rfl⟩) (xpV E hP hS (xR_lt (by decide : xR 176)).1 (xc_RO _ _ _ _ (by decide : xR 176)) rfl) rfl rfl hl.1 rfl (lv_room (Nat.le_of_ble_eq_true rfl)) d_CF_clear_16 ⟨Nat.le_of_ble_eq_true rfl, Nat.le_of_ble_eq_true rfl⟩) hS (fun H locs hP hS => ?_)
  refine lv_aload_n hx hb d_CF_clear_19 rfl (lv_at hl 0 rfl) ?_
  refine lv_iconst (v := (0 : Int32)) hx hb d_CF_clear_20 (by decide) ?_
  refine xput_CF_4 hx hb hts hown E hP hS (hts _ wd_142) d_CF_clear_21 (fun H locs hP hS => ?_)
  refine lv_aload_n hx hb d_CF_clear_24 rfl (lv_at hl 0 rfl) ?_
  refine lv_iconst (v := (0 : Int32)) hx hb d_CF_clear_25 (by decide) ?_
  refine xput_CF_5 hx hb hts hown E hP hS (hts _ wd_144) d_CF_clear_26 (fun H locs hP hS => ?_)
  refine lv_aload_n hx hb d_CF_clear_29 rfl (lv_at hl 0 rfl) ?_
  refine lv_iconst (v := (0 : Int32)) hx hb d_CF_clear_30 (by decide) ?_
  refine xput_CF_6 hx hb hts hown E hP hS (hts _ wd_146) d_CF_clear_31 (fun H locs hP hS => ?_)
  have h9 := Option.some.inj h
  subst h9
  exact W.vret hx hb hr (fun t ht hW => ⟨⟨(), rfl, trivial, by show va_P D xcl _ t.heap; rw [ht]; exact hP⟩, hS.F ht⟩) hS.2.2 d_CF_clear_34
theorem c_CF_clear (l : Launch) (D : va_G) (lay : Nat → Nat) (cA : Nat → ClassId) (adK adV : Nat → Nat) (s0 : State) (S : XS)  (r : XS) (h : f_CF_clear S  = some r) : Met l y_CF_clear (.code y_CF_clear b_CF_clear 1 ((Option.none : Option Jvm.ClassFile.FieldType)) :: xT) rm_CF_clear (xPc D lay cA adK adV s0 S [.ref (lay 3)]) (xqv D lay cA r) 0 0 (xI lay) := by
  refine Met.ofW (cc := b_CF_clear) (maxL := 1) (ret := (Option.none : Option Jvm.ClassFile.FieldType)) (by decide +kernel) rfl ?_
  intro p e s m args below meth c s₁ B hml hv
  obtain ⟨rfl, hP, E⟩ := hv
  have C := xB_of B hml
  have hl := lv_entry ([.ref (lay 3)]) (n := 1) (Nat.le_of_ble_eq_true rfl)
  rw [lg_entry_eq]
  generalize (lg_sl ([.ref (lay 3)]) ++ List.replicate (1 - (lg_sl ([.ref (lay 3)])).length) Slot.unset).toArray = ls at hl ⊢
  exact k_CF_clear l C E S  r h s.heap [] ls hP va_S.rf hl
/-! ConfigTexts$Configuration.isFull()Z -/
def rm_CF_isFull : Room := { frames := 0, cells := 0, slots := 0, locals := 0 }
theorem d_CF_isFull_0 : decode b_CF_isFull 0 = .ok (.aload_n 0, 1) := by decide +kernel
theorem d_CF_isFull_1 : decode b_CF_isFull 1 = .ok (.getfield 30, 3) := by decide +kernel
theorem d_CF_isFull_4 : decode b_CF_isFull 4 = .ok (.bipush 8, 2) := by decide +kernel
theorem d_CF_isFull_6 : decode b_CF_isFull 6 = .ok (.if_icmp .lt 7, 3) := by decide +kernel
theorem d_CF_isFull_9 : decode b_CF_isFull 9 = .ok (.iconst 1, 1) := by decide +kernel
theorem d_CF_isFull_10 : decode b_CF_isFull 10 = .ok (.goto 4, 3) := by decide +kernel
theorem d_CF_isFull_13 : decode b_CF_isFull 13 = .ok (.iconst 0, 1) := by decide +kernel
theorem d_CF_isFull_14 : decode b_CF_isFull 14 = .ok (.ireturn, 1) := by decide +kernel
def f_CF_isFull (S : XS)  : Option (Int32) :=
  if (xgi S 3 1) < (8 : Int32) then (some (0 : Int32)) else (some (1 : Int32))
set_option maxHeartbeats 4000000 in
set_option maxRecDepth 100000 in
theorem k_CF_isFull (l : Launch) {p : Program} {e : Env} {s : State} {m : MethodId} {args : Array Value} {below : List Frame} {meth : Method} {c : Code} {D : va_G} {lay : Nat → Nat} {cA : Nat → ClassId} {adK adV : Nat → Nat} {s0 : State} (C : xB p s m args meth c R_CF b_CF_isFull ((Option.some Jvm.ClassFile.FieldType.boolean)) 1) (E : xE D lay cA adK adV s0 s s.heap) : ∀ (S : XS)  (r : Int32) (_ : f_CF_isFull S = some r) (H : Heap) (locs : List Loc) (ls : Array Slot), va_P D xcl (xw lay cA S) H → va_S (xI lay) s.heap H locs → lv_has ls 1 [(0, .ref (lay 3))] → W p l e rm_CF_isFull s m args below meth c H locs 0 0 (MQ below (xqi D lay cA r S) args s 0 0 (xI lay)) (F0 m 0 ls []) := by
  obtain ⟨hx, hb, hr, hml, hown, hts, hlk, hnh⟩ := id C
  have hK := E.K
  intro S r h H locs ls hP hS hl
  unfold f_CF_isFull at h
  refine lv_aload_n hx hb d_CF_isFull_0 rfl (lv_at hl 0 rfl) ?_
  refine va_get (v := .int (xgi S 3 1)) (C := R_CF) (T := F_CF) (N := 7) hx hb hts i_CF hown hK hP 3 (xw_at (by decide) (xc_3 _ _ _ _)) rfl 1 (by decide) (hts _ wd_133) (fun _ h9 => h9) rfl d_CF_isFull_1 ?_
  refine lv_bipush (v := (8 : Int32)) hx hb d_CF_isFull_4 (by decide) ?_
  refine lv_icmp_lt (tgt := 13) hx hb d_CF_isFull_6 (by decide) (fun c_1 => ?_) (fun c_1 => ?_)
  · have h := xif_t c_1 h
    refine lv_iconst (v := (0 : Int32)) hx hb d_CF_isFull_13 (by decide) ?_
    have h9 := Option.some.inj h
    subst h9
    exact W.zret (v := (0 : Int32)) hx hb hr (by decide) (fun t ht hW => ⟨⟨(0 : Int32), (), rfl, rfl, by show va_P D xcl _ t.heap; rw [ht]; exact hP⟩, hS.F ht⟩) hS.2.2 d_CF_isFull_14
  · have h := xif_f c_1 h
    refine lv_iconst (v := (1 : Int32)) hx hb d_CF_isFull_9 (by decide) ?_
    refine lv_goto (tgt := 14) hx hb d_CF_isFull_10 (by decide) ?_
    have h9 := Option.some.inj h
    subst h9
    exact W.zret (v := (1 : Int32)) hx hb hr (by decide) (fun t ht hW => ⟨⟨(1 : Int32), (), rfl, rfl, by show va_P D xcl _ t.heap; rw [ht]; exact hP⟩, hS.F ht⟩) hS.2.2 d_CF_isFull_14
theorem c_CF_isFull (l : Launch) (D : va_G) (lay : Nat → Nat) (cA : Nat → ClassId) (adK adV : Nat → Nat) (s0 : State) (S : XS)  (r : Int32) (h : f_CF_isFull S  = some r) : Met l y_CF_isFull (.code y_CF_isFull b_CF_isFull 1 ((Option.some Jvm.ClassFile.FieldType.boolean)) :: xT) rm_CF_isFull (xPc D lay cA adK adV s0 S [.ref (lay 3)]) (xqi D lay cA r S) 0 0 (xI lay) := by
  refine Met.ofW (cc := b_CF_isFull) (maxL := 1) (ret := (Option.some Jvm.ClassFile.FieldType.boolean)) (by decide +kernel) rfl ?_
  intro p e s m args below meth c s₁ B hml hv
  obtain ⟨rfl, hP, E⟩ := hv
  have C := xB_of B hml
  have hl := lv_entry ([.ref (lay 3)]) (n := 1) (Nat.le_of_ble_eq_true rfl)
  rw [lg_entry_eq]
  generalize (lg_sl ([.ref (lay 3)]) ++ List.replicate (1 - (lg_sl ([.ref (lay 3)])).length) Slot.unset).toArray = ls at hl ⊢
  exact k_CF_isFull l C E S  r h s.heap [] ls hP va_S.rf hl
/-! ConfigTexts$Configuration.addPartition(J)V -/
def rm_CF_addPartition : Room := { frames := 2, cells := 0, slots := 0, locals := 43 }
theorem d_CF_addPartition_0 : decode b_CF_addPartition 0 = .ok (.aload_n 0, 1) := by decide +kernel
theorem d_CF_addPartition_1 : decode b_CF_addPartition 1 = .ok (.invokevirtual 46, 3) := by decide +kernel
theorem d_CF_addPartition_4 : decode b_CF_addPartition 4 = .ok (.ifCond .eq 4, 3) := by decide +kernel
theorem d_CF_addPartition_7 : decode b_CF_addPartition 7 = .ok (.return_, 1) := by decide +kernel
theorem d_CF_addPartition_8 : decode b_CF_addPartition 8 = .ok (.aload_n 0, 1) := by decide +kernel
theorem d_CF_addPartition_9 : decode b_CF_addPartition 9 = .ok (.getfield 11, 3) := by decide +kernel
theorem d_CF_addPartition_12 : decode b_CF_addPartition 12 = .ok (.aload_n 0, 1) := by decide +kernel
theorem d_CF_addPartition_13 : decode b_CF_addPartition 13 = .ok (.getfield 30, 3) := by decide +kernel
theorem d_CF_addPartition_16 : decode b_CF_addPartition 16 = .ok (.aaload, 1) := by decide +kernel
theorem d_CF_addPartition_17 : decode b_CF_addPartition 17 = .ok (.lload_n 1, 1) := by decide +kernel
theorem d_CF_addPartition_18 : decode b_CF_addPartition 18 = .ok (.invokevirtual 50, 3) := by decide +kernel
theorem d_CF_addPartition_21 : decode b_CF_addPartition 21 = .ok (.aload_n 0, 1) := by decide +kernel
theorem d_CF_addPartition_22 : decode b_CF_addPartition 22 = .ok (.dup, 1) := by decide +kernel
theorem d_CF_addPartition_23 : decode b_CF_addPartition 23 = .ok (.getfield 30, 3) := by decide +kernel
theorem d_CF_addPartition_26 : decode b_CF_addPartition 26 = .ok (.iconst 1, 1) := by decide +kernel
theorem d_CF_addPartition_27 : decode b_CF_addPartition 27 = .ok (.iadd, 1) := by decide +kernel
theorem d_CF_addPartition_28 : decode b_CF_addPartition 28 = .ok (.putfield 30, 3) := by decide +kernel
theorem d_CF_addPartition_31 : decode b_CF_addPartition 31 = .ok (.return_, 1) := by decide +kernel
def f_CF_addPartition (S : XS) (a1 : Int64) : Option (XS) :=
  (f_CF_isFull S).bind fun q2 => if q2 = 0 then (if ¬ ((xgi S 3 1) < 0 ∨ 8 ≤ (xgi S 3 1).toNatClampNeg) then (if xP (5 + 21 * (xgi S 3 1).toNatClampNeg) then ((f_PA_begin S (5 + 21 * (xgi S 3 1).toNatClampNeg) a1).bind fun q6 => some (xpi q6 3 1 ((xgi q6 3 1) + (1 : Int32)))) else none) else none) else (some S)
set_option maxHeartbeats 4000000 in
set_option maxRecDepth 100000 in
theorem k_CF_addPartition (l : Launch) {p : Program} {e : Env} {s : State} {m : MethodId} {args : Array Value} {below : List Frame} {meth : Method} {c : Code} {D : va_G} {lay : Nat → Nat} {cA : Nat → ClassId} {adK adV : Nat → Nat} {s0 : State} (C : xB p s m args meth c R_CF b_CF_addPartition ((Option.none : Option Jvm.ClassFile.FieldType)) 3) (E : xE D lay cA adK adV s0 s s.heap) : ∀ (S : XS) (a1 : Int64) (r : XS) (_ : f_CF_addPartition S a1 = some r) (H : Heap) (locs : List Loc) (ls : Array Slot), va_P D xcl (xw lay cA S) H → va_S (xI lay) s.heap H locs → lv_has ls 3 [(0, .ref (lay 3)), (1, .long a1)] → W p l e rm_CF_addPartition s m args below meth c H locs 0 0 (MQ below (xqv D lay cA r) args s 0 0 (xI lay)) (F0 m 0 ls []) := by
  obtain ⟨hx, hb, hr, hml, hown, hts, hlk, hnh⟩ := id C
  have hK := E.K
  intro S a1 r h H locs ls hP hS hl
  unfold f_CF_addPartition at h
  refine lv_aload_n hx hb d_CF_addPartition_0 rfl (lv_at hl 0 rfl) ?_
  obtain ⟨q2, e1, h⟩ := xb h
  refine xc_i (va_runV (As := []) (rest := []) ⟨hx, hb, hml, hown, hts⟩ (c_CF_isFull l D lay cA adK adV s0 S q2 e1) (cwV 0 hts (xT_V wd_516 wd_499 wd_500 wd_3 wd_501) rfl rfl rfl (by decide +kernel) ⟨Nat.le_of_ble_eq_true rfl, Nat.le_of_ble_eq_true rfl⟩) (xpV E hP hS (by decide) (xc_3 _ _ _ _) rfl) rfl rfl hl.1 rfl (lv_room (Nat.le_of_ble_eq_true rfl)) d_CF_addPartition_1 ⟨Nat.le_of_ble_eq_true rfl, Nat.le_of_ble_eq_true rfl⟩) hS (fun H locs hP hS => ?_)
  refine lv_if_eq (tgt := 8) hx hb d_CF_addPartition_4 (by decide) (fun c_7 => ?_) (fun c_7 => ?_)
  · have h := xif_t c_7 h
    refine lv_aload_n hx hb d_CF_addPartition_8 rfl (lv_at hl 0 rfl) ?_
    refine va_get (v := .ref (lay 4)) (C := R_CF) (T := F_CF) (N := 7) hx hb hts i_CF hown hK hP 3 (xw_at (by decide) (xc_3 _ _ _ _)) rfl 0 (by decide) (hts _ wd_132) (fun _ h9 => h9) rfl d_CF_addPartition_9 ?_
    refine lv_aload_n hx hb d_CF_addPartition_12 rfl (lv_at hl 0 rfl) ?_
    refine va_get (v := .int (xgi S 3 1)) (C := R_CF) (T := F_CF) (N := 7) hx hb hts i_CF hown hK hP 3 (xw_at (by decide) (xc_3 _ _ _ _)) rfl 1 (by decide) (hts _ wd_133) (fun _ h9 => h9) rfl d_CF_addPartition_13 ?_
    obtain ⟨hg3, h⟩ := xg h
    refine xal_PS hx hb E hP hg3 d_CF_addPartition_16 ?_
    refine lv_lload_n hx hb d_CF_addPartition_17 rfl (lv_at hl 1 rfl) ?_
    obtain ⟨hk4, h⟩ := xg h
    obtain ⟨q6, e5, h⟩ := xb h
    refine xc_v (va_runV (As := [.long a1]) (rest := []) ⟨hx, hb, hml, hown, hts⟩ (c_PA_begin l D lay cA adK adV s0 S (5 + 21 * (xgi S 3 1).toNatClampNeg) a1 q6 e5) (cwV 1 hts (xT_V wd_517 wd_518 wd_519 wd_4 wd_520) rfl rfl rfl (by decide +kernel) ⟨Nat.le_of_ble_eq_true rfl, Nat.le_of_ble_eq_true rfl⟩) (xpV E hP hS (xP_lt hk4).1 (xc_PA _ _ _ _ hk4) rfl) rfl rfl hl.1 rfl (lv_room (Nat.le_of_ble_eq_true rfl)) d_CF_addPartition_18 ⟨Nat.le_of_ble_eq_true rfl, Nat.le_of_ble_eq_true rfl⟩) hS (fun H locs hP hS => ?_)
    refine lv_aload_n hx hb d_CF_addPartition_21 rfl (lv_at hl 0 rfl) ?_
    refine lv_dup hx hb d_CF_addPartition_22 rfl ?_
    refine va_get (v := .int (xgi q6 3 1)) (C := R_CF) (T := F_CF) (N := 7) hx hb hts i_CF hown hK hP 3 (xw_at (by decide) (xc_3 _ _ _ _)) rfl 1 (by decide) (hts _ wd_133) (fun _ h9 => h9) rfl d_CF_addPartition_23 ?_
    refine lv_iconst (v := (1 : Int32)) hx hb d_CF_addPartition_26 (by decide) ?_
    refine lv_iadd hx hb d_CF_addPartition_27 ?_
    refine xput_CF_1 hx hb hts hown E hP hS (hts _ wd_133) d_CF_addPartition_28 (fun H locs hP hS => ?_)
    have h9 := Option.some.inj h
    subst h9
    exact W.vret hx hb hr (fun t ht hW => ⟨⟨(), rfl, trivial, by show va_P D xcl _ t.heap; rw [ht]; exact hP⟩, hS.F ht⟩) hS.2.2 d_CF_addPartition_31
  · have h := xif_f c_7 h
    have h9 := Option.some.inj h
    subst h9
    exact W.vret hx hb hr (fun t ht hW => ⟨⟨(), rfl, trivial, by show va_P D xcl _ t.heap; rw [ht]; exact hP⟩, hS.F ht⟩) hS.2.2 d_CF_addPartition_7
theorem c_CF_addPartition (l : Launch) (D : va_G) (lay : Nat → Nat) (cA : Nat → ClassId) (adK adV : Nat → Nat) (s0 : State) (S : XS) (a1 : Int64) (r : XS) (h : f_CF_addPartition S a1 = some r) : Met l y_CF_addPartition (.code y_CF_addPartition b_CF_addPartition 3 ((Option.none : Option Jvm.ClassFile.FieldType)) :: xT) rm_CF_addPartition (xPc D lay cA adK adV s0 S [.ref (lay 3), .long a1]) (xqv D lay cA r) 0 0 (xI lay) := by
  refine Met.ofW (cc := b_CF_addPartition) (maxL := 3) (ret := (Option.none : Option Jvm.ClassFile.FieldType)) (by decide +kernel) rfl ?_
  intro p e s m args below meth c s₁ B hml hv
  obtain ⟨rfl, hP, E⟩ := hv
  have C := xB_of B hml
  have hl := lv_entry ([.ref (lay 3), .long a1]) (n := 3) (Nat.le_of_ble_eq_true rfl)
  rw [lg_entry_eq]
  generalize (lg_sl ([.ref (lay 3), .long a1]) ++ List.replicate (3 - (lg_sl ([.ref (lay 3), .long a1])).length) Slot.unset).toArray = ls at hl ⊢
  exact k_CF_addPartition l C E S a1 r h s.heap [] ls hP va_S.rf hl
/-! ConfigTexts$Configuration.partitionAt(I)LConfigTexts$Partition; -/
def rm_CF_partitionAt : Room := { frames := 0, cells := 0, slots := 0, locals := 0 }
theorem d_CF_partitionAt_0 : decode b_CF_partitionAt 0 = .ok (.iload_n 1, 1) := by decide +kernel
theorem d_CF_partitionAt_1 : decode b_CF_partitionAt 1 = .ok (.ifCond .lt 20, 3) := by decide +kernel
theorem d_CF_partitionAt_4 : decode b_CF_partitionAt 4 = .ok (.iload_n 1, 1) := by decide +kernel
theorem d_CF_partitionAt_5 : decode b_CF_partitionAt 5 = .ok (.aload_n 0, 1) := by decide +kernel
theorem d_CF_partitionAt_6 : decode b_CF_partitionAt 6 = .ok (.getfield 30, 3) := by decide +kernel
theorem d_CF_partitionAt_9 : decode b_CF_partitionAt 9 = .ok (.if_icmp .ge 12, 3) := by decide +kernel
theorem d_CF_partitionAt_12 : decode b_CF_partitionAt 12 = .ok (.aload_n 0, 1) := by decide +kernel
theorem d_CF_partitionAt_13 : decode b_CF_partitionAt 13 = .ok (.getfield 11, 3) := by decide +kernel
theorem d_CF_partitionAt_16 : decode b_CF_partitionAt 16 = .ok (.iload_n 1, 1) := by decide +kernel
theorem d_CF_partitionAt_17 : decode b_CF_partitionAt 17 = .ok (.aaload, 1) := by decide +kernel
theorem d_CF_partitionAt_18 : decode b_CF_partitionAt 18 = .ok (.goto 4, 3) := by decide +kernel
theorem d_CF_partitionAt_21 : decode b_CF_partitionAt 21 = .ok (.aconst_null, 1) := by decide +kernel
theorem d_CF_partitionAt_22 : decode b_CF_partitionAt 22 = .ok (.areturn, 1) := by decide +kernel
def f_CF_partitionAt (S : XS) (a1 : Int32) : Option (Option Nat) :=
  if a1 < 0 then (some none) else (if (xgi S 3 1) ≤ a1 then (some none) else (if ¬ (a1 < 0 ∨ 8 ≤ a1.toNatClampNeg) then (some (some (5 + 21 * a1.toNatClampNeg))) else none))
set_option maxHeartbeats 4000000 in
set_option maxRecDepth 100000 in
theorem k_CF_partitionAt (l : Launch) {p : Program} {e : Env} {s : State} {m : MethodId} {args : Array Value} {below : List Frame} {meth : Method} {c : Code} {D : va_G} {lay : Nat → Nat} {cA : Nat → ClassId} {adK adV : Nat → Nat} {s0 : State} (C : xB p s m args meth c R_CF b_CF_partitionAt ((Option.some (Jvm.ClassFile.FieldType.object "ConfigTexts$Partition"))) 2) (E : xE D lay cA adK adV s0 s s.heap) : ∀ (S : XS) (a1 : Int32) (r : Option Nat) (_ : f_CF_partitionAt S a1 = some r) (H : Heap) (locs : List Loc) (ls : Array Slot), va_P D xcl (xw lay cA S) H → va_S (xI lay) s.heap H locs → lv_has ls 2 [(0, .ref (lay 3)), (1, .int a1)] → W p l e rm_CF_partitionAt s m args below meth c H locs 0 0 (MQ below (xqo D lay cA r S) args s 0 0 (xI lay)) (F0 m 0 ls []) := by
  obtain ⟨hx, hb, hr, hml, hown, hts, hlk, hnh⟩ := id C
  have hK := E.K
  intro S a1 r h H locs ls hP hS hl
  unfold f_CF_partitionAt at h
  refine lv_iload_n hx hb d_CF_partitionAt_0 rfl (lv_at hl 1 rfl) ?_
  refine lv_if_lt (tgt := 21) hx hb d_CF_partitionAt_1 (by decide) (fun c_3 => ?_) (fun c_3 => ?_)
  · have h := xif_t c_3 h
    refine lv_null hx hb d_CF_partitionAt_21 ?_
    have h9 := Option.some.inj h
    subst h9
    exact W.aret (v := .null) hx hb hr (Or.inl ⟨_, rfl⟩) (Or.inl rfl) (fun t ht hW => ⟨⟨rfl, by show va_P D xcl _ t.heap; rw [ht]; exact hP⟩, hS.F ht⟩) hS.2.2 d_CF_partitionAt_22
  · have h := xif_f c_3 h
    refine lv_iload_n hx hb d_CF_partitionAt_4 rfl (lv_at hl 1 rfl) ?_
    refine lv_aload_n hx hb d_CF_partitionAt_5 rfl (lv_at hl 0 rfl) ?_
    refine va_get (v := .int (xgi S 3 1)) (C := R_CF) (T := F_CF) (N := 7) hx hb hts i_CF hown hK hP 3 (xw_at (by decide) (xc_3 _ _ _ _)) rfl 1 (by decide) (hts _ wd_133) (fun _ h9 => h9) rfl d_CF_partitionAt_6 ?_
    refine lv_icmp_ge (tgt := 21) hx hb d_CF_partitionAt_9 (by decide) (fun c_2 => ?_) (fun c_2 => ?_)
    · have h := xif_t c_2 h
      refine lv_null hx hb d_CF_partitionAt_21 ?_
      have h9 := Option.some.inj h
      subst h9
      exact W.aret (v := .null) hx hb hr (Or.inl ⟨_, rfl⟩) (Or.inl rfl) (fun t ht hW => ⟨⟨rfl, by show va_P D xcl _ t.heap; rw [ht]; exact hP⟩, hS.F ht⟩) hS.2.2 d_CF_partitionAt_22
    · have h := xif_f c_2 h
      refine lv_aload_n hx hb d_CF_partitionAt_12 rfl (lv_at hl 0 rfl) ?_
      refine va_get (v := .ref (lay 4)) (C := R_CF) (T := F_CF) (N := 7) hx hb hts i_CF hown hK hP 3 (xw_at (by decide) (xc_3 _ _ _ _)) rfl 0 (by decide) (hts _ wd_132) (fun _ h9 => h9) rfl d_CF_partitionAt_13 ?_
      refine lv_iload_n hx hb d_CF_partitionAt_16 rfl (lv_at hl 1 rfl) ?_
      obtain ⟨hg1, h⟩ := xg h
      refine xal_PS hx hb E hP hg1 d_CF_partitionAt_17 ?_
      refine lv_goto (tgt := 22) hx hb d_CF_partitionAt_18 (by decide) ?_
      have h9 := Option.some.inj h
      subst h9
      exact W.aret (v := .ref (lay (5 + 21 * a1.toNatClampNeg))) hx hb hr (Or.inl ⟨_, rfl⟩) (Or.inr ⟨_, rfl⟩) (fun t ht hW => ⟨⟨rfl, by show va_P D xcl _ t.heap; rw [ht]; exact hP⟩, hS.F ht⟩) hS.2.2 d_CF_partitionAt_22
theorem c_CF_partitionAt (l : Launch) (D : va_G) (lay : Nat → Nat) (cA : Nat → ClassId) (adK adV : Nat → Nat) (s0 : State) (S : XS) (a1 : Int32) (r : Option Nat) (h : f_CF_partitionAt S a1 = some r) : Met l y_CF_partitionAt (.code y_CF_partitionAt b_CF_partitionAt 2 ((Option.some (Jvm.ClassFile.FieldType.object "ConfigTexts$Partition"))) :: xT) rm_CF_partitionAt (xPc D lay cA adK adV s0 S [.ref (lay 3), .int a1]) (xqo D lay cA r S) 0 0 (xI lay) := by
  refine Met.ofW (cc := b_CF_partitionAt) (maxL := 2) (ret := (Option.some (Jvm.ClassFile.FieldType.object "ConfigTexts$Partition"))) (by decide +kernel) rfl ?_
  intro p e s m args below meth c s₁ B hml hv
  obtain ⟨rfl, hP, E⟩ := hv
  have C := xB_of B hml
  have hl := lv_entry ([.ref (lay 3), .int a1]) (n := 2) (Nat.le_of_ble_eq_true rfl)
  rw [lg_entry_eq]
  generalize (lg_sl ([.ref (lay 3), .int a1]) ++ List.replicate (2 - (lg_sl ([.ref (lay 3), .int a1])).length) Slot.unset).toArray = ls at hl ⊢
  exact k_CF_partitionAt l C E S a1 r h s.heap [] ls hP va_S.rf hl
/-! ConfigTexts$Configuration.findPartition(J)I -/
def rm_CF_findPartition : Room := { frames := 0, cells := 0, slots := 0, locals := 0 }
theorem d_CF_findPartition_0 : decode b_CF_findPartition 0 = .ok (.iconst 0, 1) := by decide +kernel
theorem d_CF_findPartition_1 : decode b_CF_findPartition 1 = .ok (.istore_n 3, 1) := by decide +kernel
theorem d_CF_findPartition_2 : decode b_CF_findPartition 2 = .ok (.iload_n 3, 1) := by decide +kernel
theorem d_CF_findPartition_3 : decode b_CF_findPartition 3 = .ok (.aload_n 0, 1) := by decide +kernel
theorem d_CF_findPartition_4 : decode b_CF_findPartition 4 = .ok (.getfield 30, 3) := by decide +kernel
theorem d_CF_findPartition_7 : decode b_CF_findPartition 7 = .ok (.if_icmp .ge 25, 3) := by decide +kernel
theorem d_CF_findPartition_10 : decode b_CF_findPartition 10 = .ok (.aload_n 0, 1) := by decide +kernel
theorem d_CF_findPartition_11 : decode b_CF_findPartition 11 = .ok (.getfield 11, 3) := by decide +kernel
theorem d_CF_findPartition_14 : decode b_CF_findPartition 14 = .ok (.iload_n 3, 1) := by decide +kernel
theorem d_CF_findPartition_15 : decode b_CF_findPartition 15 = .ok (.aaload, 1) := by decide +kernel
theorem d_CF_findPartition_16 : decode b_CF_findPartition 16 = .ok (.getfield 54, 3) := by decide +kernel
theorem d_CF_findPartition_19 : decode b_CF_findPartition 19 = .ok (.lload_n 1, 1) := by decide +kernel
theorem d_CF_findPartition_20 : decode b_CF_findPartition 20 = .ok (.lcmp, 1) := by decide +kernel
theorem d_CF_findPartition_21 : decode b_CF_findPartition 21 = .ok (.ifCond .ne 5, 3) := by decide +kernel
theorem d_CF_findPartition_24 : decode b_CF_findPartition 24 = .ok (.iload_n 3, 1) := by decide +kernel
theorem d_CF_findPartition_25 : decode b_CF_findPartition 25 = .ok (.ireturn, 1) := by decide +kernel
theorem d_CF_findPartition_26 : decode b_CF_findPartition 26 = .ok (.iinc 3 1, 3) := by decide +kernel
theorem d_CF_findPartition_29 : decode b_CF_findPartition 29 = .ok (.goto (-27), 3) := by decide +kernel
theorem d_CF_findPartition_32 : decode b_CF_findPartition 32 = .ok (.iconst (-1), 1) := by decide +kernel
theorem d_CF_findPartition_33 : decode b_CF_findPartition 33 = .ok (.ireturn, 1) := by decide +kernel
def f_CF_findPartition_2 : Nat → XS → Int64 → Int32 → Option (Int32)
  | 0, _, _, _ => none
  | n + 1, S, a1, a3 =>
    if (xgi S 3 1) ≤ a3 then (some (-1 : Int32)) else (if ¬ (a3 < 0 ∨ 8 ≤ a3.toNatClampNeg) then (if xP (5 + 21 * a3.toNatClampNeg) then (if (lg_cmp (xgl S (5 + 21 * a3.toNatClampNeg) 0) a1) = 0 then (some a3) else (f_CF_findPartition_2 n S a1 (a3 + (1 : Int32)))) else none) else none)
set_option maxHeartbeats 4000000 in
set_option maxRecDepth 100000 in
theorem k_CF_findPartition_2 (l : Launch) {p : Program} {e : Env} {s : State} {m : MethodId} {args : Array Value} {below : List Frame} {meth : Method} {c : Code} {D : va_G} {lay : Nat → Nat} {cA : Nat → ClassId} {adK adV : Nat → Nat} {s0 : State} (C : xB p s m args meth c R_CF b_CF_findPartition ((Option.some Jvm.ClassFile.FieldType.int)) 4) (E : xE D lay cA adK adV s0 s s.heap) : ∀ (n : Nat) (S : XS) (a1 : Int64) (a3 : Int32) (r : Int32) (_ : f_CF_findPartition_2 n S a1 a3 = some r) (H : Heap) (locs : List Loc) (ls : Array Slot), va_P D xcl (xw lay cA S) H → va_S (xI lay) s.heap H locs → lv_has ls 4 [(0, .ref (lay 3)), (1, .long a1), (3, .int a3)] → W p l e rm_CF_findPartition s m args below meth c H locs 0 0 (MQ below (xqi D lay cA r S) args s 0 0 (xI lay)) (F0 m 2 ls []) := by
  obtain ⟨hx, hb, hr, hml, hown, hts, hlk, hnh⟩ := id C
  have hK := E.K
  intro n
  induction n with
  | zero => intro S a1 a3 r h; rw [f_CF_findPartition_2] at h; cases h
  | succ n ih =>
    intro S a1 a3 r h H locs ls hP hS hl
    rw [f_CF_findPartition_2] at h
    refine lv_iload_n hx hb d_CF_findPartition_2 rfl (lv_at hl 2 rfl) ?_
    refine lv_aload_n hx hb d_CF_findPartition_3 rfl (lv_at hl 0 rfl) ?_
    refine va_get (v := .int (xgi S 3 1)) (C := R_CF) (T := F_CF) (N := 7) hx hb hts i_CF hown hK hP 3 (xw_at (by decide) (xc_3 _ _ _ _)) rfl 1 (by decide) (hts _ wd_133) (fun _ h9 => h9) rfl d_CF_findPartition_4 ?_
    refine lv_icmp_ge (tgt := 32) hx hb d_CF_findPartition_7 (by decide) (fun c_4 => ?_) (fun c_4 => ?_)
    · have h := xif_t c_4 h
      refine lv_iconst (v := (-1 : Int32)) hx hb d_CF_findPartition_32 (by decide) ?_
      have h9 := Option.some.inj h
      subst h9
      exact W.iret (v := (-1 : Int32)) hx hb hr (fun t ht hW => ⟨⟨(-1 : Int32), (), rfl, rfl, by show va_P D xcl _ t.heap; rw [ht]; exact hP⟩, hS.F ht⟩) hS.2.2 d_CF_findPartition_33
    · have h := xif_f c_4 h
      refine lv_aload_n hx hb d_CF_findPartition_10 rfl (lv_at hl 0 rfl) ?_
      refine va_get (v := .ref (lay 4)) (C := R_CF) (T := F_CF) (N := 7) hx hb hts i_CF hown hK hP 3 (xw_at (by decide) (xc_3 _ _ _ _)) rfl 0 (by decide) (hts _ wd_132) (fun _ h9 => h9) rfl d_CF_findPartition_11 ?_
      refine lv_iload_n hx hb d_CF_findPartition_14 rfl (lv_at hl 2 rfl) ?_
      obtain ⟨hg1, h⟩ := xg h
      refine xal_PS hx hb E hP hg1 d_CF_findPartition_15 ?_
      obtain ⟨hk2, h⟩ := xg h
      refine va_getN (v := .long (xgl S (5 + 21 * a3.toNatClampNeg) 0)) (C := R_PA) (T := F_PA) (N := 5) hx hb hts i_PA hown hK hP (5 + 21 * a3.toNatClampNeg) (xw_at (xP_lt hk2).1 (xc_PA _ _ _ _ hk2)) rfl 0 (by decide) (E.nest wn_110) (fun _ h9 => h9) rfl d_CF_findPartition_16 ?_
      refine lv_lload_n hx hb d_CF_findPartition_19 rfl (lv_at hl 1 rfl) ?_
      refine W.lcmp hx hb d_CF_findPartition_20 ?_
      refine lv_if_ne (tgt := 26) hx hb d_CF_findPartition_21 (by decide) (fun c_3 => ?_) (fun c_3 => ?_)
      · have h := xif_f c_3 h
        refine lv_iinc (v := a3 + (1 : Int32)) (lv' := [(3, .int (a3 + (1 : Int32))), (0, .ref (lay 3)), (1, .long a1)]) hx hb d_CF_findPartition_26 hl (k := 2) rfl (by rfl) (by decide) rfl (fun ls hl => ?_)
        refine lv_goto (tgt := 2) hx hb d_CF_findPartition_29 (by decide) ?_
        exact ih S a1 (a3 + (1 : Int32)) _ h H locs ls hP hS (lv_sub hl [1, 2, 0] rfl)
      · have h := xif_t c_3 h
        refine lv_iload_n hx hb d_CF_findPartition_24 rfl (lv_at hl 2 rfl) ?_
        have h9 := Option.some.inj h
        subst h9
        exact W.iret (v := a3) hx hb hr (fun t ht hW => ⟨⟨a3, (), rfl, rfl, by show va_P D xcl _ t.heap; rw [ht]; exact hP⟩, hS.F ht⟩) hS.2.2 d_CF_findPartition_25
def f_CF_findPartition (S : XS) (a1 : Int64) : Option (Int32) :=
  f_CF_findPartition_2 4096 S a1 (0 : Int32)
set_option maxHeartbeats 4000000 in
set_option maxRecDepth 100000 in
theorem k_CF_findPartition (l : Launch) {p : Program} {e : Env} {s : State} {m : MethodId} {args : Array Value} {below : List Frame} {meth : Method} {c : Code} {D : va_G} {lay : Nat → Nat} {cA : Nat → ClassId} {adK adV : Nat → Nat} {s0 : State} (C : xB p s m args meth c R_CF b_CF_findPartition ((Option.some Jvm.ClassFile.FieldType.int)) 4) (E : xE D lay cA adK adV s0 s s.heap) : ∀ (S : XS) (a1 : Int64) (r : Int32) (_ : f_CF_findPartition S a1 = some r) (H : Heap) (locs : List Loc) (ls : Array Slot), va_P D xcl (xw lay cA S) H → va_S (xI lay) s.heap H locs → lv_has ls 4 [(0, .ref (lay 3)), (1, .long a1)] → W p l e rm_CF_findPartition s m args below meth c H locs 0 0 (MQ below (xqi D lay cA r S) args s 0 0 (xI lay)) (F0 m 0 ls []) := by
  obtain ⟨hx, hb, hr, hml, hown, hts, hlk, hnh⟩ := id C
  have hK := E.K
  intro S a1 r h H locs ls hP hS hl
  unfold f_CF_findPartition at h
  refine lv_iconst (v := (0 : Int32)) hx hb d_CF_findPartition_0 (by decide) ?_
  refine lv_istore_n (lv' := [(3, .int (0 : Int32)), (0, .ref (lay 3)), (1, .long a1)]) hx hb d_CF_findPartition_1 rfl hl (by decide) rfl (fun ls hl => ?_)
  exact k_CF_findPartition_2 l C E 4096 S a1 (0 : Int32) _ h H locs ls hP hS (lv_sub hl [1, 2, 0] rfl)
theorem c_CF_findPartition (l : Launch) (D : va_G) (lay : Nat → Nat) (cA : Nat → ClassId) (adK adV : Nat → Nat) (s0 : State) (S : XS) (a1 : Int64) (r : Int32) (h : f_CF_findPartition S a1 = some r) : Met l y_CF_findPartition (.code y_CF_findPartition b_CF_findPartition 4 ((Option.some Jvm.ClassFile.FieldType.int)) :: xT) rm_CF_findPartition (xPc D lay cA adK adV s0 S [.ref (lay 3), .long a1]) (xqi D lay cA r S) 0 0 (xI lay) := by
  refine Met.ofW (cc := b_CF_findPartition) (maxL := 4) (ret := (Option.some Jvm.ClassFile.FieldType.int)) (by decide +kernel) rfl ?_
  intro p e s m args below meth c s₁ B hml hv
  obtain ⟨rfl, hP, E⟩ := hv
  have C := xB_of B hml
  have hl := lv_entry ([.ref (lay 3), .long a1]) (n := 4) (Nat.le_of_ble_eq_true rfl)
  rw [lg_entry_eq]
  generalize (lg_sl ([.ref (lay 3), .long a1]) ++ List.replicate (4 - (lg_sl ([.ref (lay 3), .long a1])).length) Slot.unset).toArray = ls at hl ⊢
  exact k_CF_findPartition l C E S a1 r h s.heap [] ls hP va_S.rf hl
/-! ConfigTexts$Configuration.count(I)I -/
def rm_CF_count : Room := { frames := 0, cells := 0, slots := 0, locals := 0 }
theorem d_CF_count_0 : decode b_CF_count 0 = .ok (.iload_n 1, 1) := by decide +kernel
theorem d_CF_count_1 : decode b_CF_count 1 = .ok (.tableswitch 75 0 5 #[39, 44, 52, 60, 65, 70], 39) := by decide +kernel
theorem d_CF_count_40 : decode b_CF_count 40 = .ok (.aload_n 0, 1) := by decide +kernel
theorem d_CF_count_41 : decode b_CF_count 41 = .ok (.getfield 30, 3) := by decide +kernel
theorem d_CF_count_44 : decode b_CF_count 44 = .ok (.ireturn, 1) := by decide +kernel
theorem d_CF_count_45 : decode b_CF_count 45 = .ok (.aload_n 0, 1) := by decide +kernel
theorem d_CF_count_46 : decode b_CF_count 46 = .ok (.getfield 23, 3) := by decide +kernel
theorem d_CF_count_49 : decode b_CF_count 49 = .ok (.getfield 58, 3) := by decide +kernel
theorem d_CF_count_52 : decode b_CF_count 52 = .ok (.ireturn, 1) := by decide +kernel
theorem d_CF_count_53 : decode b_CF_count 53 = .ok (.aload_n 0, 1) := by decide +kernel
theorem d_CF_count_54 : decode b_CF_count 54 = .ok (.getfield 27, 3) := by decide +kernel
theorem d_CF_count_57 : decode b_CF_count 57 = .ok (.getfield 58, 3) := by decide +kernel
theorem d_CF_count_60 : decode b_CF_count 60 = .ok (.ireturn, 1) := by decide +kernel
theorem d_CF_count_61 : decode b_CF_count 61 = .ok (.aload_n 0, 1) := by decide +kernel
theorem d_CF_count_62 : decode b_CF_count 62 = .ok (.getfield 37, 3) := by decide +kernel
theorem d_CF_count_65 : decode b_CF_count 65 = .ok (.ireturn, 1) := by decide +kernel
theorem d_CF_count_66 : decode b_CF_count 66 = .ok (.aload_n 0, 1) := by decide +kernel
theorem d_CF_count_67 : decode b_CF_count 67 = .ok (.getfield 40, 3) := by decide +kernel
theorem d_CF_count_70 : decode b_CF_count 70 = .ok (.ireturn, 1) := by decide +kernel
theorem d_CF_count_71 : decode b_CF_count 71 = .ok (.aload_n 0, 1) := by decide +kernel
theorem d_CF_count_72 : decode b_CF_count 72 = .ok (.getfield 43, 3) := by decide +kernel
theorem d_CF_count_75 : decode b_CF_count 75 = .ok (.ireturn, 1) := by decide +kernel
theorem d_CF_count_76 : decode b_CF_count 76 = .ok (.iconst (-1), 1) := by decide +kernel
theorem d_CF_count_77 : decode b_CF_count 77 = .ok (.ireturn, 1) := by decide +kernel
def f_CF_count (S : XS) (a1 : Int32) : Option (Int32) :=
  if a1 = 0 then (some (xgi S 3 1)) else (if a1 = 1 then (some (xgi S 173 4)) else (if a1 = 2 then (some (xgi S 176 4)) else (if a1 = 3 then (some (xgi S 3 4)) else (if a1 = 4 then (some (xgi S 3 5)) else (if a1 = 5 then (some (xgi S 3 6)) else (some (-1 : Int32)))))))
set_option maxHeartbeats 4000000 in
set_option maxRecDepth 100000 in
theorem k_CF_count (l : Launch) {p : Program} {e : Env} {s : State} {m : MethodId} {args : Array Value} {below : List Frame} {meth : Method} {c : Code} {D : va_G} {lay : Nat → Nat} {cA : Nat → ClassId} {adK adV : Nat → Nat} {s0 : State} (C : xB p s m args meth c R_CF b_CF_count ((Option.some Jvm.ClassFile.FieldType.int)) 2) (E : xE D lay cA adK adV s0 s s.heap) : ∀ (S : XS) (a1 : Int32) (r : Int32) (_ : f_CF_count S a1 = some r) (H : Heap) (locs : List Loc) (ls : Array Slot), va_P D xcl (xw lay cA S) H → va_S (xI lay) s.heap H locs → lv_has ls 2 [(0, .ref (lay 3)), (1, .int a1)] → W p l e rm_CF_count s m args below meth c H locs 0 0 (MQ below (xqi D lay cA r S) args s 0 0 (xI lay)) (F0 m 0 ls []) := by
  obtain ⟨hx, hb, hr, hml, hown, hts, hlk, hnh⟩ := id C
  have hK := E.K
  intro S a1 r h H locs ls hP hS hl
  unfold f_CF_count at h
  refine lv_iload_n hx hb d_CF_count_0 rfl (lv_at hl 1 rfl) ?_
  by_cases c_1 : a1 = 0
  · have h := xif_t c_1 h
    refine lv_tableIn (off := 39) (tgt := 40) hx hb d_CF_count_1 (by rw [c_1]; decide) (by rw [c_1]; decide) (by rw [c_1]; decide) (by decide) ?_
    refine lv_aload_n hx hb d_CF_count_40 rfl (lv_at hl 0 rfl) ?_
    refine va_get (v := .int (xgi S 3 1)) (C := R_CF) (T := F_CF) (N := 7) hx hb hts i_CF hown hK hP 3 (xw_at (by decide) (xc_3 _ _ _ _)) rfl 1 (by decide) (hts _ wd_133) (fun _ h9 => h9) rfl d_CF_count_41 ?_
    have h9 := Option.some.inj h
    subst h9
    exact W.iret (v := xgi S 3 1) hx hb hr (fun t ht hW => ⟨⟨xgi S 3 1, (), rfl, rfl, by show va_P D xcl _ t.heap; rw [ht]; exact hP⟩, hS.F ht⟩) hS.2.2 d_CF_count_44
  · have h := xif_f c_1 h
    by_cases c_2 : a1 = 1
    · have h := xif_t c_2 h
      refine lv_tableIn (off := 44) (tgt := 45) hx hb d_CF_count_1 (by rw [c_2]; decide) (by rw [c_2]; decide) (by rw [c_2]; decide) (by decide) ?_
      refine lv_aload_n hx hb d_CF_count_45 rfl (lv_at hl 0 rfl) ?_
      refine va_get (v := .ref (lay 173)) (C := R_CF) (T := F_CF) (N := 7) hx hb hts i_CF hown hK hP 3 (xw_at (by decide) (xc_3 _ _ _ _)) rfl 2 (by decide) (hts _ wd_136) (fun _ h9 => h9) rfl d_CF_count_46 ?_
      refine va_getN (v := .int (xgi S 173 4)) (C := R_RO) (T := F_RO) (N := 5) hx hb hts i_RO hown hK hP 173 (xw_at (xR_lt (by decide : xR 173)).1 (xc_RO _ _ _ _ (by decide : xR 173))) rfl 4 (by decide) (E.nest wn_94) (fun _ h9 => h9) rfl d_CF_count_49 ?_
      have h9 := Option.some.inj h
      subst h9
      exact W.iret (v := xgi S 173 4) hx hb hr (fun t ht hW => ⟨⟨xgi S 173 4, (), rfl, rfl, by show va_P D xcl _ t.heap; rw [ht]; exact hP⟩, hS.F ht⟩) hS.2.2 d_CF_count_52
    · have h := xif_f c_2 h
      by_cases c_3 : a1 = 2
      · have h := xif_t c_3 h
        refine lv_tableIn (off := 52) (tgt := 53) hx hb d_CF_count_1 (by rw [c_3]; decide) (by rw [c_3]; decide) (by rw [c_3]; decide) (by decide) ?_
        refine lv_aload_n hx hb d_CF_count_53 rfl (lv_at hl 0 rfl) ?_
        refine va_get (v := .ref (lay 176)) (C := R_CF) (T := F_CF) (N := 7) hx hb hts i_CF hown hK hP 3 (xw_at (by decide) (xc_3 _ _ _ _)) rfl 3 (by decide) (hts _ wd_139) (fun _ h9 => h9) rfl d_CF_count_54 ?_
        refine va_getN (v := .int (xgi S 176 4)) (C := R_RO) (T := F_RO) (N := 5) hx hb hts i_RO hown hK hP 176 (xw_at (xR_lt (by decide : xR 176)).1 (xc_RO _ _ _ _ (by decide : xR 176))) rfl 4 (by decide) (E.nest wn_94) (fun _ h9 => h9) rfl d_CF_count_57 ?_
        have h9 := Option.some.inj h
        subst h9
        exact W.iret (v := xgi S 176 4) hx hb hr (fun t ht hW => ⟨⟨xgi S 176 4, (), rfl, rfl, by show va_P D xcl _ t.heap; rw [ht]; exact hP⟩, hS.F ht⟩) hS.2.2 d_CF_count_60
      · have h := xif_f c_3 h
        by_cases c_4 : a1 = 3
        · have h := xif_t c_4 h
          refine lv_tableIn (off := 60) (tgt := 61) hx hb d_CF_count_1 (by rw [c_4]; decide) (by rw [c_4]; decide) (by rw [c_4]; decide) (by decide) ?_
          refine lv_aload_n hx hb d_CF_count_61 rfl (lv_at hl 0 rfl) ?_
          refine va_get (v := .int (xgi S 3 4)) (C := R_CF) (T := F_CF) (N := 7) hx hb hts i_CF hown hK hP 3 (xw_at (by decide) (xc_3 _ _ _ _)) rfl 4 (by decide) (hts _ wd_142) (fun _ h9 => h9) rfl d_CF_count_62 ?_
          have h9 := Option.some.inj h
          subst h9
          exact W.iret (v := xgi S 3 4) hx hb hr (fun t ht hW => ⟨⟨xgi S 3 4, (), rfl, rfl, by show va_P D xcl _ t.heap; rw [ht]; exact hP⟩, hS.F ht⟩) hS.2.2 d_CF_count_65
        · have h := xif_f c_4 h
          by_cases c_5 : a1 = 4
          · have h := xif_t c_5 h
            refine lv_tableIn (off := 65) (tgt := 66) hx hb d_CF_count_1 (by rw [c_5]; decide) (by rw [c_5]; decide) (by rw [c_5]; decide) (by decide) ?_
            refine lv_aload_n hx hb d_CF_count_66 rfl (lv_at hl 0 rfl) ?_
            refine va_get (v := .int (xgi S 3 5)) (C := R_CF) (T := F_CF) (N := 7) hx hb hts i_CF hown hK hP 3 (xw_at (by decide) (xc_3 _ _ _ _)) rfl 5 (by decide) (hts _ wd_144) (fun _ h9 => h9) rfl d_CF_count_67 ?_
            have h9 := Option.some.inj h
            subst h9
            exact W.iret (v := xgi S 3 5) hx hb hr (fun t ht hW => ⟨⟨xgi S 3 5, (), rfl, rfl, by show va_P D xcl _ t.heap; rw [ht]; exact hP⟩, hS.F ht⟩) hS.2.2 d_CF_count_70
          · have h := xif_f c_5 h
            by_cases c_6 : a1 = 5
            · have h := xif_t c_6 h
              refine lv_tableIn (off := 70) (tgt := 71) hx hb d_CF_count_1 (by rw [c_6]; decide) (by rw [c_6]; decide) (by rw [c_6]; decide) (by decide) ?_
              refine lv_aload_n hx hb d_CF_count_71 rfl (lv_at hl 0 rfl) ?_
              refine va_get (v := .int (xgi S 3 6)) (C := R_CF) (T := F_CF) (N := 7) hx hb hts i_CF hown hK hP 3 (xw_at (by decide) (xc_3 _ _ _ _)) rfl 6 (by decide) (hts _ wd_146) (fun _ h9 => h9) rfl d_CF_count_72 ?_
              have h9 := Option.some.inj h
              subst h9
              exact W.iret (v := xgi S 3 6) hx hb hr (fun t ht hW => ⟨⟨xgi S 3 6, (), rfl, rfl, by show va_P D xcl _ t.heap; rw [ht]; exact hP⟩, hS.F ht⟩) hS.2.2 d_CF_count_75
            · have h := xif_f c_6 h
              have nc_1 := lv_neT (k := 0) (a := 0) c_1 (by decide)
              have nc_2 := lv_neT (k := 1) (a := 1) c_2 (by decide)
              have nc_3 := lv_neT (k := 2) (a := 2) c_3 (by decide)
              have nc_4 := lv_neT (k := 3) (a := 3) c_4 (by decide)
              have nc_5 := lv_neT (k := 4) (a := 4) c_5 (by decide)
              have nc_6 := lv_neT (k := 5) (a := 5) c_6 (by decide)
              refine lv_tableOut (tgt := 76) hx hb d_CF_count_1 (by omega) (by decide) ?_
              refine lv_iconst (v := (-1 : Int32)) hx hb d_CF_count_76 (by decide) ?_
              have h9 := Option.some.inj h
              subst h9
              exact W.iret (v := (-1 : Int32)) hx hb hr (fun t ht hW => ⟨⟨(-1 : Int32), (), rfl, rfl, by show va_P D xcl _ t.heap; rw [ht]; exact hP⟩, hS.F ht⟩) hS.2.2 d_CF_count_77
theorem c_CF_count (l : Launch) (D : va_G) (lay : Nat → Nat) (cA : Nat → ClassId) (adK adV : Nat → Nat) (s0 : State) (S : XS) (a1 : Int32) (r : Int32) (h : f_CF_count S a1 = some r) : Met l y_CF_count (.code y_CF_count b_CF_count 2 ((Option.some Jvm.ClassFile.FieldType.int)) :: xT) rm_CF_count (xPc D lay cA adK adV s0 S [.ref (lay 3), .int a1]) (xqi D lay cA r S) 0 0 (xI lay) := by
  refine Met.ofW (cc := b_CF_count) (maxL := 2) (ret := (Option.some Jvm.ClassFile.FieldType.int)) (by decide +kernel) rfl ?_
  intro p e s m args below meth c s₁ B hml hv
  obtain ⟨rfl, hP, E⟩ := hv
  have C := xB_of B hml
  have hl := lv_entry ([.ref (lay 3), .int a1]) (n := 2) (Nat.le_of_ble_eq_true rfl)
  rw [lg_entry_eq]
  generalize (lg_sl ([.ref (lay 3), .int a1]) ++ List.replicate (2 - (lg_sl ([.ref (lay 3), .int a1])).length) Slot.unset).toArray = ls at hl ⊢
  exact k_CF_count l C E S a1 r h s.heap [] ls hP va_S.rf hl
