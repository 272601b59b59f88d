theorem wd_263 : (Jvm.Cond.codeWith ({ cls := "ConfigTextsLaw", name := "load", desc := "(LConfigTexts;[J)I" } : Jvm.MethodName) method_3_code (3 : Nat) (Option.some Jvm.ClassFile.FieldType.int) [((0 : Nat), (8 : Nat), (11 : Nat), (13 : Nat))]) ∈ xT := xT_of 263 (by decide +kernel) (by decide +kernel)
theorem wd_264 : (Jvm.Cond.classLink "ConfigTextsLaw" (13 : Nat) "java/lang/IllegalArgumentException") ∈ xT := xT_of 264 (by decide +kernel) (by decide +kernel)
theorem wd_265 : (Jvm.Cond.methodLink "ConfigTextsLaw" (7 : Nat) ({ cls := "ConfigTexts", name := "load", desc := "()I" } : Jvm.MethodName)) ∈ xT := xT_of 265 (by decide +kernel) (by decide +kernel)
theorem wd_266 : (Jvm.Cond.instanceMethod ({ cls := "ConfigTexts", name := "load", desc := "()I" } : Jvm.MethodName)) ∈ xT := xT_of 266 (by decide +kernel) (by decide +kernel)
theorem wd_267 : (Jvm.Cond.selects "ConfigTexts" ({ cls := "ConfigTexts", name := "load", desc := "()I" } : Jvm.MethodName) ({ cls := "ConfigTexts", name := "load", desc := "()I" } : Jvm.MethodName)) ∈ xT := xT_of 267 (by decide +kernel) (by decide +kernel)
theorem wd_268 : (Jvm.Cond.code ({ cls := "ConfigTexts", name := "load", desc := "()I" } : Jvm.MethodName) prog_1_method_3_code (3 : Nat) (Option.some Jvm.ClassFile.FieldType.int)) ∈ xT := xT_of 268 (by decide +kernel) (by decide +kernel)
/-! the law's load: it catches -/
abbrev b_LA_load : ByteArray := method_3_code
def y_LA_load : MethodName := ⟨"ConfigTextsLaw", "load", "(LConfigTexts;[J)I"⟩
def rm_LA_load : Room := { frames := 13, cells := 1, slots := 6, locals := 264 }
theorem d_LA_load_0 : decode b_LA_load 0 = .ok (.aload_n 1, 1) := by decide +kernel
theorem d_LA_load_1 : decode b_LA_load 1 = .ok (.iconst 0, 1) := by decide +kernel
theorem d_LA_load_2 : decode b_LA_load 2 = .ok (.aload_n 0, 1) := by decide +kernel
theorem d_LA_load_3 : decode b_LA_load 3 = .ok (.invokevirtual 7, 3) := by decide +kernel
theorem d_LA_load_6 : decode b_LA_load 6 = .ok (.i2l, 1) := by decide +kernel
theorem d_LA_load_7 : decode b_LA_load 7 = .ok (.lastore, 1) := by decide +kernel
theorem d_LA_load_8 : decode b_LA_load 8 = .ok (.goto 6, 3) := by decide +kernel
theorem d_LA_load_11 : decode b_LA_load 11 = .ok (.astore_n 2, 1) := by decide +kernel
theorem d_LA_load_12 : decode b_LA_load 12 = .ok (.iconst 1, 1) := by decide +kernel
theorem d_LA_load_13 : decode b_LA_load 13 = .ok (.ireturn, 1) := by decide +kernel
theorem d_LA_load_14 : decode b_LA_load 14 = .ok (.iconst 0, 1) := by decide +kernel
theorem d_LA_load_15 : decode b_LA_load 15 = .ok (.ireturn, 1) := by decide +kernel
def lq (D : va_G) (lay : Nat → Nat) (cA : Nat → ClassId) (o : Nat) (g : Nat → Int64) (q : (Int32 × XS) ⊕ XS) : Array Value → State → Outcome → State → Prop := fun _ st oc t =>
  (∃ (S' : XS) (g' : Nat → Int64), ((∃ r, q = .inl (r, S') ∧ oc = .returned (some (.int 0)) ∧ g' = vp_updL g 0 r.toInt64) ∨ (q = .inr S' ∧ oc = .returned (some (.int 1)) ∧ g' = g)) ∧ va_P D xcl (xw lay cA S') t.heap ∧ va_at D xcl (o, .inl (cA 1, 1, .inr (.inl g'))) t.heap) ∧ va_F (fun x => xI lay x ∨ x = o) st t
def lP (D : va_G) (lay : Nat → Nat) (cA : Nat → ClassId) (adK adV : Nat → Nat) (s0 : State) (S : XS) (o : Nat) (g : Nat → Int64) : Array Value → State → Prop := va_Pc [.ref (lay 0), .ref o] (fun U => va_P D xcl (xw lay cA S) U.heap ∧ xE D lay cA adK adV s0 U U.heap ∧ va_at D xcl (o, .inl (cA 1, 1, .inr (.inl g))) U.heap)
theorem lout {D : va_G} {lay : Nat → Nat} {cA : Nat → ClassId} {S : XS} {o : Nat} {e : va_E} {H : Heap} (hP : va_P D xcl (xw lay cA S) H) (ho : va_at D xcl (o, e) H) : va_P D xcl (xw lay cA S ++ [(o, e)]) H := hP.app (fun k q hk => by
  have hz : k < 1 := (List.getElem?_eq_some_iff.mp hk).1
  rw [show k = 0 by omega] at hk
  cases hk
  exact ho)
theorem lwlen {lay : Nat → Nat} {cA : Nat → ClassId} {S : XS} : (xw lay cA S).length = 180 := by simp [xw, xW]
theorem loutD {lay : Nat → Nat} {cA : Nat → ClassId} {S : XS} {o : Nat} {e : va_E} (hi : xInj 180 lay) (ho : ¬ xI lay o) : va_D (fun x => xI lay x ∨ x = o) (xw lay cA S ++ [(o, e)]) := by
  refine va_D.app ((xW_D hi).weaken (fun _ _ _ h => Or.inl h)) ⟨fun i j p q hi hj _ => ?_, fun k q hk => ?_⟩ (fun i j p q hp hq hpq => ?_)
  · have h1 : i < 1 := (List.getElem?_eq_some_iff.mp hi).1
    have h2 : j < 1 := (List.getElem?_eq_some_iff.mp hj).1
    omega
  · have h1 : k < 1 := (List.getElem?_eq_some_iff.mp hk).1
    rw [show k = 0 by omega] at hk
    cases hk
    exact Or.inr rfl
  · have h1 : j < 1 := (List.getElem?_eq_some_iff.mp hq).1
    rw [show j = 0 by omega] at hq
    cases hq
    obtain ⟨h2, rfl⟩ := xW_get hp
    exact ho ⟨i, h2, hpq.symm⟩
set_option maxHeartbeats 4000000 in
set_option maxRecDepth 100000 in
theorem c_LA_load (l : Launch) (hq : l.stackTraces = false) (D : va_G) (lay : Nat → Nat) (cA : Nat → ClassId) (adK adV : Nat → Nat) (s0 : State) (S : XS) (o : Nat) (g : Nat → Int64) (q : (Int32 × XS) ⊕ XS) (h : f_CT_load S = some q) (ho : ¬ xI lay o) : Met l y_LA_load (.codeWith y_LA_load b_LA_load 3 (some .int) [(0, 8, 11, 13)] :: xT) rm_LA_load (lP D lay cA adK adV s0 S o g) (lq D lay cA o g q) 1 6 (fun x => xI lay x ∨ x = o) := by
  refine Met.ofWH (cc := b_LA_load) (maxL := 3) (ret := some .int) (hs := [(0, 8, 11, 13)]) (by decide +kernel) rfl ?_
  intro p e s m args below meth c s₁ B hml htab hv
  obtain ⟨rfl, hP, E, hO⟩ := hv
  have hx := B.exec
  have hb := B.bytes
  have hr := B.returns
  have hts0 := atoms_spec (ws := .codeWith y_LA_load b_LA_load 3 (some .int) [(0, 8, 11, 13)] :: xT) B.pre
  have hts : ∀ w ∈ xT, w.before #[.ref (lay 0), .ref o] s = true := fun w hw => hts0 w (List.mem_cons_of_mem _ hw)
  have hown : s.vm.findClass "ConfigTextsLaw" = some m.cls := findClass_of_methodNamed B.named
  have hlk := B.notSynchronized
  have hS : va_S (fun x => xI lay x ∨ x = o) s.heap s.heap [] := va_S.rf
  obtain ⟨ent, hent, hcov, hct, hhp⟩ : ∃ ent : ExceptionTableEntry, c.exceptionTable.toList = [ent] ∧ covers ent 3 = true ∧ ent.catchType = 13 ∧ ent.handlerPc = 11 := by
    cases hl9 : c.exceptionTable.toList with
    | nil => rw [hl9] at htab; simp at htab
    | cons a r =>
      rw [hl9] at htab
      cases r with
      | cons _ _ => simp at htab
      | nil =>
        simp at htab
        obtain ⟨h1, h2, h3, h4⟩ := htab
        exact ⟨a, rfl, by simp [covers, h1, h2], h4, h3⟩
  have hl := lv_entry ([.ref (lay 0), .ref o]) (n := 3) (Nat.le_of_ble_eq_true rfl)
  rw [lg_entry_eq]
  generalize (lg_sl ([.ref (lay 0), .ref o]) ++ List.replicate (3 - (lg_sl ([.ref (lay 0), .ref o])).length) Slot.unset).toArray = ls at hl ⊢
  have hoh : o < s.heap.size := hO.lt
  refine lv_aload_n hx hb d_LA_load_0 rfl (lv_at hl 1 rfl) ?_
  refine lv_iconst (v := (0 : Int32)) hx hb d_LA_load_1 (by decide) ?_
  refine lv_aload_n hx hb d_LA_load_2 rfl (lv_at hl 0 rfl) ?_
  refine xgo (A0 := fun x => xI lay x ∨ x = o) (xrunV (As := []) (rest := [.int 0, .ref o]) ⟨hx, hb, hml, hown, hts⟩ (c_CT_load l hq D lay cA adK adV s0 S q h) (cwV 0 hts (xT_V wd_265 wd_266 wd_267 wd_1 wd_268) rfl rfl rfl (by decide +kernel) ⟨Nat.le_of_ble_eq_true rfl, Nat.le_of_ble_eq_true rfl⟩) (xpV E hP va_S.rf (by decide) (xc_0 _ _ _ _) rfl) rfl rfl hl.1 rfl (lv_room (Nat.le_of_ble_eq_true rfl)) d_LA_load_3 ⟨Nat.le_of_ble_eq_true rfl, Nat.le_of_ble_eq_true rfl⟩) hS (fun _ h9 => Or.inl h9) (fun st v t h9 => ⟨h9.2.1, fun z h1 h2 => h9.2.2 z h1 (fun h3 => h2 (Or.inl h3))⟩) (fun st v t h9 => ⟨h9.2.1, fun z h1 h2 => h9.2.2 z h1 (fun h3 => h2 (Or.inl h3))⟩) ?_ ?_
  · intro v st t H1 locs1 h0 ht _ hQ hS
    obtain ⟨⟨r, S', e1, rfl, hP1⟩, hF⟩ := hQ
    subst ht
    have hO1 : va_at D xcl (o, .inl (cA 1, 1, .inr (.inl g))) t.heap := hO.kept (by rw [hF.2 o (by rw [h0]; exact hoh) ho, h0])
    refine lv_i2l (v := r.toInt64) (pc := 6) hx hb d_LA_load_6 rfl ?_
    refine va_last (D := D) (cl := xcl) (tys := xtys cA) (ws := xw lay cA S' ++ [(o, .inl (cA 1, 1, .inr (.inl g)))]) (pc := 7) hx hb E.K (lout hP1 hO1) (loutD E.inj ho) hS 180 1 (by rw [List.getElem?_append_right (by rw [lwlen]; exact Nat.le_refl _), lwlen]; rfl) rfl (by unfold vp_in; decide) d_LA_load_7 (fun H2 locs2 hP2 _ hS2 => ?_)
    have hset : (xw lay cA S' ++ [(o, Sum.inl (cA 1, 1, Sum.inr (Sum.inl g)))]).set 180 (o, .inl (cA 1, 1, .inr (.inl (vp_updL g (0 : Int32).toNatClampNeg r.toInt64)))) = xw lay cA S' ++ [(o, .inl (cA 1, 1, .inr (.inl (vp_updL g 0 r.toInt64))))] := by
      rw [List.set_append_right _ _ (by rw [lwlen]; exact Nat.le_refl _), lwlen]
      rfl
    rw [hset] at hP2
    refine lv_goto (tgt := 14) (pc := 8) hx hb d_LA_load_8 (by decide) ?_
    refine lv_iconst (v := (0 : Int32)) hx hb d_LA_load_14 (by decide) ?_
    refine W.widen (k := 1) (n := 6) (by decide) (by decide) ?_
    refine W.iret (v := (0 : Int32)) hx hb hr (fun t9 ht9 hW => ⟨⟨S', vp_updL g 0 r.toInt64, Or.inl ⟨r, e1, rfl, rfl⟩, ?_, ?_⟩, hS2.F ht9⟩) hS2.2.2 d_LA_load_15
    · rw [ht9]
      intro k z hk
      exact hP2 k z (by rw [List.getElem?_append_left (List.getElem?_eq_some_iff.mp hk).1]; exact hk)
    · rw [ht9]
      exact hP2 180 _ (by rw [List.getElem?_append_right (by rw [lwlen]; exact Nat.le_refl _), lwlen]; rfl)
  · intro x st t H1 locs1 h0 ht ha hQ hS
    obtain ⟨⟨S', e1, hP1, ce, hce1, hce2, hce3⟩, hF⟩ := hQ
    subst ht
    have hO1 : va_at D xcl (o, .inl (cA 1, 1, .inr (.inl g))) t.heap := hO.kept (by rw [hF.2 o (by rw [h0]; exact hoh) ho, h0])
    refine xcatch (E := "java/lang/IllegalArgumentException") (name := "java/lang/IllegalArgumentException") hown hent hcov (by rw [hct]; decide) (by rw [hct]; exact hts _ wd_264) (E.thr _ (.castable "java/lang/IllegalArgumentException" "java/lang/IllegalArgumentException") (by decide +kernel)) hce1 hce2 (by rw [← ha.findClass]; exact hce3) ?_
    rw [hhp]
    refine lv_astore_n (lv' := [(2, .ref x), (0, .ref (lay 0)), (1, .ref o)]) hx hb d_LA_load_11 rfl hl (by decide) rfl (fun ls hl => ?_)
    refine lv_iconst (v := (1 : Int32)) hx hb d_LA_load_12 (by decide) ?_
    exact W.iret (v := (1 : Int32)) hx hb hr (fun t9 ht9 hW => ⟨⟨S', g, Or.inr ⟨e1, rfl, rfl⟩, by rw [ht9]; exact hP1, by rw [ht9]; exact hO1⟩, hS.F ht9⟩) hS.2.2 d_LA_load_13
