/-! a walk begun anew where it stands: its writes so far are old cells then; and the throw of Words.fail -/
theorem xbase {p : Program} {l : Launch} {e : Env} {R R' : Room} {s : State} {m : MethodId} {args : Array Value} {below : List Frame} {meth : Method} {c : Code} {T : State} {locs : List Loc} {cells slots : Nat}
    (X : Stand p l e R s m args below meth c T locs cells slots) (h1 : R'.frames ≤ R.frames) (h2 : R'.locals ≤ R.locals) (h3 : cells + R'.cells ≤ R.cells) (h4 : slots + R'.slots ≤ R.slots) :
    Stand p l e R' (T.setFrames (.invoking m args :: below)) m args below meth c T [] 0 0 := by
  obtain ⟨g₀, hfr⟩ := X.frames_eq
  have hcur : T.cur < T.threads.size := State.cur_lt_of_frames hfr
  obtain ⟨th, hth, -⟩ := State.frames_cons hfr
  have hF : (T.setFrames (.invoking m args :: below)).frames = .invoking m args :: below := State.frames_setFrames _ hcur
  have hlim : e.platform.stackLimits (T.setFrames (.invoking m args :: below)).me = e.platform.stackLimits s.me := by rw [State.stackLimits_setFrames]; exact X.limits
  have hbyt : (T.setFrames (.invoking m args :: below)).me.stackBytes = s.me.stackBytes := by rw [State.stackBytes_setFrames]; exact X.bytes
  have hloc : (T.setFrames (.invoking m args :: below)).localsInUse = s.localsInUse := by
    rw [State.localsInUse_invoking hF (show (T.setFrames (.invoking m args :: below)).vm.method? m = some meth from X.method') X.code, State.localsInUse_invoking X.frames X.method X.code]
  have hbook := X.book
  have hhs := X.heapSize
  have hus := X.used
  refine ⟨X.admits, X.cas, X.clock, hF, ?_, ?_, X.method', X.code, X.here, X.tail, State.WarmedH.refl (T.setFrames (.invoking m args :: below)), by rw [State.stackLimits_setFrames], by rw [State.stackBytes_setFrames], ?_⟩
  · have hr := X.room
    simp only [State.hasRoom, Bool.and_eq_true, decide_eq_true_eq] at hr ⊢
    obtain ⟨⟨⟨⟨r1, r2, r3, r4, r5, r6⟩, r7⟩, r8⟩, r9⟩ := hr
    rw [hloc, hlim, hbyt, hF]
    rw [X.frames] at r2 r3
    have e1 : (T.setFrames (.invoking m args :: below)).heap = T.heap := rfl
    have e2 : (T.setFrames (.invoking m args :: below)).slotsUsed = T.slotsUsed := rfl
    rw [e1, e2]
    refine ⟨⟨⟨⟨by omega, by omega, by omega, by omega, by omega, r6⟩, by omega⟩, by omega⟩, ?_⟩
    have e3 : (T.setFrames (.invoking m args :: below)).slotsTrue = T.slotsTrue := rfl
    rw [e3]
    exact hbook
  · have hh := X.hears
    have key : ∀ g : JFrame, (T.setFrames (.invoking m args :: below)).code? g.method = s.code? g.method := fun g => by
      rw [State.code?_eq, State.code?_eq]
      show (T.vm.method? g.method).bind _ = _
      rw [X.warmed.alike.method?]
    have key2 : (T.setFrames (.invoking m args :: below)).vm.method? m = s.vm.method? m := X.warmed.alike.method? m
    cases below with
    | nil => simp only [State.hears, key2] at hh ⊢; exact hh
    | cons f r => cases f <;> simp only [State.hears, key, key2] at hh ⊢ <;> exact hh
  · have hth' : (T.setFrames (.invoking m args :: below)).cur < (T.setFrames (.invoking m args :: below)).threads.size := State.cur_lt_of_frames hF
    obtain ⟨t2, ht2, -⟩ := State.frames_cons hF
    have h := (State.sameButNew.refl (T.setFrames (.invoking m args :: below)) ht2).setFrames T.frames hth'
    rw [State.setFrames_setFrames, State.setFrames_self hth] at h
    exact h
theorem xthr_rest : xthrown.filter (fun w => !(w.onTables && w.keepsFace)) = [.laysStatic "java/lang/Throwable" "UNASSIGNED_STACK" "[Ljava/lang/StackTraceElement;", .laysStatic "java/lang/Throwable" "SUPPRESSED_SENTINEL" "Ljava/util/List;", .isRef (.static "java/lang/Throwable" "UNASSIGNED_STACK" "[Ljava/lang/StackTraceElement;"), .isRef (.static "java/lang/Throwable" "SUPPRESSED_SENTINEL" "Ljava/util/List;")] := by decide +kernel
theorem xlays {s0 U : State} {O f d : String} (hvm : s0.vm.Alike U.vm) (hh : ∀ q : Nat, q < s0.heap.size → U.heap[q]? = s0.heap[q]?) (h : (Cond.laysStatic O f d).before #[] s0 = true) (args : Array Value) : (Cond.laysStatic O f d).before args U = true := by
  obtain ⟨c, k, i, fd, a, cell, hc, hi, hst, ha, hcell, hs, hcls, hlt, hty⟩ := Cond.laysStatic_spec h
  obtain ⟨k', hi', hek⟩ := State.fieldFound?_setVm hvm hi
  exact Cond.laysStatic_of (s := U) (by rw [hvm.findClass]; exact hc) hi' hst (by rw [hek]; exact ha) (by rw [hh a (Array.getElem?_eq_some_iff.mp hcell).1]; exact hcell) hs hcls hlt (by rw [hek]; exact hty)
theorem xisref {U : State} {O f d : String} {A : Nat → Prop} (h : va_Zq O f d A U U.heap) (args : Array Value) : (Cond.isRef (.static O f d)).before args U = true := by
  rcases h with ⟨cf, kf, fi, fd, a, cell, h1, h2, h3, h4, h5, h6, h7, -⟩ | ⟨t, cf, kf, fi, fd, a, cell, h1, h2, h3, h4, h5, h6, h7, -⟩
  · simp [Cond.before, Cond.holds, Cond.value, Term.eval, State.fieldNamed?, h1, h2, h4, h5, h6, h7]
  · simp [Cond.before, Cond.holds, Cond.value, Term.eval, State.fieldNamed?, h1, h2, h4, h5, h6, h7]
theorem xE.thr {D : va_G} {lay : Nat → Nat} {cA : Nat → ClassId} {adK adV : Nat → Nat} {s0 s : State} (E : xE D lay cA adK adV s0 s s.heap) (args : Array Value) : ∀ w ∈ xthrown, w.before args s = true := by
  obtain ⟨F, hW, hh⟩ := E
  have ht := F.2.2.2.2.2.2.2.2
  intro w hw
  by_cases hg : (w.onTables && w.keepsFace) = true
  · simp only [Bool.and_eq_true] at hg
    have h1 := Cond.before_shiftedFace (State.Shifted.of_warmed hW) w hg.2 (ht w hw)
    rw [Cond.onTables_vm (A' := args) (U' := s) s.vm w hg.1, State.setVm_self] at h1
    exact h1
  · have hm : w ∈ xthrown.filter (fun w => !(w.onTables && w.keepsFace)) := List.mem_filter.mpr ⟨hw, by rw [Bool.not_eq_true] at hg; rw [hg]; rfl⟩
    have hini : (Cond.initialized "java/lang/Throwable").before #[] s0 = true := ht _ (by decide +kernel)
    rw [xthr_rest] at hm
    simp only [List.mem_cons, List.not_mem_nil, or_false] at hm
    have hA : ∀ a : Nat, a < s0.heap.size → ¬ (fun q => s0.heap.size ≤ q) a := fun a ha => Nat.not_le.mpr ha
    rcases hm with rfl | rfl | rfl | rfl
    · exact xlays hW.alike hh (ht _ hw) args
    · exact xlays hW.alike hh (ht _ hw) args
    · exact xisref ((va_Zq.moved hW.alike (va_Zqof (ht (.laysStatic "java/lang/Throwable" "UNASSIGNED_STACK" "[Ljava/lang/StackTraceElement;") (by decide +kernel)) hini (ht _ hw) hA)).kept (fun a ha _ => hh a ha)) args
    · exact xisref ((va_Zq.moved hW.alike (va_Zqof (ht (.laysStatic "java/lang/Throwable" "SUPPRESSED_SENTINEL" "Ljava/util/List;") (by decide +kernel)) hini (ht _ hw) hA)).kept (fun a ha _ => hh a ha)) args
/-- the throw: from 'new' on -/
theorem xthrow {p : Program} {l : Launch} {e : Env} {R : Room} {s : State} {m : MethodId} {args : Array Value} {below : List Frame} {meth : Method} {c : Code} {H : Heap} {locs : List Loc} {cc : ByteArray} {pc : Nat} {ls : Array Slot} {D : va_G} {lay : Nat → Nat} {cA : Nat → ClassId} {adK adV : Nat → Nat} {s0 : State} {S : XS} {Qr : State → Option Value → State → Prop} {ix il : Nat}
    (hq : l.stackTraces = false) (hx : p.tables.exec = Jvm.exec) (hb : c.code = cc) (hml : c.maxLocals = ls.size) (hown : s.vm.findClass "ConfigTexts$Words" = some m.cls) (hlk : meth.locks = false) (hnh : c.exceptionTable.isEmpty = true) (hts : ∀ w ∈ xT, w.before args s = true) (E : xE D lay cA adK adV s0 s s.heap) (hP : va_P D xcl (xw lay cA S) H) (hS : va_S (xI lay) s.heap H locs)
    (hlink : Cond.classLink "ConfigTexts$Words" ix "java/lang/IllegalArgumentException" ∈ xT) (hins : Cond.instantiable "java/lang/IllegalArgumentException" 6 ∈ xT) (hini : Cond.initialized "java/lang/IllegalArgumentException" ∈ xT) {tx : String} {k : Nat} (hlit : ("ConfigTexts$Words", il, tx, k) ∈ xlits)
    (hd0 : decode cc pc = .ok (.new ix, 3)) (hd3 : decode cc (pc + 3) = .ok (.dup, 1)) (hd4 : decode cc (pc + 4) = .ok (.ldc il, 2)) (hd6 : decode cc (pc + 6) = .ok (.invokespecial 47, 3)) (hd9 : decode cc (pc + 9) = .ok (.athrow, 1))
    (hRf : 6 ≤ R.frames) (hRl : 90 ≤ R.locals) (hRc : 1 ≤ R.cells) (hRs : 6 ≤ R.slots) :
    W p l e R s m args below meth c H locs 0 0 (XF below Qr (xrt D lay cA (Sum.inr S : (Unit × XS) ⊕ XS)) s 0 0 1 6 (xI lay)) (F0 m pc ls []) := by
  intro T hT X
  have X' := xbase (R' := R) X (Nat.le_refl _) (Nat.le_refl _) (by omega) (by omega)
  have hsv : (T.setFrames (.invoking m args :: below)).vm = T.vm := rfl
  have hsh : (T.setFrames (.invoking m args :: below)).heap = H := hT
  have hWs : s.WarmedH (T.setFrames (.invoking m args :: below)).vm := X.warmed
  have E' : xE D lay cA adK adV s0 (T.setFrames (.invoking m args :: below)) H := E.warm hS.2.1 hWs
  generalize hse : T.setFrames (.invoking m args :: below) = s' at X' hsv hsh hWs E'
  subst hsh
  have hown' : s'.vm.findClass "ConfigTexts$Words" = some m.cls := by rw [hWs.alike.findClass]; exact hown
  have hts' : ∀ w ∈ xT, w.before args s' = true := fun w hw => word_at hWs (xT_good w hw).2 (hts w hw)
  obtain ⟨cX, kX, hfc, hkX, -⟩ := Cond.instantiable_spec (hts' _ hins)
  have K : W p l e R s' m args below meth c s'.heap [] 0 0 (fun U => U.status = .running ∧ Ended U below (.threw s'.heap.size) ∧ s'.WarmedH U.vm ∧ s'.sameButNew ({ U with vm := s'.vm } : State) [] 1 6 ∧ ∃ ce, U.heap[s'.heap.size]? = some ce ∧ ce.vm = .none ∧ s'.vm.findClass "java/lang/IllegalArgumentException" = some ce.cls) (F0 m pc ls []) := by
    refine W.newcK hx hb hown' (hts' _ hlink) (hts' _ hins) (hts' _ hini) rfl hd0 (by omega) (by omega) hfc rfl (fun H1 kC hkC e1 z1 o1 => ?_)
    refine lv_dup (pc := pc + 3) hx hb hd3 rfl ?_
    refine va_ldcS (pc := pc + 4) hx hb hown' (E'.lit hlit) hd4 ?_
    intro T1 hT1 X1
    have hout : ∀ y ∈ c.exceptionTable.toList, covers y (pc + 6 + 3) = false := by
      intro y hy
      have h0 : c.exceptionTable = #[] := by simpa using hnh
      rw [h0] at hy
      simp at hy
    obtain ⟨U, u1, u2, u3, u4, u5, ce, u6, u7⟩ := X1.ctorThrowS hx (by rw [X1.admits.platform]; exact hq) hown' (cls := "java/lang/IllegalArgumentException") (names := ["java/lang/RuntimeException", "java/lang/Exception"]) (ic := 47) (by decide +kernel) (by decide +kernel) (E'.thr args) (fun x h => by cases h) (a := s'.heap.size) hfc hkC (by rw [hT1]; exact e1) (Nat.le_refl _) (msg := .ref (adK k)) rfl (g := F0 m (pc + 6) ls [.ref (adK k), .ref s'.heap.size, .ref s'.heap.size]) rfl hml.symm rfl rfl rfl (by rw [hb]; exact hd6) (by rw [hb]; exact hd9) hout (by show 2 + 3 < R.frames; omega) (by show 2 * 0 + 1 + (13 * 3 + 42) ≤ R.locals; omega) hlk
    exact ⟨U, u1, u2, u3, u4, u5, ce, u6, u7.vm, u7.cls⟩
  obtain ⟨U, k1, k2, k3, k4, k5, ce, k6, k7, k8⟩ := K T hT X'
  have hWU : s.WarmedH U.vm := State.WarmedH.trans hWs k4
  have hold : ∀ q : Nat, q < s'.heap.size → U.heap[q]? = s'.heap[q]? := by
    intro q hq9
    obtain ⟨c', g1, g2, g3, g4⟩ := k5.2.2.2.2.2 q s'.heap[q] (Array.getElem?_eq_getElem hq9)
    rw [Array.getElem?_eq_getElem hq9]
    refine Eq.trans g1 (congrArg some ?_)
    have hsl : c'.slots = s'.heap[q].slots := Array.ext_getElem? (fun i => g4 i (by simp))
    rw [g2, hsl]
  have hsame : s.sameButNew ({ U with vm := s.vm } : State) locs 1 6 := by
    have h5 := k5
    rw [← hse] at h5
    have h6 : T.sameButNew ({ U with vm := T.vm } : State) [] 1 6 := by
      obtain ⟨q1, q2, q3, q4, q5, q6⟩ := h5
      rw [State.setFrames_setFrames] at q1
      exact ⟨q1, q2, q3, q4, q5, q6⟩
    have h7 := X.same.trans (h6.setVm s.vm)
    rw [List.append_nil, Nat.zero_add, Nat.zero_add] at h7
    exact h7
  refine ⟨U, k1, .threw s'.heap.size, k2, k3, hWU, Or.inr ⟨_, rfl, ⟨⟨S, rfl, ?_, ce, k6, k7, ?_⟩, ?_⟩, locs, hsame, hS.2.2⟩⟩
  · exact hP.kept (fun k q hk => hold _ ((hP k q hk).lt))
  · rw [k4.alike.findClass]; exact k8
  · refine ⟨Nat.le_trans hS.1 k5.2.1, fun q h1 h2 => ?_⟩
    rw [hold q (Nat.lt_of_lt_of_le h1 hS.1)]
    exact hS.2.1 q h1 h2
