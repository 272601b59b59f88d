/-! WALKS THAT MAY THROW: a contract with two ends (returned, threw), each with its own count of cells and slots; calls of such methods; worlds by index. -/
section XB
variable {p : Program} {l : Launch} {e : Env} {R : Room} {s : State} {m : MethodId} {args : Array Value} {below : List Frame} {meth : Method} {c : Code} {H : Heap} {locs : List Loc} {cells slots : Nat} {Q : State → Prop}
/-- what a contract with two ends says of an end -/
def xQ (Qr : State → Option Value → State → Prop) (Qt : State → Addr → State → Prop) (mc ms tc ts : Nat) (free : Addr → Prop) (st : State) (o : Outcome) (t : State) : Prop :=
  st.WarmedH t.vm ∧ ((∃ v, o = .returned v ∧ Qr st v t ∧ ∃ L, st.sameButNew ({ t with vm := st.vm } : State) L mc ms ∧ ∀ q ∈ L, free q.base) ∨
    (∃ x, o = .threw x ∧ Qt st x t ∧ ∃ L, st.sameButNew ({ t with vm := st.vm } : State) L tc ts ∧ ∀ q ∈ L, free q.base))
/-- a contract with two ends -/
def MetX (l : Launch) (y : MethodName) (ws : List Cond) (rm : Room) (Pc : Array Value → State → Prop) (Qr : State → Option Value → State → Prop) (Qt : State → Addr → State → Prop) (mc ms tc ts : Nat) (free : Addr → Prop) : Prop :=
  MetFree l y (headSpec ws rm) Pc (fun _ _ _ _ _ => True) (fun _ st o t => xQ Qr Qt mc ms tc ts free st o t)
/-- where a walk of such a method must come -/
def XF (below : List Frame) (Qr : State → Option Value → State → Prop) (Qt : State → Addr → State → Prop) (s : State) (mc ms tc ts : Nat) (free : Addr → Prop) : State → Prop := fun t =>
  ∃ o, t.status = .running ∧ Ended t below o ∧ xQ Qr Qt mc ms tc ts free s o t
theorem MetX.ofW {y : MethodName} {ws ws' : List Cond} {rm : Room} {Pc : Array Value → State → Prop} {Qr : State → Option Value → State → Prop} {Qt : State → Addr → State → Prop} {mc ms tc ts : Nat} {free : Addr → Prop} {cc : ByteArray} {maxL : Nat} {ret : Option FieldType}
    (hy : plainName y.cls = true) (hw : ws = Cond.code y cc maxL ret :: ws')
    (body : ∀ p e s m args below meth c s₁, BodyLoose p l y (headSpec ws rm) cc maxL ret e s m args below meth c s₁ → c.maxLocals = maxL → Pc args s →
      W p l e (headSpec ws rm).room s m args below meth c s.heap [] 0 0 (XF below Qr Qt s mc ms tc ts free) (entryFrame m args maxL)) : MetX l y ws rm Pc Qr Qt mc ms tc ts free := by
  refine MetFree.of_bodyS (code := cc) (maxLocals := maxL) (ret := ret) hy ?_ ?_
  · intro args s m h hn
    obtain ⟨meth, c, h1, h2, h3, h4, h5, h6, -, -⟩ := Cond.code_spec hn (atoms_spec (ws := ws) h _ (by rw [hw]; exact List.mem_cons_self))
    exact ⟨meth, c, h1, h2, h3, h4, h5, h6⟩
  · intro p e s m args below meth c s₁ B hml hP _
    have hh0 : s₁.heap = s.heap := by rw [B.state]; rfl
    obtain ⟨t, a1, o, b1, b2, b3⟩ := body p e s m args below meth c s₁ B hml hP s₁ hh0 (Stand.of_body B)
    exact ⟨t, o, a1, b1, b2, b3⟩
theorem W.mono {Q' : State → Prop} {g : JFrame} (h : ∀ t, Q t → Q' t) (k : W p l e R s m args below meth c H locs cells slots Q g) : W p l e R s m args below meth c H locs cells slots Q' g := by
  intro T hT X
  obtain ⟨t, a, b⟩ := k T hT X
  exact ⟨t, a, h t b⟩
/-- a return row of the kit ends such a walk -/
theorem xret {Qr : State → Option Value → State → Prop} {Qt : State → Addr → State → Prop} {mc ms tc ts : Nat} {free : Addr → Prop} {g : JFrame}
    (k : W p l e R s m args below meth c H locs cells slots (MQ below (fun _ st o t => ∃ v, o = .returned v ∧ Qr st v t) args s mc ms free) g) : W p l e R s m args below meth c H locs cells slots (XF below Qr Qt s mc ms tc ts free) g := by
  refine W.mono ?_ k
  rintro t ⟨o, h1, h2, ⟨v, rfl, hq⟩, L, ⟨-, hW, hs⟩, hL⟩
  exact ⟨_, h1, h2, hW, Or.inl ⟨v, rfl, hq, L, hs, hL⟩⟩
/-- the walk with an exception in hand over the frame g -/
def WT (p : Program) (l : Launch) (e : Env) (R : Room) (s : State) (m : MethodId) (args : Array Value) (below : List Frame) (meth : Method) (c : Code) (H : Heap) (locs : List Loc) (cells slots : Nat) (Q : State → Prop) (g : JFrame) (x : Addr) : Prop :=
  ∀ T : State, T.heap = H → Stand p l e R s m args below meth c T locs cells slots → ∃ t, Steps p.tables e below ((T.setTop g).pushFrame (.throwing x)) t ∧ Q t
/-- no handler: the exception leaves -/
theorem xleave {Qr : State → Option Value → State → Prop} {Qt : State → Addr → State → Prop} {mc ms : Nat} {free : Addr → Prop} {pc : Nat} {ls : Array Slot} {st : List Value} {x : Addr}
    (hnh : c.exceptionTable.isEmpty = true) (hlocks : meth.locks = false) (hq : ∀ t : State, t.heap = H → s.WarmedH t.vm → Qt s x t) (hf : ∀ q ∈ locs, free q.base) :
    WT p l e R s m args below meth c H locs cells slots (XF below Qr Qt s mc ms cells slots free) (F0 m pc ls st) x := by
  intro T hT X
  have hout : ∀ y ∈ c.exceptionTable.toList, covers y (F0 m pc ls st).pc = false := by
    intro y hy
    have h0 : c.exceptionTable = #[] := by simpa using hnh
    rw [h0] at hy
    simp at hy
  obtain ⟨h1, h2, h3, h4, h5⟩ := X.leaveThrown x (g := F0 m pc ls st) rfl rfl rfl hout hlocks
  exact ⟨_, h1, _, h2, h3, h4, Or.inr ⟨x, rfl, hq _ hT h4, locs, h5, hf⟩⟩
theorem xcore {y : MethodName} {ws : List Cond} {rm : Room} {Pc : Array Value → State → Prop} {Qf : Array Value → State → Outcome → State → Prop} {bytes : ByteArray} {maxL Wd : Nat} {ret : Option FieldType} {T : State}
    (hM : MetFree l y (headSpec ws rm) Pc (fun _ _ _ _ _ => True) Qf) (hfr : rm.frames + 1 ≤ R.frames) (hlo : Wd + (maxL + 11) + rm.locals ≤ R.locals) (hce : cells + rm.cells ≤ R.cells) (hsl : slots + rm.slots ≤ R.slots)
    (X : Stand p l e R s m args below meth c T locs cells slots) {g : JFrame} (hg : g.method = m) (hsize : g.locals.size = c.maxLocals) {ig : Instr} {len : Nat} (hdg : decode c.code g.pc = .ok (ig, len))
    (hW : 2 * g.monitorRoom + (g.stack.map fun v => v.category).sum ≤ Wd) {mk : MethodId} (hn : T.methodNamed? y = some mk) (a : Array Value)
    (hws : ∀ w ∈ ws, w.before a T = true) (hcode : (Cond.code y bytes maxL ret).before a T = true) (hini : (Cond.initialized y.cls).before a T = true) (hP : Pc a (T.calling g mk a)) :
    ∃ o t, Steps p.tables e below (doInvoke e (T.setTop g) [] mk a).1 t ∧ Ended t (.java g :: below) o ∧ Qf a (T.calling g mk a) o t := by
  obtain ⟨methY, cY, hmY, hcY, -, hlY, -, -, -, -⟩ := Cond.code_spec hn hcode
  obtain ⟨kY, hkY, -⟩ := className_of_methodNamed hn
  have hinitY : kY.init = .initialized := Cond.initialized_spec (findClass_of_methodNamed hn) hkY hini
  have h : At T g.method c below := by rw [hg]; exact X.here
  have happ : (headSpec ws rm).appliesLoose y e.platform (T.calling g mk a) = true :=
    Spec.appliesLoose_calling (g := g) h hdg hn hkY hinitY
      (X.room_calling (g := g) (R' := (headSpec ws rm).room) hsize hmY hcY hfr (by rw [hlY]; show _ + _ + rm.locals ≤ _; omega) hce hsl) (atoms_intro hws)
  obtain ⟨mid, hmid⟩ := h.above
  have hfr' : (T.setTop g).frames = (.java g :: mid) ++ below := by rw [State.frames_setTop' g h.top, hmid]; rfl
  obtain ⟨o, s₂, hsteps, -, hend, hq⟩ := Steps.callFree hM p X.admits X.cas X.clock (acts := []) hfr' happ hP trivial
  rw [State.frames_setTop' g h.top, X.tail] at hend
  exact ⟨o, s₂, hsteps, hend, hq⟩
/-- a call with two ends -/
def xRun (p : Program) (l : Launch) (e : Env) (R : Room) (s : State) (m : MethodId) (args : Array Value) (below : List Frame) (meth : Method) (c : Code) (H : Heap) (locs : List Loc) (cells slots mc ms tc ts : Nat) (g : JFrame) (rest : List Value) (Qr : State → Option Value → State → Prop) (Qt : State → Addr → State → Prop) (free : Addr → Prop) : Prop :=
  ∀ T : State, T.heap = H → Stand p l e R s m args below meth c T locs cells slots →
    (∃ (v : Option Value) (st₀ t T' : State) (L : List Loc), st₀.heap = H ∧ Stand p l e R s m args below meth c T' (locs ++ L) (cells + mc) (slots + ms) ∧ (∀ q ∈ L, free q.base) ∧ T'.heap = t.heap ∧ s.vm.Alike t.vm ∧ Qr st₀ v t ∧
      Goes p e below T g T' { g with pc := g.pc + 3, stack := v.toList ++ rest }) ∨
    (∃ (x : Addr) (st₀ t T' : State) (L : List Loc), st₀.heap = H ∧ Stand p l e R s m args below meth c T' (locs ++ L) (cells + tc) (slots + ts) ∧ (∀ q ∈ L, free q.base) ∧ T'.heap = t.heap ∧ s.vm.Alike t.vm ∧ Qt st₀ x t ∧
      ∀ target, Steps p.tables e below ((T'.setTop { g with stack := rest }).pushFrame (.throwing x)) target → Steps p.tables e below (T.setTop g) target)
theorem xheap (T : State) (g : JFrame) : (T.setTop g).heap = T.heap := by
  simp [State.setFrames, State.setTop, State.modifyTopJava]
theorem xrunV {y : MethodName} {bytes cc : ByteArray} {maxL nL mc ms tc ts kc ks n index : Nat} {ret : Option FieldType} {ws : List Cond} {rm : Room} {Pc : Array Value → State → Prop} {Qr : State → Option Value → State → Prop} {Qt : State → Addr → State → Prop} {free : Addr → Prop} {Ts : List Cond} {own C : String} {b : Addr} {As rest : List Value} {g : JFrame}
    (S : CallFix p m c cc nL s args Ts own) (hM : MetX l y ws rm Pc Qr Qt mc ms tc ts free) (cw : CallW R s args own C index y bytes maxL ret ws rm kc ks n) (hp : PreV s H C b Pc As)
    (hg : g.method = m) (hn : As.length = n) (hsize : g.locals.size = nL) (hstack : g.stack = As.reverse ++ .ref b :: rest) (hW : 2 * g.monitorRoom + (rest.map fun v => v.category).sum ≤ 8) (hdg : decode cc g.pc = .ok (.invokevirtual index, 3)) (hf : cells + kc ≤ R.cells ∧ slots + ks ≤ R.slots) :
    xRun p l e R s m args below meth c H locs cells slots mc ms tc ts g rest Qr Qt free := by
  obtain ⟨⟨hrc, hrs, hfr, hlo, hws, hcw, hcode, hini, hy, hlen, hl⟩, hinst, hsel⟩ := cw
  obtain ⟨hx, hb, hml, ho, -⟩ := S
  obtain ⟨hbl, ⟨cellB, hcB, hoB, hclB⟩, hPc⟩ := hp
  intro T hT X
  obtain ⟨mk, methM, hnamed, hmethM, hstM, habM⟩ := Cond.instanceMethod_spec hinst
  obtain ⟨methM', cM, hmethM', -, -, -, -, -, -, hsigM⟩ := Cond.code_spec hnamed hcode
  cases hmethM.symm.trans hmethM'
  obtain ⟨c2, r2, m2, q1, q2, q3, q4, kP, hkP, hkPi⟩ := Cond.selects_spec hsel
  cases hclB.symm.trans q1
  cases (State.methodFound?_of_named hnamed hy).symm.trans q2
  cases hnamed.symm.trans q3
  have hselP : selectMethod e.platform s.vm cellB.cls mk = .method mk := by rw [Launch.admits_selectMethod X.admits]; exact q4
  have hdg' : decode c.code g.pc = .ok (.invokevirtual index, 3) := by rw [hb]; exact hdg
  obtain ⟨vm₁, X₁, hstep₁⟩ := X.invokevirtual hx ho hl hnamed hmethM hstM hkP hkPi hy (a := b) (cell := cellB) (by rw [hT]; exact hcB)
    (fun z h => by rw [h] at hoB; cases hoB) hselP hmethM habM hkP hkPi (g := g) hg (argsL := As) (rest := rest) (hn.trans (hlen _ hsigM)) hstack hdg'
  obtain ⟨o, t, hst, hend, hWt, hq⟩ := xcore (Wd := 8) (bytes := bytes) (maxL := maxL) (ret := ret) hM hfr hlo (by rw [hrc]; exact hf.1) (by rw [hrs]; exact hf.2) X₁ (g := { g with stack := rest }) hg (hsize.trans hml.symm) hdg' hW (X₁.named hnamed) (Value.ref b :: As).toArray
    (fun w hw => hws w hw _ _ X₁.warmed) (hws _ hcw _ _ X₁.warmed) (word_at X₁.warmed (Or.inl (by first | rfl | simp [Cond.onTables, Cond.keeps, Cond.steady])) hini) (hbl _ _ _ _ (hPc (T.setVm vm₁) hT X₁.warmed))
  rcases hq with ⟨v, rfl, hqr, L, hsame, hL⟩ | ⟨x, rfl, hqt, L, hsame, hL⟩
  · obtain ⟨T', X', hW', hsb, ht⟩ := X₁.outOf (g := { g with stack := rest }) hg hdg' hend hWt hsame
    refine Or.inl ⟨v, (T.setVm vm₁).calling { g with stack := rest } mk (Value.ref b :: As).toArray, t, T', L, hT, X', hL, ?_, ?_, hqr, fun target h => hstep₁ _ fun acts => by rw [doInvoke_state]; exact hst.trans (by rw [ht]; exact h)⟩
    · rw [ht, xheap]
    · exact X₁.warmed.alike.trans hWt.alike
  · obtain ⟨T', X', hW', hsb, ht⟩ := X₁.outOfThrown (g := { g with stack := rest }) hg hend hWt hsame
    refine Or.inr ⟨x, (T.setVm vm₁).calling { g with stack := rest } mk (Value.ref b :: As).toArray, t, T', L, hT, X', hL, ?_, ?_, hqt, fun target h => hstep₁ _ fun acts => by rw [doInvoke_state]; exact hst.trans (by rw [ht]; exact h)⟩
    · rw [ht, Stand.throwing_heap]
    · exact X₁.warmed.alike.trans hWt.alike
/-- behind such a call -/
theorem xgo {A0 : Nat → Prop} {H0 : Heap} {mc ms tc ts pc : Nat} {ls : Array Slot} {rest st0 : List Value} {Qr : State → Option Value → State → Prop} {Qt : State → Addr → State → Prop} {free : Addr → Prop}
    (hr : xRun p l e R s m args below meth c H locs cells slots mc ms tc ts (F0 m pc ls st0) rest Qr Qt free) (hS : va_S A0 H0 H locs) (hfree : ∀ q, free q → A0 q)
    (hFr : ∀ st v t, Qr st v t → va_F A0 st t) (hFt : ∀ st x t, Qt st x t → va_F A0 st t)
    (kr : ∀ (v : Option Value) (st t : State) (H1 : Heap) (locs1 : List Loc), st.heap = H → t.heap = H1 → s.vm.Alike t.vm → Qr st v t → va_S A0 H0 H1 locs1 → W p l e R s m args below meth c H1 locs1 (cells + mc) (slots + ms) Q (F0 m (pc + 3) ls (v.toList ++ rest)))
    (kt : ∀ (x : Addr) (st t : State) (H1 : Heap) (locs1 : List Loc), st.heap = H → t.heap = H1 → s.vm.Alike t.vm → Qt st x t → va_S A0 H0 H1 locs1 → WT p l e R s m args below meth c H1 locs1 (cells + tc) (slots + ts) Q (F0 m pc ls rest) x) :
    W p l e R s m args below meth c H locs cells slots Q (F0 m pc ls st0) := by
  intro T hT X
  have move : ∀ {st t : State} {L : List Loc}, st.heap = H → va_F A0 st t → (∀ q ∈ L, free q.base) → va_S A0 H0 t.heap (locs ++ L) := by
    intro st t L h0 hF hL
    obtain ⟨hz, hk⟩ := hF
    rw [h0] at hz hk
    refine ⟨Nat.le_trans hS.1 hz, fun q h1 h2 => ?_, fun q hq => ?_⟩
    · rw [hk q (Nat.lt_of_lt_of_le h1 hS.1) h2]
      exact hS.2.1 q h1 h2
    · rcases List.mem_append.mp hq with h | h
      · exact hS.2.2 q h
      · exact hfree _ (hL q h)
  rcases hr T hT X with ⟨v, st₀, t, T', L, h0, X', hL, e1, e2, hq, st⟩ | ⟨x, st₀, t, T', L, h0, X', hL, e1, e2, hq, st⟩
  · obtain ⟨t2, a1, b1⟩ := kr v st₀ t t.heap (locs ++ L) h0 rfl e2 hq (move h0 (hFr _ _ _ hq) hL) T' e1 X'
    exact ⟨t2, st t2 a1, b1⟩
  · obtain ⟨t2, a1, b1⟩ := kt x st₀ t t.heap (locs ++ L) h0 rfl e2 hq (move h0 (hFt _ _ _ hq) hL) T' e1 X'
    exact ⟨t2, st t2 a1, b1⟩
end XB
/-! worlds by index -/
def xW (n : Nat) (lay : Nat → Nat) (f : Nat → va_E) : va_W := (List.range n).map fun i => (lay i, f i)
theorem xW_at {n : Nat} {lay : Nat → Nat} {f : Nat → va_E} {i : Nat} {e : va_E} (h : i < n) (he : f i = e) : (xW n lay f)[i]? = some (lay i, e) := by
  simp [xW, h, he]
theorem xW_set {n : Nat} {lay : Nat → Nat} {f g : Nat → va_E} {i : Nat} {e : va_E} (hi : g i = e) (ho : ∀ j, j ≠ i → g j = f j) : (xW n lay f).set i (lay i, e) = xW n lay g := by
  apply List.ext_getElem?
  intro k
  by_cases hk : k = i
  · subst hk
    by_cases hn : k < n
    · rw [List.getElem?_set_self (by simp [xW, hn])]
      simp [xW, hn, hi]
    · rw [List.getElem?_eq_none (by simp [xW]; omega), List.getElem?_eq_none (by simp [xW]; omega)]
  · rw [List.getElem?_set_ne (Ne.symm hk)]
    by_cases hn : k < n
    · simp [xW, hn, ho k hk]
    · rw [List.getElem?_eq_none (by simp [xW]; omega), List.getElem?_eq_none (by simp [xW]; omega)]
def xIn (n : Nat) (lay : Nat → Nat) : Nat → Prop := fun q => ∃ i, i < n ∧ q = lay i
def xInj (n : Nat) (lay : Nat → Nat) : Prop := ∀ i j, i < n → j < n → lay i = lay j → i = j
theorem xW_get {n : Nat} {lay : Nat → Nat} {f : Nat → va_E} {k : Nat} {q : Nat × va_E} (h : (xW n lay f)[k]? = some q) : k < n ∧ q = (lay k, f k) := by
  have hk : k < (xW n lay f).length := (List.getElem?_eq_some_iff.mp h).1
  have hn : k < n := by simpa [xW] using hk
  rw [xW_at hn rfl] at h
  exact ⟨hn, (Option.some.inj h).symm⟩
theorem xW_D {n : Nat} {lay : Nat → Nat} {f : Nat → va_E} (h : xInj n lay) : va_D (xIn n lay) (xW n lay f) := by
  refine ⟨fun i j p q hi hj hpq => ?_, fun k q hk => ?_⟩
  · obtain ⟨h1, rfl⟩ := xW_get hi
    obtain ⟨h2, rfl⟩ := xW_get hj
    exact h i j h1 h2 hpq
  · obtain ⟨h1, rfl⟩ := xW_get hk
    exact ⟨k, h1, rfl⟩
/-! Option's rows, for pure words that may be stuck -/
theorem xg {α : Type} {c : Prop} [Decidable c] {a : Option α} {r : α} (h : (if c then a else none) = some r) : c ∧ a = some r := by
  by_cases hc : c
  · rw [if_pos hc] at h; exact ⟨hc, h⟩
  · rw [if_neg hc] at h; cases h
theorem xb {α β : Type} {a : Option α} {f : α → Option β} {r : β} (h : a.bind f = some r) : ∃ x, a = some x ∧ f x = some r := by
  cases a with
  | none => cases h
  | some x => exact ⟨x, rfl, h⟩
def up2 {α : Type} (z : Nat → Nat → α) (i j : Nat) (v : α) : Nat → Nat → α := fun a b => if a = i ∧ b = j then v else z a b
theorem up2_self {α : Type} (z : Nat → Nat → α) (i j : Nat) (v : α) : up2 z i j v i j = v := by simp [up2]
theorem up2_row {α : Type} (z : Nat → Nat → α) {i a : Nat} (j : Nat) (v : α) (h : a ≠ i) : up2 z i j v a = z a := by funext b; simp [up2, h]
theorem up2_col {α : Type} (z : Nat → Nat → α) (i : Nat) {j b : Nat} (v : α) (h : b ≠ j) : up2 z i j v i b = z i b := by simp [up2, h]
theorem up2_in {α : Type} (z : Nat → Nat → α) (i j : Nat) (v : α) : up2 z i j v i = fun b => if b = j then v else z i b := by funext b; simp [up2]
