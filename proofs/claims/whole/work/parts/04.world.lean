/-! the class's world: 180 cells, numbered as they are made: 0 the object, 1 its text, 2 Words, 3 Configuration, 4 the row of partitions; partition k at 5 + 21 k, its actions, its row of Rows, six Rows with names and numbers each; 173 channels, 176 windows, 179 Reader. Its numbers: S.1 (int) and S.2 (long), by cell and place. -/
abbrev XS : Type := (Nat → Nat → Int32) × (Nat → Nat → Int64)
def xgi (S : XS) (i j : Nat) : Int32 := S.1 i j
def xgl (S : XS) (i j : Nat) : Int64 := S.2 i j
def xpi (S : XS) (i j : Nat) (v : Int32) : XS := (up2 S.1 i j v, S.2)
def xpl (S : XS) (i j : Nat) (v : Int64) : XS := (S.1, up2 S.2 i j v)
abbrev xP (i : Nat) : Prop := 5 ≤ i ∧ i < 173 ∧ (i - 5) % 21 = 0
abbrev xR (i : Nat) : Prop := i = 173 ∨ i = 176 ∨ (5 ≤ i ∧ i < 173 ∧ 3 ≤ (i - 5) % 21 ∧ (i - 5) % 21 % 3 = 0)
def xMost (i : Nat) : Nat := if i = 173 ∨ i = 176 then 16 else [8, 4, 4, 4, 4, 8].getD (((i - 5) % 21 - 3) / 3) 0
def xWid (i : Nat) : Nat := if i = 173 then 8 else if i = 176 then 2 else [5, 2, 0, 1, 0, 3].getD (((i - 5) % 21 - 3) / 3) 0
def xcell (lay : Nat → Nat) (cA : Nat → ClassId) (i : Nat) (z : Nat → Int32) (w : Nat → Int64) : va_E :=
  if i = 0 then .inr (5, [.ref (lay 1), .int (z 1), .ref (lay 2), .ref (lay 3), .ref (lay 179), .int (z 5)])
  else if i = 1 then .inl (cA 0, 2000, .inl z)
  else if i = 2 then .inr (4, [.ref (lay 1), .int (z 1), .int (z 2), .int (z 3), .int (z 4), .int (z 5), .long (w 6), .int (z 7), .int (z 8)])
  else if i = 3 then .inr (0, [.ref (lay 4), .int (z 1), .ref (lay 173), .ref (lay 176), .int (z 4), .int (z 5), .int (z 6)])
  else if i = 4 then .inl (cA 3, 8, .inr (.inr (.inr (.inr (fun j => some (lay (5 + 21 * j)))))))
  else if i = 179 then .inr (2, [.ref (lay 2), .ref (lay 3), .int (z 2), .int (z 3)])
  else if xP i then .inr (1, [.long (w 0), .int (z 1), .int (z 2), .ref (lay (i + 1)), .ref (lay (i + 2))])
  else if xP (i - 1) then .inl (cA 2, 4, .inl z)
  else if xP (i - 2) then .inl (cA 4, 6, .inr (.inr (.inr (.inr (fun j => some (lay (i + 1 + 3 * j)))))))
  else if xR i then .inr (3, [.int (z 0), .int (z 1), .ref (lay (i + 1)), .ref (lay (i + 2)), .int (z 4)])
  else if xR (i - 1) then .inl (cA 1, xMost (i - 1), .inr (.inl w))
  else .inl (cA 2, xMost (i - 2) * xWid (i - 2), .inl z)
theorem xc_0 (lay : Nat → Nat) (cA : Nat → ClassId) (z : Nat → Int32) (w : Nat → Int64) : xcell lay cA 0 z w = .inr (5, [.ref (lay 1), .int (z 1), .ref (lay 2), .ref (lay 3), .ref (lay 179), .int (z 5)]) := rfl
theorem xc_1 (lay : Nat → Nat) (cA : Nat → ClassId) (z : Nat → Int32) (w : Nat → Int64) : xcell lay cA 1 z w = .inl (cA 0, 2000, .inl z) := rfl
theorem xc_2 (lay : Nat → Nat) (cA : Nat → ClassId) (z : Nat → Int32) (w : Nat → Int64) : xcell lay cA 2 z w = .inr (4, [.ref (lay 1), .int (z 1), .int (z 2), .int (z 3), .int (z 4), .int (z 5), .long (w 6), .int (z 7), .int (z 8)]) := rfl
theorem xc_3 (lay : Nat → Nat) (cA : Nat → ClassId) (z : Nat → Int32) (w : Nat → Int64) : xcell lay cA 3 z w = .inr (0, [.ref (lay 4), .int (z 1), .ref (lay 173), .ref (lay 176), .int (z 4), .int (z 5), .int (z 6)]) := rfl
theorem xc_4 (lay : Nat → Nat) (cA : Nat → ClassId) (z : Nat → Int32) (w : Nat → Int64) : xcell lay cA 4 z w = .inl (cA 3, 8, .inr (.inr (.inr (.inr (fun j => some (lay (5 + 21 * j))))))) := rfl
theorem xc_179 (lay : Nat → Nat) (cA : Nat → ClassId) (z : Nat → Int32) (w : Nat → Int64) : xcell lay cA 179 z w = .inr (2, [.ref (lay 2), .ref (lay 3), .int (z 2), .int (z 3)]) := rfl
theorem xc_PA (lay : Nat → Nat) (cA : Nat → ClassId) (z : Nat → Int32) (w : Nat → Int64) {i : Nat} (h : xP i) : xcell lay cA i z w = .inr (1, [.long (w 0), .int (z 1), .int (z 2), .ref (lay (i + 1)), .ref (lay (i + 2))]) := by
  unfold xcell
  rw [if_neg (by omega), if_neg (by omega), if_neg (by omega), if_neg (by omega), if_neg (by omega), if_neg (by omega), if_pos h]
theorem xc_PAa (lay : Nat → Nat) (cA : Nat → ClassId) (z : Nat → Int32) (w : Nat → Int64) {i : Nat} (h : xP i) : xcell lay cA (i + 1) z w = .inl (cA 2, 4, .inl z) := by
  unfold xcell
  rw [if_neg (by omega), if_neg (by omega), if_neg (by omega), if_neg (by omega), if_neg (by omega), if_neg (by omega), if_neg (by omega), if_pos (by simpa using h)]
theorem xc_PAt (lay : Nat → Nat) (cA : Nat → ClassId) (z : Nat → Int32) (w : Nat → Int64) {i : Nat} (h : xP i) : xcell lay cA (i + 2) z w = .inl (cA 4, 6, .inr (.inr (.inr (.inr (fun j => some (lay (i + 2 + 1 + 3 * j))))))) := by
  unfold xcell
  rw [if_neg (by omega), if_neg (by omega), if_neg (by omega), if_neg (by omega), if_neg (by omega), if_neg (by omega), if_neg (by omega), if_neg (by omega), if_pos (by simpa using h)]
theorem xc_RO (lay : Nat → Nat) (cA : Nat → ClassId) (z : Nat → Int32) (w : Nat → Int64) {i : Nat} (h : xR i) : xcell lay cA i z w = .inr (3, [.int (z 0), .int (z 1), .ref (lay (i + 1)), .ref (lay (i + 2)), .int (z 4)]) := by
  unfold xcell
  rw [if_neg (by omega), if_neg (by omega), if_neg (by omega), if_neg (by omega), if_neg (by omega), if_neg (by omega), if_neg (by omega), if_neg (by omega), if_neg (by omega), if_pos h]
theorem xc_ROn (lay : Nat → Nat) (cA : Nat → ClassId) (z : Nat → Int32) (w : Nat → Int64) {i : Nat} (h : xR i) : xcell lay cA (i + 1) z w = .inl (cA 1, xMost i, .inr (.inl w)) := by
  unfold xcell
  rw [if_neg (by omega), if_neg (by omega), if_neg (by omega), if_neg (by omega), if_neg (by omega), if_neg (by omega), if_neg (by omega), if_neg (by omega), if_neg (by omega), if_neg (by omega), if_pos (by simpa using h)]
  rfl
theorem xc_ROu (lay : Nat → Nat) (cA : Nat → ClassId) (z : Nat → Int32) (w : Nat → Int64) {i : Nat} (h : xR i) : xcell lay cA (i + 2) z w = .inl (cA 2, xMost i * xWid i, .inl z) := by
  unfold xcell
  rw [if_neg (by omega), if_neg (by omega), if_neg (by omega), if_neg (by omega), if_neg (by omega), if_neg (by omega), if_neg (by omega), if_neg (by omega), if_neg (by omega), if_neg (by omega), if_neg (by omega)]
  rfl
theorem xR_lt {i : Nat} (h : xR i) : i < 180 ∧ i + 1 < 180 ∧ i + 2 < 180 := by omega
theorem xP_lt {i : Nat} (h : xP i) : i < 180 ∧ i + 1 < 180 ∧ i + 2 < 180 := by omega
def xw (lay : Nat → Nat) (cA : Nat → ClassId) (S : XS) : va_W := xW 180 lay (fun i => xcell lay cA i (S.1 i) (S.2 i))
abbrev xI (lay : Nat → Nat) : Nat → Prop := xIn 180 lay
abbrev xtys (cA : Nat → ClassId) : List (ClassId × FieldType) := [(cA 0, .byte), (cA 1, .long), (cA 2, .int), (cA 3, .object "ConfigTexts$Partition"), (cA 4, .object "ConfigTexts$Rows")]
theorem xw_at {lay : Nat → Nat} {cA : Nat → ClassId} {S : XS} {i : Nat} {e : va_E} (h : i < 180) (he : xcell lay cA i (S.1 i) (S.2 i) = e) : (xw lay cA S)[i]? = some (lay i, e) := xW_at h he
theorem xw_pi {lay : Nat → Nat} {cA : Nat → ClassId} {S : XS} {i j : Nat} {v : Int32} {e : va_E} (h : xcell lay cA i (up2 S.1 i j v i) (S.2 i) = e) : (xw lay cA S).set i (lay i, e) = xw lay cA (xpi S i j v) :=
  xW_set h (fun k hk => by show xcell lay cA k (up2 S.1 i j v k) (S.2 k) = _; rw [up2_row _ _ _ hk])
theorem xw_pl {lay : Nat → Nat} {cA : Nat → ClassId} {S : XS} {i j : Nat} {v : Int64} {e : va_E} (h : xcell lay cA i (S.1 i) (up2 S.2 i j v i) = e) : (xw lay cA S).set i (lay i, e) = xw lay cA (xpl S i j v) :=
  xW_set h (fun k hk => by show xcell lay cA k (S.1 k) (up2 S.2 i j v k) = _; rw [up2_row _ _ _ hk])
/-- nest mates' links -/
def xisN : Cond → Bool
  | .fieldLinkNest .. => true
  | _ => false
def xN : List Cond := tables_1.filter xisN
theorem xN_of {w : Cond} (i : Nat) (h : tables_1[i]? = some w) (g : xisN w = true) : w ∈ xN := List.mem_filter.mpr ⟨List.mem_of_getElem? h, g⟩
theorem xN_on {w : Cond} (h : w ∈ xN) : w.onTables = true := by
  have h2 := (List.mem_filter.mp h).2
  cases w <;> first | rfl | (simp [xisN] at h2)
theorem xN_warm {w : Cond} (h : w ∈ xN) {s U : State} (hW : s.WarmedH U.vm) (hs : va_Nw w s) : va_Nw w U := by
  have h2 := (List.mem_filter.mp h).2
  cases w <;> first | exact va_Nw.warmF hW hs | (simp [xisN] at h2)
/-- what a state must be, beside the cells -/
def xE (D : va_G) (lay : Nat → Nat) (cA : Nat → ClassId) (U : State) (H : Heap) : Prop :=
  va_K D xcl (xtys cA) U ∧ xInj 180 lay ∧ (∀ w ∈ xN, va_Nw w U)
section XE
variable {D : va_G} {lay : Nat → Nat} {cA : Nat → ClassId} {s U : State} {H H1 : Heap} {locs : List Loc} {S : XS}
theorem xE.K (h : xE D lay cA U H) : va_K D xcl (xtys cA) U := h.1
theorem xE.inj (h : xE D lay cA U H) : xInj 180 lay := h.2.1
theorem xE.nest (h : xE D lay cA U H) {w : Cond} (hw : w ∈ xN) {args : Array Value} : w.before args U = true := va_Nw.use (xN_on hw) (h.2.2 w hw)
theorem xE.dd (h : xE D lay cA U H) : va_D (xI lay) (xw lay cA S) := xW_D h.inj
theorem xE.warm (h : xE D lay cA s H) (hk : ∀ q : Nat, q < H.size → ¬ xI lay q → H1[q]? = H[q]?) (hW : s.WarmedH U.vm) : xE D lay cA U H1 :=
  ⟨va_K.moved hW.alike h.1, h.2.1, fun w hw => xN_warm hw hW (h.2.2 w hw)⟩
theorem xE.calling (h : xE D lay cA U H) (g : JFrame) (mk : MethodId) (a : Array Value) : xE D lay cA (U.calling g mk a) H :=
  ⟨va_K.moved (u := U) (U := U.calling g mk a) (Vm.Alike.refl U.vm) h.1, h.2.1, fun w hw => va_tabs (xN_on hw) (rfl : U.vm = (U.calling g mk a).vm) (h.2.2 w hw)⟩
end XE
/-- a method's start over the class's world -/
def xPc (D : va_G) (lay : Nat → Nat) (cA : Nat → ClassId) (S : XS) (av : List Value) : Array Value → State → Prop := va_Pc av (fun U => va_P D xcl (xw lay cA S) U.heap ∧ xE D lay cA U U.heap)
theorem xPc_blind (D : va_G) (lay : Nat → Nat) (cA : Nat → ClassId) (S : XS) (av : List Value) : FrameBlind (xPc D lay cA S av) := fun a U g mk q => by
  obtain ⟨q0, qP, qE⟩ := q
  exact ⟨q0, qP, qE.calling g mk a⟩
theorem xPc_at {D : va_G} {lay : Nat → Nat} {cA : Nat → ClassId} {S : XS} {s : State} {H : Heap} {locs : List Loc} (av : List Value) (E : xE D lay cA s s.heap) (hP : va_P D xcl (xw lay cA S) H) (hS : va_S (xI lay) s.heap H locs) : ∀ U : State, U.heap = H → s.WarmedH U.vm → xPc D lay cA S av av.toArray U :=
  fun U hU hW => ⟨rfl, by rw [hU]; exact hP, by rw [hU]; exact E.warm hS.2.1 hW⟩
/-- ends of methods that do not throw -/
def xqi (D : va_G) (lay : Nat → Nat) (cA : Nat → ClassId) (r : Int32) (S : XS) : Array Value → State → Outcome → State → Prop := va_Qi (fun r' (_ : Unit) => r' = r) (fun _ t => va_P D xcl (xw lay cA S) t.heap) (xI lay)
def xql (D : va_G) (lay : Nat → Nat) (cA : Nat → ClassId) (r : Int64) (S : XS) : Array Value → State → Outcome → State → Prop := va_Ql (fun r' (_ : Unit) => r' = r) (fun _ t => va_P D xcl (xw lay cA S) t.heap) (xI lay)
def xqv (D : va_G) (lay : Nat → Nat) (cA : Nat → ClassId) (S : XS) : Array Value → State → Outcome → State → Prop := va_Qv (fun _ : Unit => True) (fun _ t => va_P D xcl (xw lay cA S) t.heap) (xI lay)
def xqo (D : va_G) (lay : Nat → Nat) (cA : Nat → ClassId) (r : Option Nat) (S : XS) : Array Value → State → Outcome → State → Prop := fun _ st oc t => (oc = .returned (some (va_rf (r.map lay))) ∧ va_P D xcl (xw lay cA S) t.heap) ∧ va_F (xI lay) st t
/-- what a method's walk is given, once -/
def xB (p : Program) (s : State) (m : MethodId) (args : Array Value) (meth : Method) (c : Code) (own : String) (cc : ByteArray) (ret : Option FieldType) (nL : Nat) : Prop :=
  p.tables.exec = Jvm.exec ∧ c.code = cc ∧ meth.sig.returnType = ret ∧ c.maxLocals = nL ∧ s.vm.findClass own = some m.cls ∧ (∀ w ∈ xT, w.before args s = true) ∧ meth.locks = false ∧ c.exceptionTable.isEmpty = true
theorem xB_of {p : Program} {l : Launch} {y : MethodName} {rm : Room} {cc : ByteArray} {nL : Nat} {ret : Option FieldType} {e : Env} {s : State} {m : MethodId} {args : Array Value} {below : List Frame} {meth : Method} {c : Code} {s₁ : State}
    (B : BodyLoose p l y (headSpec (.code y cc nL ret :: xT) rm) cc nL ret e s m args below meth c s₁) (hml : c.maxLocals = nL) : xB p s m args meth c y.cls cc ret nL := by
  have hts := atoms_spec (ws := .code y cc nL ret :: xT) B.pre
  exact ⟨B.exec, B.bytes, B.returns, hml, findClass_of_methodNamed B.named, fun w hw => hts w (List.mem_cons_of_mem _ hw), B.notSynchronized, B.noHandlers (hts _ List.mem_cons_self)⟩
section XC
variable {p : Program} {l : Launch} {e : Env} {R : Room} {s : State} {m : MethodId} {args : Array Value} {below : List Frame} {meth : Method} {c : Code} {H : Heap} {locs : List Loc} {cells slots : Nat} {Q : State → Prop}
variable {pc : Nat} {ls : Array Slot} {rest st0 : List Value} {a : Array Value} {D : va_G} {lay : Nat → Nat} {cA : Nat → ClassId} {S : XS}
/-- behind calls -/
theorem xc_i {r : Int32} (hr : va_Run p l e R s m args below meth c H locs cells slots 0 0 (F0 m pc ls st0) rest (xqi D lay cA r S a) (xI lay)) (hS : va_S (xI lay) s.heap H locs)
    (kk : ∀ (H : Heap) (locs : List Loc), va_P D xcl (xw lay cA S) H → va_S (xI lay) s.heap H locs → W p l e R s m args below meth c H locs cells slots Q (F0 m (pc + 3) ls (.int r :: rest))) : W p l e R s m args below meth c H locs cells slots Q (F0 m pc ls st0) :=
  va_calli hr hS (fun _ _ h => h) (fun _ h => h) (fun r u t H1 locs1 ht _ hw hB _ _ hS1 => by subst hw; rw [ht] at hB; exact kk H1 locs1 hB hS1)
theorem xc_l {r : Int64} (hr : va_Run p l e R s m args below meth c H locs cells slots 0 0 (F0 m pc ls st0) rest (xql D lay cA r S a) (xI lay)) (hS : va_S (xI lay) s.heap H locs)
    (kk : ∀ (H : Heap) (locs : List Loc), va_P D xcl (xw lay cA S) H → va_S (xI lay) s.heap H locs → W p l e R s m args below meth c H locs cells slots Q (F0 m (pc + 3) ls (.long r :: rest))) : W p l e R s m args below meth c H locs cells slots Q (F0 m pc ls st0) :=
  va_calll hr hS (fun _ _ h => h) (fun _ h => h) (fun r u t H1 locs1 ht _ hw hB _ _ hS1 => by subst hw; rw [ht] at hB; exact kk H1 locs1 hB hS1)
theorem xc_v (hr : va_Run p l e R s m args below meth c H locs cells slots 0 0 (F0 m pc ls st0) rest (xqv D lay cA S a) (xI lay)) (hS : va_S (xI lay) s.heap H locs)
    (kk : ∀ (H : Heap) (locs : List Loc), va_P D xcl (xw lay cA S) H → va_S (xI lay) s.heap H locs → W p l e R s m args below meth c H locs cells slots Q (F0 m (pc + 3) ls rest)) : W p l e R s m args below meth c H locs cells slots Q (F0 m pc ls st0) :=
  va_callv hr hS (fun _ _ h => h) (fun _ h => h) (fun u t H1 locs1 ht _ _ hB _ _ hS1 => by rw [ht] at hB; exact kk H1 locs1 hB hS1)
theorem xc_o {r : Option Nat} (hr : va_Run p l e R s m args below meth c H locs cells slots 0 0 (F0 m pc ls st0) rest (xqo D lay cA r S a) (xI lay)) (hS : va_S (xI lay) s.heap H locs)
    (kk : ∀ (H : Heap) (locs : List Loc), va_P D xcl (xw lay cA S) H → va_S (xI lay) s.heap H locs → W p l e R s m args below meth c H locs cells slots Q (F0 m (pc + 3) ls (va_rf (r.map lay) :: rest))) : W p l e R s m args below meth c H locs cells slots Q (F0 m pc ls st0) := by
  intro T hT X
  obtain ⟨v, st₀, t, T', L, h0, X', hL, e1, e2, ⟨⟨hv, hb⟩, hz, hk⟩, st⟩ := hr T hT X
  cases hv
  rw [h0] at hz hk
  rw [← e1] at hb
  obtain ⟨t2, a1, b1⟩ := kk T'.heap (locs ++ L) hb
    ⟨Nat.le_trans hS.1 (by rw [e1]; exact hz), fun q h1 h2 => by rw [e1, hk q (Nat.lt_of_lt_of_le h1 hS.1) h2]; exact hS.2.1 q h1 h2, fun q hq => by
      rcases List.mem_append.mp hq with h | h
      · exact hS.2.2 q h
      · exact hL q h⟩ T' rfl X'
  exact ⟨t2, st t2 a1, b1⟩
/-- a call's start: the receiver, the world -/
theorem xpV {C : String} {T : u_T} {N ci b : Nat} {fs As : List Value} (E : xE D lay cA s s.heap) (hP : va_P D xcl (xw lay cA S) H) (hS : va_S (xI lay) s.heap H locs) (hb : b < 180) (he : xcell lay cA b (S.1 b) (S.2 b) = .inr (ci, fs)) (hc : xcl[ci]? = some (C, T, N)) :
    PreV s H C (lay b) (xPc D lay cA S (.ref (lay b) :: As)) As :=
  ⟨xPc_blind D lay cA S _, va_recv (q := (C, T, N)) E.K hP hc (xw_at hb he), xPc_at (.ref (lay b) :: As) E hP hS⟩
theorem xpS {As : List Value} (E : xE D lay cA s s.heap) (hP : va_P D xcl (xw lay cA S) H) (hS : va_S (xI lay) s.heap H locs) : PreS s H (xPc D lay cA S As) As :=
  ⟨xPc_blind D lay cA S _, xPc_at As E hP hS⟩
end XC
theorem xif_t {α : Type} {c : Prop} [Decidable c] {a b : Option α} {r : α} (hc : c) (h : (if c then a else b) = some r) : a = some r := by rwa [if_pos hc] at h
theorem xif_f {α : Type} {c : Prop} [Decidable c] {a b : Option α} {r : α} (hc : ¬ c) (h : (if c then a else b) = some r) : b = some r := by rwa [if_neg hc] at h
