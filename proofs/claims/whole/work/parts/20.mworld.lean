/-! the reference's world: its object, and 24 arrays -/
def mcell (lay : Nat → Nat) (cA : Nat → ClassId) (i : Nat) (z : Nat → Int32) (w : Nat → Int64) : va_E :=
  match i with
  | 0 => .inr (6, [.int (z 0), .ref (lay 1), .ref (lay 2), .ref (lay 3), .ref (lay 4), .int (z 5), .int (z 6), .int (z 7), .int (z 8), .int (z 9), .long (w 10), .int (z 11), .int (z 12), .int (z 13), .int (z 14), .int (z 15), .ref (lay 5), .ref (lay 6), .ref (lay 7), .ref (lay 8), .ref (lay 9), .ref (lay 10), .ref (lay 11), .ref (lay 12), .ref (lay 13), .ref (lay 14), .ref (lay 15), .ref (lay 16), .ref (lay 17), .int (z 29), .int (z 30), .int (z 31), .int (z 32), .int (z 33), .ref (lay 18), .ref (lay 19), .ref (lay 20), .ref (lay 21), .ref (lay 22), .ref (lay 23), .ref (lay 24)])
  | 1 => .inl (cA 1, 23, .inr (.inl w))
  | 2 => .inl (cA 1, 4, .inr (.inl w))
  | 3 => .inl (cA 1, 7, .inr (.inl w))
  | 4 => .inl (cA 0, 2000, .inl z)
  | 5 => .inl (cA 1, 8, .inr (.inl w))
  | 6 => .inl (cA 2, 8, .inl z)
  | 7 => .inl (cA 2, 8, .inl z)
  | 8 => .inl (cA 2, 8, .inl z)
  | 9 => .inl (cA 2, 32, .inl z)
  | 10 => .inl (cA 2, 48, .inl z)
  | 11 => .inl (cA 3, 8, .inl z)
  | 12 => .inl (cA 3, 4, .inl z)
  | 13 => .inl (cA 2, 8, .inl z)
  | 14 => .inl (cA 2, 320, .inl z)
  | 15 => .inl (cA 2, 320, .inl z)
  | 16 => .inl (cA 2, 1600, .inl z)
  | 17 => .inl (cA 1, 320, .inr (.inl w))
  | 18 => .inl (cA 2, 16, .inl z)
  | 19 => .inl (cA 2, 16, .inl z)
  | 20 => .inl (cA 2, 16, .inl z)
  | 21 => .inl (cA 2, 16, .inl z)
  | 22 => .inl (cA 2, 64, .inl z)
  | 23 => .inl (cA 2, 16, .inl z)
  | _ => .inl (cA 2, 16, .inl z)
theorem mc_0 (lay : Nat → Nat) (cA : Nat → ClassId) (z : Nat → Int32) (w : Nat → Int64) : mcell lay cA 0 z w = .inr (6, [.int (z 0), .ref (lay 1), .ref (lay 2), .ref (lay 3), .ref (lay 4), .int (z 5), .int (z 6), .int (z 7), .int (z 8), .int (z 9), .long (w 10), .int (z 11), .int (z 12), .int (z 13), .int (z 14), .int (z 15), .ref (lay 5), .ref (lay 6), .ref (lay 7), .ref (lay 8), .ref (lay 9), .ref (lay 10), .ref (lay 11), .ref (lay 12), .ref (lay 13), .ref (lay 14), .ref (lay 15), .ref (lay 16), .ref (lay 17), .int (z 29), .int (z 30), .int (z 31), .int (z 32), .int (z 33), .ref (lay 18), .ref (lay 19), .ref (lay 20), .ref (lay 21), .ref (lay 22), .ref (lay 23), .ref (lay 24)]) := rfl
theorem mc_1 (lay : Nat → Nat) (cA : Nat → ClassId) (z : Nat → Int32) (w : Nat → Int64) : mcell lay cA 1 z w = .inl (cA 1, 23, .inr (.inl w)) := rfl
theorem mc_2 (lay : Nat → Nat) (cA : Nat → ClassId) (z : Nat → Int32) (w : Nat → Int64) : mcell lay cA 2 z w = .inl (cA 1, 4, .inr (.inl w)) := rfl
theorem mc_3 (lay : Nat → Nat) (cA : Nat → ClassId) (z : Nat → Int32) (w : Nat → Int64) : mcell lay cA 3 z w = .inl (cA 1, 7, .inr (.inl w)) := rfl
theorem mc_4 (lay : Nat → Nat) (cA : Nat → ClassId) (z : Nat → Int32) (w : Nat → Int64) : mcell lay cA 4 z w = .inl (cA 0, 2000, .inl z) := rfl
theorem mc_5 (lay : Nat → Nat) (cA : Nat → ClassId) (z : Nat → Int32) (w : Nat → Int64) : mcell lay cA 5 z w = .inl (cA 1, 8, .inr (.inl w)) := rfl
theorem mc_6 (lay : Nat → Nat) (cA : Nat → ClassId) (z : Nat → Int32) (w : Nat → Int64) : mcell lay cA 6 z w = .inl (cA 2, 8, .inl z) := rfl
theorem mc_7 (lay : Nat → Nat) (cA : Nat → ClassId) (z : Nat → Int32) (w : Nat → Int64) : mcell lay cA 7 z w = .inl (cA 2, 8, .inl z) := rfl
theorem mc_8 (lay : Nat → Nat) (cA : Nat → ClassId) (z : Nat → Int32) (w : Nat → Int64) : mcell lay cA 8 z w = .inl (cA 2, 8, .inl z) := rfl
theorem mc_9 (lay : Nat → Nat) (cA : Nat → ClassId) (z : Nat → Int32) (w : Nat → Int64) : mcell lay cA 9 z w = .inl (cA 2, 32, .inl z) := rfl
theorem mc_10 (lay : Nat → Nat) (cA : Nat → ClassId) (z : Nat → Int32) (w : Nat → Int64) : mcell lay cA 10 z w = .inl (cA 2, 48, .inl z) := rfl
theorem mc_11 (lay : Nat → Nat) (cA : Nat → ClassId) (z : Nat → Int32) (w : Nat → Int64) : mcell lay cA 11 z w = .inl (cA 3, 8, .inl z) := rfl
theorem mc_12 (lay : Nat → Nat) (cA : Nat → ClassId) (z : Nat → Int32) (w : Nat → Int64) : mcell lay cA 12 z w = .inl (cA 3, 4, .inl z) := rfl
theorem mc_13 (lay : Nat → Nat) (cA : Nat → ClassId) (z : Nat → Int32) (w : Nat → Int64) : mcell lay cA 13 z w = .inl (cA 2, 8, .inl z) := rfl
theorem mc_14 (lay : Nat → Nat) (cA : Nat → ClassId) (z : Nat → Int32) (w : Nat → Int64) : mcell lay cA 14 z w = .inl (cA 2, 320, .inl z) := rfl
theorem mc_15 (lay : Nat → Nat) (cA : Nat → ClassId) (z : Nat → Int32) (w : Nat → Int64) : mcell lay cA 15 z w = .inl (cA 2, 320, .inl z) := rfl
theorem mc_16 (lay : Nat → Nat) (cA : Nat → ClassId) (z : Nat → Int32) (w : Nat → Int64) : mcell lay cA 16 z w = .inl (cA 2, 1600, .inl z) := rfl
theorem mc_17 (lay : Nat → Nat) (cA : Nat → ClassId) (z : Nat → Int32) (w : Nat → Int64) : mcell lay cA 17 z w = .inl (cA 1, 320, .inr (.inl w)) := rfl
theorem mc_18 (lay : Nat → Nat) (cA : Nat → ClassId) (z : Nat → Int32) (w : Nat → Int64) : mcell lay cA 18 z w = .inl (cA 2, 16, .inl z) := rfl
theorem mc_19 (lay : Nat → Nat) (cA : Nat → ClassId) (z : Nat → Int32) (w : Nat → Int64) : mcell lay cA 19 z w = .inl (cA 2, 16, .inl z) := rfl
theorem mc_20 (lay : Nat → Nat) (cA : Nat → ClassId) (z : Nat → Int32) (w : Nat → Int64) : mcell lay cA 20 z w = .inl (cA 2, 16, .inl z) := rfl
theorem mc_21 (lay : Nat → Nat) (cA : Nat → ClassId) (z : Nat → Int32) (w : Nat → Int64) : mcell lay cA 21 z w = .inl (cA 2, 16, .inl z) := rfl
theorem mc_22 (lay : Nat → Nat) (cA : Nat → ClassId) (z : Nat → Int32) (w : Nat → Int64) : mcell lay cA 22 z w = .inl (cA 2, 64, .inl z) := rfl
theorem mc_23 (lay : Nat → Nat) (cA : Nat → ClassId) (z : Nat → Int32) (w : Nat → Int64) : mcell lay cA 23 z w = .inl (cA 2, 16, .inl z) := rfl
theorem mc_24 (lay : Nat → Nat) (cA : Nat → ClassId) (z : Nat → Int32) (w : Nat → Int64) : mcell lay cA 24 z w = .inl (cA 2, 16, .inl z) := rfl
def mw (lay : Nat → Nat) (cA : Nat → ClassId) (S : XS) : va_W := xW 25 lay (fun i => mcell lay cA i (S.1 i) (S.2 i))
abbrev mI (lay : Nat → Nat) : Nat → Prop := xIn 25 lay
abbrev mtys (cA : Nat → ClassId) : List (ClassId × FieldType) := [(cA 0, .byte), (cA 1, .long), (cA 2, .int), (cA 3, .boolean)]
theorem mw_at {lay : Nat → Nat} {cA : Nat → ClassId} {S : XS} {i : Nat} {e : va_E} (h : i < 25) (he : mcell lay cA i (S.1 i) (S.2 i) = e) : (mw lay cA S)[i]? = some (lay i, e) := xW_at h he
theorem mw_pi {lay : Nat → Nat} {cA : Nat → ClassId} {S : XS} {i j : Nat} {v : Int32} {e : va_E} (h : mcell lay cA i (up2 S.1 i j v i) (S.2 i) = e) : (mw lay cA S).set i (lay i, e) = mw lay cA (xpi S i j v) :=
  xW_set h (fun k hk => by show mcell lay cA k (up2 S.1 i j v k) (S.2 k) = _; rw [up2_row _ _ _ hk])
theorem mw_pl {lay : Nat → Nat} {cA : Nat → ClassId} {S : XS} {i j : Nat} {v : Int64} {e : va_E} (h : mcell lay cA i (S.1 i) (up2 S.2 i j v i) = e) : (mw lay cA S).set i (lay i, e) = mw lay cA (xpl S i j v) :=
  xW_set h (fun k hk => by show mcell lay cA k (S.1 k) (up2 S.2 i j v k) = _; rw [up2_row _ _ _ hk])
/-- what a state must be, beside the cells -/
def mE (D : va_G) (lay : Nat → Nat) (cA : Nat → ClassId) (U : State) (H : Heap) : Prop := va_K D xcl (mtys cA) U ∧ xInj 25 lay
section ME
variable {D : va_G} {lay : Nat → Nat} {cA : Nat → ClassId} {s U : State} {H H1 : Heap} {S : XS}
theorem mE.K (h : mE D lay cA U H) : va_K D xcl (mtys cA) U := h.1
theorem mE.inj (h : mE D lay cA U H) : xInj 25 lay := h.2
theorem mE.dd (h : mE D lay cA U H) : va_D (mI lay) (mw lay cA S) := xW_D h.inj
theorem mE.warm (h : mE D lay cA s H) (hW : s.WarmedH U.vm) : mE D lay cA U H1 := ⟨va_K.moved hW.alike h.1, h.2⟩
theorem mE.calling (h : mE D lay cA U H) (g : JFrame) (mk : MethodId) (a : Array Value) : mE D lay cA (U.calling g mk a) H := ⟨va_K.moved (u := U) (U := U.calling g mk a) (Vm.Alike.refl U.vm) h.1, h.2⟩
end ME
/-- a method's start over the reference's world -/
def mPc (D : va_G) (lay : Nat → Nat) (cA : Nat → ClassId) (S : XS) (av : List Value) : Array Value → State → Prop := va_Pc av (fun U => va_P D xcl (mw lay cA S) U.heap ∧ mE D lay cA U U.heap)
theorem mPc_blind (D : va_G) (lay : Nat → Nat) (cA : Nat → ClassId) (S : XS) (av : List Value) : FrameBlind (mPc D lay cA S av) := fun a U g mk q => by
  obtain ⟨q0, qP, qE⟩ := q
  exact ⟨q0, qP, qE.calling g mk a⟩
theorem mPc_at {D : va_G} {lay : Nat → Nat} {cA : Nat → ClassId} {S : XS} {s : State} {H : Heap} {locs : List Loc} (av : List Value) (E : mE D lay cA s s.heap) (hP : va_P D xcl (mw lay cA S) H) (hS : va_S (mI lay) s.heap H locs) : ∀ U : State, U.heap = H → s.WarmedH U.vm → mPc D lay cA S av av.toArray U :=
  fun U hU hW => ⟨rfl, by rw [hU]; exact hP, by rw [hU]; exact E.warm hW⟩
/-- ends of methods that do not throw -/
def mqi (D : va_G) (lay : Nat → Nat) (cA : Nat → ClassId) (r : Int32) (S : XS) : Array Value → State → Outcome → State → Prop := va_Qi (fun r' (_ : Unit) => r' = r) (fun _ t => va_P D xcl (mw lay cA S) t.heap) (mI lay)
def mql (D : va_G) (lay : Nat → Nat) (cA : Nat → ClassId) (r : Int64) (S : XS) : Array Value → State → Outcome → State → Prop := va_Ql (fun r' (_ : Unit) => r' = r) (fun _ t => va_P D xcl (mw lay cA S) t.heap) (mI lay)
def mqv (D : va_G) (lay : Nat → Nat) (cA : Nat → ClassId) (S : XS) : Array Value → State → Outcome → State → Prop := va_Qv (fun _ : Unit => True) (fun _ t => va_P D xcl (mw lay cA S) t.heap) (mI lay)
section MC
variable {p : Program} {l : Launch} {e : Env} {R : Room} {s : State} {m : MethodId} {args : Array Value} {below : List Frame} {meth : Method} {c : Code} {H : Heap} {locs : List Loc} {cells slots : Nat} {Q : State → Prop}
variable {pc : Nat} {ls : Array Slot} {rest st0 : List Value} {a : Array Value} {D : va_G} {lay : Nat → Nat} {cA : Nat → ClassId} {S : XS}
/-- behind calls -/
theorem mc_i {r : Int32} (hr : va_Run p l e R s m args below meth c H locs cells slots 0 0 (F0 m pc ls st0) rest (mqi D lay cA r S a) (mI lay)) (hS : va_S (mI lay) s.heap H locs)
    (kk : ∀ (H : Heap) (locs : List Loc), va_P D xcl (mw lay cA S) H → va_S (mI lay) s.heap H locs → W p l e R s m args below meth c H locs cells slots Q (F0 m (pc + 3) ls (.int r :: rest))) : W p l e R s m args below meth c H locs cells slots Q (F0 m pc ls st0) :=
  va_calli hr hS (fun _ _ h => h) (fun _ h => h) (fun r u t H1 locs1 ht _ hw hB _ _ hS1 => by subst hw; rw [ht] at hB; exact kk H1 locs1 hB hS1)
theorem mc_l {r : Int64} (hr : va_Run p l e R s m args below meth c H locs cells slots 0 0 (F0 m pc ls st0) rest (mql D lay cA r S a) (mI lay)) (hS : va_S (mI lay) s.heap H locs)
    (kk : ∀ (H : Heap) (locs : List Loc), va_P D xcl (mw lay cA S) H → va_S (mI lay) s.heap H locs → W p l e R s m args below meth c H locs cells slots Q (F0 m (pc + 3) ls (.long r :: rest))) : W p l e R s m args below meth c H locs cells slots Q (F0 m pc ls st0) :=
  va_calll hr hS (fun _ _ h => h) (fun _ h => h) (fun r u t H1 locs1 ht _ hw hB _ _ hS1 => by subst hw; rw [ht] at hB; exact kk H1 locs1 hB hS1)
theorem mc_v (hr : va_Run p l e R s m args below meth c H locs cells slots 0 0 (F0 m pc ls st0) rest (mqv D lay cA S a) (mI lay)) (hS : va_S (mI lay) s.heap H locs)
    (kk : ∀ (H : Heap) (locs : List Loc), va_P D xcl (mw lay cA S) H → va_S (mI lay) s.heap H locs → W p l e R s m args below meth c H locs cells slots Q (F0 m (pc + 3) ls rest)) : W p l e R s m args below meth c H locs cells slots Q (F0 m pc ls st0) :=
  va_callv hr hS (fun _ _ h => h) (fun _ h => h) (fun u t H1 locs1 ht _ _ hB _ _ hS1 => by rw [ht] at hB; exact kk H1 locs1 hB hS1)
/-- a call's start: the receiver, the world -/
theorem mpV {C : String} {T : u_T} {N ci b : Nat} {fs As : List Value} (E : mE D lay cA s s.heap) (hP : va_P D xcl (mw lay cA S) H) (hS : va_S (mI lay) s.heap H locs) (hb : b < 25) (he : mcell lay cA b (S.1 b) (S.2 b) = .inr (ci, fs)) (hc : xcl[ci]? = some (C, T, N)) :
    PreV s H C (lay b) (mPc D lay cA S (.ref (lay b) :: As)) As :=
  ⟨mPc_blind D lay cA S _, va_recv (q := (C, T, N)) E.K hP hc (mw_at hb he), mPc_at (.ref (lay b) :: As) E hP hS⟩
theorem mpS {As : List Value} (E : mE D lay cA s s.heap) (hP : va_P D xcl (mw lay cA S) H) (hS : va_S (mI lay) s.heap H locs) : PreS s H (mPc D lay cA S As) As :=
  ⟨mPc_blind D lay cA S _, mPc_at As E hP hS⟩
end MC
