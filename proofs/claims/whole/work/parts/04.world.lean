/-! the class's world: 180 cells, numbered as they are made: 0 the object, 1 its text, 2 Words, 3 Configuration, 4 the row of partitions; partition k at 5 + 21 k, its actions, its row of Rows, six Rows with names and numbers each; 173 channels, 176 windows, 179 Reader. Its numbers: S.1 (int) and S.2 (long), by cell and place. -/
abbrev XS : Type := (Nat → Nat → Int32) × (Nat → Nat → Int64)
def xgi (S : XS) (i j : Nat) : Int32 := S.1 i j
def xgl (S : XS) (i j : Nat) : Int64 := S.2 i j
def xpi (S : XS) (i j : Nat) (v : Int32) : XS := (up2 S.1 i j v, S.2)
def xpl (S : XS) (i j : Nat) (v : Int64) : XS := (S.1, up2 S.2 i j v)
abbrev xP (i : Nat) : Prop := 5 ≤ i ∧ i < 173 ∧ (i - 5) % 21 = 0
abbrev xR (i : Nat) : Prop := i = 173 ∨ i = 176 ∨ (5 ≤ i ∧ i < 173 ∧ 3 ≤ (i - 5) % 21 ∧ (i - 5) % 21 % 3 = 0)
def xMost (i : Nat) : Nat := if i = 173 ∨ i = 176 then 16 else [8, 4, 4, 4, 4, 8].getD (((i - 5) % 21 - 3) / 3) 0
def xWid (i : Nat) : Nat := if i = 173 then 8 else if i = 176 then 2 else [5, 2, 0, 1, 0, 3].getD (((i - 5) % 21 - 3) / 3) 0
def xcell (lay : Nat → Nat) (cA : Nat → ClassId) (i : Nat) (z : Nat → Int32) (w : Nat → Int64) : va_E :=
  if i = 0 then .inr (5, [.ref (lay 1), .int (z 1), .ref (lay 2), .ref (lay 3), .ref (lay 179), .int (z 5)])
  else if i = 1 then .inl (cA 0, 2000, .inl z)
  else if i = 2 then .inr (4, [.ref (lay 1), .int (z 1), .int (z 2), .int (z 3), .int (z 4), .int (z 5), .long (w 6), .int (z 7), .int (z 8)])
  else if i = 3 then .inr (0, [.ref (lay 4), .int (z 1), .ref (lay 173), .ref (lay 176), .int (z 4), .int (z 5), .int (z 6)])
  else if i = 4 then .inl (cA 3, 8, .inr (.inr (.inr (.inr (fun j => some (lay (5 + 21 * j)))))))
  else if i = 179 then .inr (2, [.ref (lay 2), .ref (lay 3), .int (z 2), .int (z 3)])
  else if xP i then .inr (1, [.long (w 0), .int (z 1), .int (z 2), .ref (lay (i + 1)), .ref (lay (i + 2))])
  else if xP (i - 1) then .inl (cA 2, 4, .inl z)
  else if xP (i - 2) then .inl (cA 4, 6, .inr (.inr (.inr (.inr (fun j => some (lay (i + 1 + 3 * j)))))))
  else if xR i then .inr (3, [.int (z 0), .int (z 1), .ref (lay (i + 1)), .ref (lay (i + 2)), .int (z 4)])
  else if xR (i - 1) then .inl (cA 1, xMost (i - 1), .inr (.inl w))
  else .inl (cA 2, xMost (i - 2) * xWid (i - 2), .inl z)
theorem xc_0 (lay : Nat → Nat) (cA : Nat → ClassId) (z : Nat → Int32) (w : Nat → Int64) : xcell lay cA 0 z w = .inr (5, [.ref (lay 1), .int (z 1), .ref (lay 2), .ref (lay 3), .ref (lay 179), .int (z 5)]) := rfl
theorem xc_1 (lay : Nat → Nat) (cA : Nat → ClassId) (z : Nat → Int32) (w : Nat → Int64) : xcell lay cA 1 z w = .inl (cA 0, 2000, .inl z) := rfl
theorem xc_2 (lay : Nat → Nat) (cA : Nat → ClassId) (z : Nat → Int32) (w : Nat → Int64) : xcell lay cA 2 z w = .inr (4, [.ref (lay 1), .int (z 1), .int (z 2), .int (z 3), .int (z 4), .int (z 5), .long (w 6), .int (z 7), .int (z 8)]) := rfl
theorem xc_3 (lay : Nat → Nat) (cA : Nat → ClassId) (z : Nat → Int32) (w : Nat → Int64) : xcell lay cA 3 z w = .inr (0, [.ref (lay 4), .int (z 1), .ref (lay 173), .ref (lay 176), .int (z 4), .int (z 5), .int (z 6)]) := rfl
theorem xc_4 (lay : Nat → Nat) (cA : Nat → ClassId) (z : Nat → Int32) (w : Nat → Int64) : xcell lay cA 4 z w = .inl (cA 3, 8, .inr (.inr (.inr (.inr (fun j => some (lay (5 + 21 * j))))))) := rfl
theorem xc_179 (lay : Nat → Nat) (cA : Nat → ClassId) (z : Nat → Int32) (w : Nat → Int64) : xcell lay cA 179 z w = .inr (2, [.ref (lay 2), .ref (lay 3), .int (z 2), .int (z 3)]) := rfl
theorem xc_PA (lay : Nat → Nat) (cA : Nat → ClassId) (z : Nat → Int32) (w : Nat → Int64) {i : Nat} (h : xP i) : xcell lay cA i z w = .inr (1, [.long (w 0), .int (z 1), .int (z 2), .ref (lay (i + 1)), .ref (lay (i + 2))]) := by
  unfold xcell
  rw [if_neg (by omega), if_neg (by omega), if_neg (by omega), if_neg (by omega), if_neg (by omega), if_neg (by omega), if_pos h]
theorem xc_PAa (lay : Nat → Nat) (cA : Nat → ClassId) (z : Nat → Int32) (w : Nat → Int64) {i : Nat} (h : xP i) : xcell lay cA (i + 1) z w = .inl (cA 2, 4, .inl z) := by
  unfold xcell
  rw [if_neg (by omega), if_neg (by omega), if_neg (by omega), if_neg (by omega), if_neg (by omega), if_neg (by omega), if_neg (by omega), if_pos (by simpa using h)]
theorem xc_PAt (lay : Nat → Nat) (cA : Nat → ClassId) (z : Nat → Int32) (w : Nat → Int64) {i : Nat} (h : xP i) : xcell lay cA (i + 2) z w = .inl (cA 4, 6, .inr (.inr (.inr (.inr (fun j => some (lay (i + 2 + 1 + 3 * j))))))) := by
  unfold xcell
  rw [if_neg (by omega), if_neg (by omega), if_neg (by omega), if_neg (by omega), if_neg (by omega), if_neg (by omega), if_neg (by omega), if_neg (by omega), if_pos (by simpa using h)]
theorem xc_RO (lay : Nat → Nat) (cA : Nat → ClassId) (z : Nat → Int32) (w : Nat → Int64) {i : Nat} (h : xR i) : xcell lay cA i z w = .inr (3, [.int (z 0), .int (z 1), .ref (lay (i + 1)), .ref (lay (i + 2)), .int (z 4)]) := by
  unfold xcell
  rw [if_neg (by omega), if_neg (by omega), if_neg (by omega), if_neg (by omega), if_neg (by omega), if_neg (by omega), if_neg (by omega), if_neg (by omega), if_neg (by omega), if_pos h]
theorem xc_ROn (lay : Nat → Nat) (cA : Nat → ClassId) (z : Nat → Int32) (w : Nat → Int64) {i : Nat} (h : xR i) : xcell lay cA (i + 1) z w = .inl (cA 1, xMost i, .inr (.inl w)) := by
  unfold xcell
  rw [if_neg (by omega), if_neg (by omega), if_neg (by omega), if_neg (by omega), if_neg (by omega), if_neg (by omega), if_neg (by omega), if_neg (by omega), if_neg (by omega), if_neg (by omega), if_pos (by simpa using h)]
  rfl
theorem xc_ROu (lay : Nat → Nat) (cA : Nat → ClassId) (z : Nat → Int32) (w : Nat → Int64) {i : Nat} (h : xR i) : xcell lay cA (i + 2) z w = .inl (cA 2, xMost i * xWid i, .inl z) := by
  unfold xcell
  rw [if_neg (by omega), if_neg (by omega), if_neg (by omega), if_neg (by omega), if_neg (by omega), if_neg (by omega), if_neg (by omega), if_neg (by omega), if_neg (by omega), if_neg (by omega), if_neg (by omega)]
  rfl
theorem xR_lt {i : Nat} (h : xR i) : i < 180 ∧ i + 1 < 180 ∧ i + 2 < 180 := by omega
theorem xP_lt {i : Nat} (h : xP i) : i < 180 ∧ i + 1 < 180 ∧ i + 2 < 180 := by omega
def xw (lay : Nat → Nat) (cA : Nat → ClassId) (S : XS) : va_W := xW 180 lay (fun i => xcell lay cA i (S.1 i) (S.2 i))
abbrev xI (lay : Nat → Nat) : Nat → Prop := xIn 180 lay
abbrev xtys (cA : Nat → ClassId) : List (ClassId × FieldType) := [(cA 0, .byte), (cA 1, .long), (cA 2, .int), (cA 3, .object "ConfigTexts$Partition"), (cA 4, .object "ConfigTexts$Rows")]
theorem xw_at {lay : Nat → Nat} {cA : Nat → ClassId} {S : XS} {i : Nat} {e : va_E} (h : i < 180) (he : xcell lay cA i (S.1 i) (S.2 i) = e) : (xw lay cA S)[i]? = some (lay i, e) := xW_at h he
theorem xw_pi {lay : Nat → Nat} {cA : Nat → ClassId} {S : XS} {i j : Nat} {v : Int32} {e : va_E} (h : xcell lay cA i (up2 S.1 i j v i) (S.2 i) = e) : (xw lay cA S).set i (lay i, e) = xw lay cA (xpi S i j v) :=
  xW_set h (fun k hk => by show xcell lay cA k (up2 S.1 i j v k) (S.2 k) = _; rw [up2_row _ _ _ hk])
theorem xw_pl {lay : Nat → Nat} {cA : Nat → ClassId} {S : XS} {i j : Nat} {v : Int64} {e : va_E} (h : xcell lay cA i (S.1 i) (up2 S.2 i j v i) = e) : (xw lay cA S).set i (lay i, e) = xw lay cA (xpl S i j v) :=
  xW_set h (fun k hk => by show xcell lay cA k (S.1 k) (up2 S.2 i j v k) = _; rw [up2_row _ _ _ hk])
/-- nest mates' links -/
def xisN : Cond → Bool
  | .fieldLinkNest .. => true
  | _ => false
def xN : List Cond := tables_1.filter xisN
theorem xN_of {w : Cond} (i : Nat) (h : tables_1[i]? = some w) (g : xisN w = true) : w ∈ xN := List.mem_filter.mpr ⟨List.mem_of_getElem? h, g⟩
theorem xN_on {w : Cond} (h : w ∈ xN) : w.onTables = true := by
  have h2 := (List.mem_filter.mp h).2
  cases w <;> first | rfl | (simp [xisN] at h2)
theorem xN_warm {w : Cond} (h : w ∈ xN) {s U : State} (hW : s.WarmedH U.vm) (hs : va_Nw w s) : va_Nw w U := by
  have h2 := (List.mem_filter.mp h).2
  cases w <;> first | exact va_Nw.warmF hW hs | (simp [xisN] at h2)
/-- the literals: lengths and bytes, each by its number; where they stand: owner, entry, text, number -/
abbrev xnl : Nat := 28
def xlen : List Nat := [7, 20, 9, 163, 1, 6, 1, 1, 41, 5, 8, 6, 8, 7, 7, 1, 6, 16, 6, 26, 37, 7, 5, 1, 1, 6, 1, 5]
def xbyt : List (List Int32) := [[123, 125, 59, 58, 46, 44, 62], [116, 104, 101, 32, 116, 101, 120, 116, 32, 104, 97, 115, 32, 97, 32, 102, 97, 117, 108, 116], [112, 97, 114, 116, 105, 116, 105, 111, 110], [112, 97, 114, 116, 105, 116, 105, 111, 110, 32, 109, 101, 109, 111, 114, 121, 32, 112, 114, 111, 99, 101, 115, 115, 32, 101, 110, 116, 114, 121, 32, 112, 114, 105, 111, 114, 105, 116, 121, 32, 112, 101, 114, 105, 111, 100, 32, 100, 101, 97, 100, 108, 105, 110, 101, 32, 104, 97, 110, 100, 108, 101, 114, 32, 115, 116, 111, 112, 112, 101, 100, 32, 115, 101, 109, 97, 112, 104, 111, 114, 101, 32, 101, 118, 101, 110, 116, 32, 98, 117, 102, 102, 101, 114, 32, 98, 111, 97, 114, 100, 32, 112, 111, 114, 116, 32, 105, 110, 32, 111, 117, 116, 32, 101, 114, 114, 111, 114, 115, 32, 99, 104, 97, 110, 110, 101, 108, 32, 115, 97, 109, 112, 108, 105, 110, 103, 32, 113, 117, 101, 117, 105, 110, 103, 32, 105, 110, 112, 117, 116, 32, 111, 117, 116, 112, 117, 116, 32, 102, 114, 97, 109, 101], [123], [109, 101, 109, 111, 114, 121], [59], [125], [112, 114, 111, 99, 101, 115, 115, 32, 115, 101, 109, 97, 112, 104, 111, 114, 101, 32, 101, 118, 101, 110, 116, 32, 98, 117, 102, 102, 101, 114, 32, 98, 111, 97, 114, 100, 32, 112, 111, 114, 116], [101, 110, 116, 114, 121], [112, 114, 105, 111, 114, 105, 116, 121], [112, 101, 114, 105, 111, 100], [100, 101, 97, 100, 108, 105, 110, 101], [104, 97, 110, 100, 108, 101, 114], [115, 116, 111, 112, 112, 101, 100], [58], [105, 110, 32, 111, 117, 116], [115, 97, 109, 112, 108, 105, 110, 103, 32, 113, 117, 101, 117, 105, 110, 103], [101, 114, 114, 111, 114, 115], [105, 108, 108, 101, 103, 97, 108, 32, 109, 101, 109, 111, 114, 121, 32, 108, 97, 116, 101, 32, 114, 97, 105, 115, 101, 100], [115, 107, 105, 112, 32, 115, 116, 111, 112, 32, 97, 103, 97, 105, 110, 32, 119, 97, 114, 109, 32, 99, 111, 108, 100, 32, 105, 100, 108, 101, 32, 104, 97, 110, 100, 108, 101], [99, 104, 97, 110, 110, 101, 108], [105, 110, 112, 117, 116], [46], [62], [111, 117, 116, 112, 117, 116], [44], [102, 114, 97, 109, 101]]
def xlits : List (String × Nat × String × Nat) := [("ConfigTexts$Words", 64, "{};:.,>", 0), ("ConfigTexts$Words", 45, "the text has a fault", 1), ("ConfigTexts", 53, "partition", 2), ("ConfigTexts$Reader", 92, "partition", 2), ("ConfigTexts$Words", 97, "partition memory process entry priority period deadline handler stopped semaphore event buffer board port in out errors channel sampling queuing input output frame", 3), ("ConfigTexts$Reader", 117, "{", 4), ("ConfigTexts$Reader", 39, "memory", 5), ("ConfigTexts$Reader", 80, ";", 6), ("ConfigTexts$Reader", 49, "}", 7), ("ConfigTexts$Reader", 57, "process semaphore event buffer board port", 8), ("ConfigTexts$Reader", 145, "entry", 9), ("ConfigTexts$Reader", 150, "priority", 10), ("ConfigTexts$Reader", 152, "period", 11), ("ConfigTexts$Reader", 155, "deadline", 12), ("ConfigTexts$Reader", 157, "handler", 13), ("ConfigTexts$Reader", 161, "stopped", 14), ("ConfigTexts$Reader", 163, ":", 15), ("ConfigTexts$Reader", 171, "in out", 16), ("ConfigTexts$Reader", 176, "sampling queuing", 17), ("ConfigTexts$Reader", 178, "errors", 18), ("ConfigTexts$Reader", 180, "illegal memory late raised", 19), ("ConfigTexts$Reader", 189, "skip stop again warm cold idle handle", 20), ("ConfigTexts", 62, "channel", 21), ("ConfigTexts$Reader", 198, "channel", 21), ("ConfigTexts$Reader", 200, "input", 22), ("ConfigTexts$Reader", 224, ".", 23), ("ConfigTexts$Reader", 209, ">", 24), ("ConfigTexts$Reader", 214, "output", 25), ("ConfigTexts$Reader", 216, ",", 26), ("ConfigTexts$Reader", 236, "frame", 27)]
abbrev xthrown : List Cond := Bundle.ownAtoms "ConfigTexts$Words" 47 "java/lang/IllegalArgumentException" ["java/lang/RuntimeException", "java/lang/Exception"]
/-- what the first state s0 (the law's own start) is -/
def xF (D : va_G) (lay : Nat → Nat) (cA : Nat → ClassId) (adK adV : Nat → Nat) (s0 : State) : Prop :=
  va_K D xcl (xtys cA) s0 ∧ xInj 180 lay ∧ (∀ i, i < 180 → s0.heap.size ≤ lay i) ∧ (∀ w ∈ xN, va_Nw w s0) ∧
  (∀ i, i < xnl → va_O "java/lang/String" (adK i) (fun q => s0.heap.size ≤ q) s0 s0.heap ∧ va_OF "java/lang/String" "coder" "B" (.int 0) (adK i) (fun q => s0.heap.size ≤ q) s0 s0.heap ∧ va_OF "java/lang/String" "value" "[B" (.ref (adV i)) (adK i) (fun q => s0.heap.size ≤ q) s0 s0.heap ∧ va_T .byte (adV i) (xlen.getD i 0) (fun j => .int ((xbyt.getD i []).getD j 0)) (fun q => s0.heap.size ≤ q) s0 s0.heap) ∧
  (∀ q ∈ xlits, vk_R q.1 q.2.1 q.2.2.1 (adK q.2.2.2) s0) ∧ va_Z "java/lang/String" "COMPACT_STRINGS" "Z" (.int 1) (fun q => s0.heap.size ≤ q) s0 s0.heap ∧ va_Zq "jdk/internal/util/Preconditions" "SIOOBE_FORMATTER" "Ljava/util/function/BiFunction;" (fun q => s0.heap.size ≤ q) s0 s0.heap ∧
  (∀ w ∈ xthrown, w.before #[] s0 = true)
/-- what a state must be, beside the cells: it has come from s0, and nothing old was written -/
def xE (D : va_G) (lay : Nat → Nat) (cA : Nat → ClassId) (adK adV : Nat → Nat) (s0 : State) (U : State) (H : Heap) : Prop :=
  xF D lay cA adK adV s0 ∧ s0.WarmedH U.vm ∧ ∀ q : Nat, q < s0.heap.size → H[q]? = s0.heap[q]?
section XE
variable {D : va_G} {lay : Nat → Nat} {cA : Nat → ClassId} {adK adV : Nat → Nat} {s0 : State} {s U : State} {H H1 : Heap} {locs : List Loc} {S : XS}
theorem xE.K (h : xE D lay cA adK adV s0 U H) : va_K D xcl (xtys cA) U := va_K.moved h.2.1.alike h.1.1
theorem xE.inj (h : xE D lay cA adK adV s0 U H) : xInj 180 lay := h.1.2.1
theorem xE.far (h : xE D lay cA adK adV s0 U H) : ∀ q, xI lay q → s0.heap.size ≤ q := fun q hq => by
  obtain ⟨i, hi, rfl⟩ := hq
  exact h.1.2.2.1 i hi
theorem xE.keep (h : xE D lay cA adK adV s0 U H) : ∀ a : Nat, a < s0.heap.size → ¬ (fun q => s0.heap.size ≤ q) a → H[a]? = s0.heap[a]? := fun a ha _ => h.2.2 a ha
theorem xE.nest (h : xE D lay cA adK adV s0 U H) {w : Cond} (hw : w ∈ xN) {args : Array Value} : w.before args U = true := va_Nw.use (xN_on hw) (xN_warm hw h.2.1 (h.1.2.2.2.1 w hw))
theorem xE.dd (h : xE D lay cA adK adV s0 U H) : va_D (xI lay) (xw lay cA S) := xW_D h.inj
theorem xE.str (h : xE D lay cA adK adV s0 U H) {i : Nat} (hi : i < xnl) : va_O "java/lang/String" (adK i) (xI lay) U H ∧ va_OF "java/lang/String" "coder" "B" (.int 0) (adK i) (xI lay) U H ∧ va_OF "java/lang/String" "value" "[B" (.ref (adV i)) (adK i) (xI lay) U H ∧ va_T .byte (adV i) (xlen.getD i 0) (fun j => .int ((xbyt.getD i []).getD j 0)) (xI lay) U H := by
  obtain ⟨h1, h2, h3, h4⟩ := h.1.2.2.2.2.1 i hi
  exact ⟨((va_O.moved h.2.1.alike h1).kept h.keep).narrow h.far, ((va_OF.moved h.2.1.alike h2).kept h.keep).narrow h.far, ((va_OF.moved h.2.1.alike h3).kept h.keep).narrow h.far, ((va_T.moved h.2.1.alike h4).kept h.keep).narrow h.far⟩
theorem xE.lit (h : xE D lay cA adK adV s0 U H) {own tx : String} {k i : Nat} (hm : (own, k, tx, i) ∈ xlits) : vk_R own k tx (adK i) U := vk_R.warm h.2.1 (h.1.2.2.2.2.2.1 _ hm)
theorem xE.cs (h : xE D lay cA adK adV s0 U H) : va_Z "java/lang/String" "COMPACT_STRINGS" "Z" (.int 1) (xI lay) U H := ((va_Z.moved h.2.1.alike h.1.2.2.2.2.2.2.1).kept h.keep).narrow h.far
theorem xE.sio (h : xE D lay cA adK adV s0 U H) : va_Zq "jdk/internal/util/Preconditions" "SIOOBE_FORMATTER" "Ljava/util/function/BiFunction;" (xI lay) U H := ((va_Zq.moved h.2.1.alike h.1.2.2.2.2.2.2.2.1).kept h.keep).narrow h.far
theorem xE.warm (h : xE D lay cA adK adV s0 s H) (hk : ∀ q : Nat, q < H.size → ¬ xI lay q → H1[q]? = H[q]?) (hW : s.WarmedH U.vm) : xE D lay cA adK adV s0 U H1 := by
  refine ⟨h.1, State.WarmedH.trans h.2.1 hW, fun q hq => ?_⟩
  have h1 := h.2.2 q hq
  have hlt : q < H.size := by
    rcases Nat.lt_or_ge q H.size with z | z
    · exact z
    · rw [Array.getElem?_eq_none z, Array.getElem?_eq_getElem hq] at h1
      cases h1
  rw [hk q hlt (fun z => absurd (h.far q z) (Nat.not_le.mpr hq))]
  exact h1
theorem xE.calling (h : xE D lay cA adK adV s0 U H) (g : JFrame) (mk : MethodId) (a : Array Value) : xE D lay cA adK adV s0 (U.calling g mk a) H := ⟨h.1, h.2.1, h.2.2⟩
end XE
/-- a method's start over the class's world -/
def xPc (D : va_G) (lay : Nat → Nat) (cA : Nat → ClassId) (adK adV : Nat → Nat) (s0 : State) (S : XS) (av : List Value) : Array Value → State → Prop := va_Pc av (fun U => va_P D xcl (xw lay cA S) U.heap ∧ xE D lay cA adK adV s0 U U.heap)
theorem xPc_blind (D : va_G) (lay : Nat → Nat) (cA : Nat → ClassId) (adK adV : Nat → Nat) (s0 : State) (S : XS) (av : List Value) : FrameBlind (xPc D lay cA adK adV s0 S av) := fun a U g mk q => by
  obtain ⟨q0, qP, qE⟩ := q
  exact ⟨q0, qP, qE.calling g mk a⟩
theorem xPc_at {D : va_G} {lay : Nat → Nat} {cA : Nat → ClassId} {adK adV : Nat → Nat} {s0 : State} {S : XS} {s : State} {H : Heap} {locs : List Loc} (av : List Value) (E : xE D lay cA adK adV s0 s s.heap) (hP : va_P D xcl (xw lay cA S) H) (hS : va_S (xI lay) s.heap H locs) : ∀ U : State, U.heap = H → s.WarmedH U.vm → xPc D lay cA adK adV s0 S av av.toArray U :=
  fun U hU hW => ⟨rfl, by rw [hU]; exact hP, by rw [hU]; exact E.warm hS.2.1 hW⟩
/-- ends of methods that do not throw -/
def xqi (D : va_G) (lay : Nat → Nat) (cA : Nat → ClassId) (r : Int32) (S : XS) : Array Value → State → Outcome → State → Prop := va_Qi (fun r' (_ : Unit) => r' = r) (fun _ t => va_P D xcl (xw lay cA S) t.heap) (xI lay)
def xql (D : va_G) (lay : Nat → Nat) (cA : Nat → ClassId) (r : Int64) (S : XS) : Array Value → State → Outcome → State → Prop := va_Ql (fun r' (_ : Unit) => r' = r) (fun _ t => va_P D xcl (xw lay cA S) t.heap) (xI lay)
def xqv (D : va_G) (lay : Nat → Nat) (cA : Nat → ClassId) (S : XS) : Array Value → State → Outcome → State → Prop := va_Qv (fun _ : Unit => True) (fun _ t => va_P D xcl (xw lay cA S) t.heap) (xI lay)
def xqo (D : va_G) (lay : Nat → Nat) (cA : Nat → ClassId) (r : Option Nat) (S : XS) : Array Value → State → Outcome → State → Prop := fun _ st oc t => (oc = .returned (some (va_rf (r.map lay))) ∧ va_P D xcl (xw lay cA S) t.heap) ∧ va_F (xI lay) st t
/-- what a method's walk is given, once -/
def xB (p : Program) (s : State) (m : MethodId) (args : Array Value) (meth : Method) (c : Code) (own : String) (cc : ByteArray) (ret : Option FieldType) (nL : Nat) : Prop :=
  p.tables.exec = Jvm.exec ∧ c.code = cc ∧ meth.sig.returnType = ret ∧ c.maxLocals = nL ∧ s.vm.findClass own = some m.cls ∧ (∀ w ∈ xT, w.before args s = true) ∧ meth.locks = false ∧ c.exceptionTable.isEmpty = true
theorem xB_of {p : Program} {l : Launch} {y : MethodName} {rm : Room} {cc : ByteArray} {nL : Nat} {ret : Option FieldType} {e : Env} {s : State} {m : MethodId} {args : Array Value} {below : List Frame} {meth : Method} {c : Code} {s₁ : State}
    (B : BodyLoose p l y (headSpec (.code y cc nL ret :: xT) rm) cc nL ret e s m args below meth c s₁) (hml : c.maxLocals = nL) : xB p s m args meth c y.cls cc ret nL := by
  have hts := atoms_spec (ws := .code y cc nL ret :: xT) B.pre
  exact ⟨B.exec, B.bytes, B.returns, hml, findClass_of_methodNamed B.named, fun w hw => hts w (List.mem_cons_of_mem _ hw), B.notSynchronized, B.noHandlers (hts _ List.mem_cons_self)⟩
section XC
variable {p : Program} {l : Launch} {e : Env} {R : Room} {s : State} {m : MethodId} {args : Array Value} {below : List Frame} {meth : Method} {c : Code} {H : Heap} {locs : List Loc} {cells slots : Nat} {Q : State → Prop}
variable {pc : Nat} {ls : Array Slot} {rest st0 : List Value} {a : Array Value} {D : va_G} {lay : Nat → Nat} {cA : Nat → ClassId} {adK adV : Nat → Nat} {s0 : State} {S : XS}
/-- behind calls -/
theorem xc_i {r : Int32} (hr : va_Run p l e R s m args below meth c H locs cells slots 0 0 (F0 m pc ls st0) rest (xqi D lay cA r S a) (xI lay)) (hS : va_S (xI lay) s.heap H locs)
    (kk : ∀ (H : Heap) (locs : List Loc), va_P D xcl (xw lay cA S) H → va_S (xI lay) s.heap H locs → W p l e R s m args below meth c H locs cells slots Q (F0 m (pc + 3) ls (.int r :: rest))) : W p l e R s m args below meth c H locs cells slots Q (F0 m pc ls st0) :=
  va_calli hr hS (fun _ _ h => h) (fun _ h => h) (fun r u t H1 locs1 ht _ hw hB _ _ hS1 => by subst hw; rw [ht] at hB; exact kk H1 locs1 hB hS1)
theorem xc_l {r : Int64} (hr : va_Run p l e R s m args below meth c H locs cells slots 0 0 (F0 m pc ls st0) rest (xql D lay cA r S a) (xI lay)) (hS : va_S (xI lay) s.heap H locs)
    (kk : ∀ (H : Heap) (locs : List Loc), va_P D xcl (xw lay cA S) H → va_S (xI lay) s.heap H locs → W p l e R s m args below meth c H locs cells slots Q (F0 m (pc + 3) ls (.long r :: rest))) : W p l e R s m args below meth c H locs cells slots Q (F0 m pc ls st0) :=
  va_calll hr hS (fun _ _ h => h) (fun _ h => h) (fun r u t H1 locs1 ht _ hw hB _ _ hS1 => by subst hw; rw [ht] at hB; exact kk H1 locs1 hB hS1)
theorem xc_v (hr : va_Run p l e R s m args below meth c H locs cells slots 0 0 (F0 m pc ls st0) rest (xqv D lay cA S a) (xI lay)) (hS : va_S (xI lay) s.heap H locs)
    (kk : ∀ (H : Heap) (locs : List Loc), va_P D xcl (xw lay cA S) H → va_S (xI lay) s.heap H locs → W p l e R s m args below meth c H locs cells slots Q (F0 m (pc + 3) ls rest)) : W p l e R s m args below meth c H locs cells slots Q (F0 m pc ls st0) :=
  va_callv hr hS (fun _ _ h => h) (fun _ h => h) (fun u t H1 locs1 ht _ _ hB _ _ hS1 => by rw [ht] at hB; exact kk H1 locs1 hB hS1)
theorem xc_o {r : Option Nat} (hr : va_Run p l e R s m args below meth c H locs cells slots 0 0 (F0 m pc ls st0) rest (xqo D lay cA r S a) (xI lay)) (hS : va_S (xI lay) s.heap H locs)
    (kk : ∀ (H : Heap) (locs : List Loc), va_P D xcl (xw lay cA S) H → va_S (xI lay) s.heap H locs → W p l e R s m args below meth c H locs cells slots Q (F0 m (pc + 3) ls (va_rf (r.map lay) :: rest))) : W p l e R s m args below meth c H locs cells slots Q (F0 m pc ls st0) := by
  intro T hT X
  obtain ⟨v, st₀, t, T', L, h0, X', hL, e1, e2, ⟨⟨hv, hb⟩, hz, hk⟩, st⟩ := hr T hT X
  cases hv
  rw [h0] at hz hk
  rw [← e1] at hb
  obtain ⟨t2, a1, b1⟩ := kk T'.heap (locs ++ L) hb
    ⟨Nat.le_trans hS.1 (by rw [e1]; exact hz), fun q h1 h2 => by rw [e1, hk q (Nat.lt_of_lt_of_le h1 hS.1) h2]; exact hS.2.1 q h1 h2, fun q hq => by
      rcases List.mem_append.mp hq with h | h
      · exact hS.2.2 q h
      · exact hL q h⟩ T' rfl X'
  exact ⟨t2, st t2 a1, b1⟩
/-- a call's start: the receiver, the world -/
theorem xpV {C : String} {T : u_T} {N ci b : Nat} {fs As : List Value} (E : xE D lay cA adK adV s0 s s.heap) (hP : va_P D xcl (xw lay cA S) H) (hS : va_S (xI lay) s.heap H locs) (hb : b < 180) (he : xcell lay cA b (S.1 b) (S.2 b) = .inr (ci, fs)) (hc : xcl[ci]? = some (C, T, N)) :
    PreV s H C (lay b) (xPc D lay cA adK adV s0 S (.ref (lay b) :: As)) As :=
  ⟨xPc_blind D lay cA adK adV s0 S _, va_recv (q := (C, T, N)) E.K hP hc (xw_at hb he), xPc_at (.ref (lay b) :: As) E hP hS⟩
theorem xpS {As : List Value} (E : xE D lay cA adK adV s0 s s.heap) (hP : va_P D xcl (xw lay cA S) H) (hS : va_S (xI lay) s.heap H locs) : PreS s H (xPc D lay cA adK adV s0 S As) As :=
  ⟨xPc_blind D lay cA adK adV s0 S _, xPc_at As E hP hS⟩
theorem xpT {C : String} {b : Nat} {As : List Value} (E : xE D lay cA adK adV s0 s s.heap) (hP : va_P D xcl (xw lay cA S) H) (hS : va_S (xI lay) s.heap H locs) (hb : b < xnl) (hC : C = "java/lang/String") :
    PreV s H C (adK b) (xPc D lay cA adK adV s0 S (.ref (adK b) :: As)) As := by
  subst hC
  obtain ⟨cell, h1, h2, h3, h4⟩ := (E.str hb).1
  exact ⟨xPc_blind D lay cA adK adV s0 S _, ⟨cell, by rw [hS.2.1 _ (Array.getElem?_eq_some_iff.mp h1).1 h4]; exact h1, h2, h3⟩, xPc_at (.ref (adK b) :: As) E hP hS⟩
/-- ends of methods that may throw: the word's value says which -/
def xri (D : va_G) (lay : Nat → Nat) (cA : Nat → ClassId) (q : (Int32 × XS) ⊕ XS) : State → Option Value → State → Prop := fun st v t => (∃ r S', q = .inl (r, S') ∧ v = some (.int r) ∧ va_P D xcl (xw lay cA S') t.heap) ∧ va_F (xI lay) st t
def xrl (D : va_G) (lay : Nat → Nat) (cA : Nat → ClassId) (q : (Int64 × XS) ⊕ XS) : State → Option Value → State → Prop := fun st v t => (∃ r S', q = .inl (r, S') ∧ v = some (.long r) ∧ va_P D xcl (xw lay cA S') t.heap) ∧ va_F (xI lay) st t
def xrr (D : va_G) (lay : Nat → Nat) (cA : Nat → ClassId) (q : (Nat × XS) ⊕ XS) : State → Option Value → State → Prop := fun st v t => (∃ r S', q = .inl (r, S') ∧ v = some (.ref (lay r)) ∧ va_P D xcl (xw lay cA S') t.heap) ∧ va_F (xI lay) st t
def xrv (D : va_G) (lay : Nat → Nat) (cA : Nat → ClassId) (q : (Unit × XS) ⊕ XS) : State → Option Value → State → Prop := fun st v t => (∃ r S', q = .inl (r, S') ∧ v = none ∧ va_P D xcl (xw lay cA S') t.heap) ∧ va_F (xI lay) st t
def xex (x : Nat) (vm : Vm) (H : Heap) : Prop := ∃ ce : Cell, H[x]? = some ce ∧ ce.vm = .none ∧ vm.findClass "java/lang/IllegalArgumentException" = some ce.cls
def xrt {α : Type} (D : va_G) (lay : Nat → Nat) (cA : Nat → ClassId) (q : (α × XS) ⊕ XS) : State → Addr → State → Prop := fun st x t => (∃ S', q = .inr S' ∧ va_P D xcl (xw lay cA S') t.heap ∧ xex x t.vm t.heap) ∧ va_F (xI lay) st t
theorem xkt {α β : Type} {q : (α × XS) ⊕ XS} {q' : (β × XS) ⊕ XS} {Qr : State → Option Value → State → Prop} {x : Addr} {st t : State} {H1 : Heap} {locs1 : List Loc} (hnh : c.exceptionTable.isEmpty = true) (hlk : meth.locks = false) (he : ∀ S', q = .inr S' → q' = .inr S') (ha : s.vm.Alike t.vm) (hq : xrt D lay cA q st x t) (ht : t.heap = H1) (hS : va_S (xI lay) s.heap H1 locs1) :
    WT p l e R s m args below meth c H1 locs1 (0 + 1) (0 + 6) (XF below Qr (xrt D lay cA q') s 0 0 1 6 (xI lay)) (F0 m pc ls rest) x := by
  obtain ⟨⟨S', e1, hp, ce, h1, h2, h3⟩, -⟩ := hq
  refine xleave (cells := 1) (slots := 6) hnh hlk (fun t' ht' hW => ⟨⟨S', he S' e1, ?_, ce, ?_, h2, ?_⟩, ⟨by rw [ht']; exact hS.1, fun z hz hn => by rw [ht']; exact hS.2.1 z hz hn⟩⟩) hS.2.2
  · rw [ht', ← ht]; exact hp
  · rw [ht', ← ht]; exact h1
  · rw [hW.alike.findClass, ← ha.findClass]; exact h3
end XC
section XK
variable {p : Program} {l : Launch} {e : Env} {R : Room} {s : State} {m : MethodId} {args : Array Value} {below : List Frame} {meth : Method} {c : Code} {H : Heap} {locs : List Loc} {pc : Nat} {ls : Array Slot} {rest st0 : List Value} {D : va_G} {lay : Nat → Nat} {cA : Nat → ClassId} {β : Type} {q' : (β × XS) ⊕ XS} {Qr : State → Option Value → State → Prop}
theorem xk_i {q : (Int32 × XS) ⊕ XS} (hr : xRun p l e R s m args below meth c H locs 0 0 0 0 1 6 (F0 m pc ls st0) rest (xri D lay cA q) (xrt D lay cA q) (xI lay)) (hS : va_S (xI lay) s.heap H locs) (hnh : c.exceptionTable.isEmpty = true) (hlk : meth.locks = false) (he : ∀ S', q = .inr S' → q' = .inr S')
    (kk : ∀ (r : Int32) (S' : XS), q = .inl (r, S') → ∀ (H : Heap) (locs : List Loc), va_P D xcl (xw lay cA S') H → va_S (xI lay) s.heap H locs → W p l e R s m args below meth c H locs 0 0 (XF below Qr (xrt D lay cA q') s 0 0 1 6 (xI lay)) (F0 m (pc + 3) ls (.int r :: rest))) :
    W p l e R s m args below meth c H locs 0 0 (XF below Qr (xrt D lay cA q') s 0 0 1 6 (xI lay)) (F0 m pc ls st0) :=
  xgo hr hS (fun _ h => h) (fun _ _ _ h => h.2) (fun _ _ _ h => h.2) (fun v st t H1 locs1 _ ht _ hq hS1 => by
    obtain ⟨⟨r, S', e1, rfl, hp⟩, -⟩ := hq
    rw [ht] at hp
    exact kk r S' e1 H1 locs1 hp hS1) (fun x st t H1 locs1 _ ht ha hq hS1 => xkt hnh hlk he ha hq ht hS1)
theorem xk_l {q : (Int64 × XS) ⊕ XS} (hr : xRun p l e R s m args below meth c H locs 0 0 0 0 1 6 (F0 m pc ls st0) rest (xrl D lay cA q) (xrt D lay cA q) (xI lay)) (hS : va_S (xI lay) s.heap H locs) (hnh : c.exceptionTable.isEmpty = true) (hlk : meth.locks = false) (he : ∀ S', q = .inr S' → q' = .inr S')
    (kk : ∀ (r : Int64) (S' : XS), q = .inl (r, S') → ∀ (H : Heap) (locs : List Loc), va_P D xcl (xw lay cA S') H → va_S (xI lay) s.heap H locs → W p l e R s m args below meth c H locs 0 0 (XF below Qr (xrt D lay cA q') s 0 0 1 6 (xI lay)) (F0 m (pc + 3) ls (.long r :: rest))) :
    W p l e R s m args below meth c H locs 0 0 (XF below Qr (xrt D lay cA q') s 0 0 1 6 (xI lay)) (F0 m pc ls st0) :=
  xgo hr hS (fun _ h => h) (fun _ _ _ h => h.2) (fun _ _ _ h => h.2) (fun v st t H1 locs1 _ ht _ hq hS1 => by
    obtain ⟨⟨r, S', e1, rfl, hp⟩, -⟩ := hq
    rw [ht] at hp
    exact kk r S' e1 H1 locs1 hp hS1) (fun x st t H1 locs1 _ ht ha hq hS1 => xkt hnh hlk he ha hq ht hS1)
theorem xk_r {q : (Nat × XS) ⊕ XS} (hr : xRun p l e R s m args below meth c H locs 0 0 0 0 1 6 (F0 m pc ls st0) rest (xrr D lay cA q) (xrt D lay cA q) (xI lay)) (hS : va_S (xI lay) s.heap H locs) (hnh : c.exceptionTable.isEmpty = true) (hlk : meth.locks = false) (he : ∀ S', q = .inr S' → q' = .inr S')
    (kk : ∀ (r : Nat) (S' : XS), q = .inl (r, S') → ∀ (H : Heap) (locs : List Loc), va_P D xcl (xw lay cA S') H → va_S (xI lay) s.heap H locs → W p l e R s m args below meth c H locs 0 0 (XF below Qr (xrt D lay cA q') s 0 0 1 6 (xI lay)) (F0 m (pc + 3) ls (.ref (lay r) :: rest))) :
    W p l e R s m args below meth c H locs 0 0 (XF below Qr (xrt D lay cA q') s 0 0 1 6 (xI lay)) (F0 m pc ls st0) :=
  xgo hr hS (fun _ h => h) (fun _ _ _ h => h.2) (fun _ _ _ h => h.2) (fun v st t H1 locs1 _ ht _ hq hS1 => by
    obtain ⟨⟨r, S', e1, rfl, hp⟩, -⟩ := hq
    rw [ht] at hp
    exact kk r S' e1 H1 locs1 hp hS1) (fun x st t H1 locs1 _ ht ha hq hS1 => xkt hnh hlk he ha hq ht hS1)
theorem xk_v {q : (Unit × XS) ⊕ XS} (hr : xRun p l e R s m args below meth c H locs 0 0 0 0 1 6 (F0 m pc ls st0) rest (xrv D lay cA q) (xrt D lay cA q) (xI lay)) (hS : va_S (xI lay) s.heap H locs) (hnh : c.exceptionTable.isEmpty = true) (hlk : meth.locks = false) (he : ∀ S', q = .inr S' → q' = .inr S')
    (kk : ∀ (r : Unit) (S' : XS), q = .inl (r, S') → ∀ (H : Heap) (locs : List Loc), va_P D xcl (xw lay cA S') H → va_S (xI lay) s.heap H locs → W p l e R s m args below meth c H locs 0 0 (XF below Qr (xrt D lay cA q') s 0 0 1 6 (xI lay)) (F0 m (pc + 3) ls rest)) :
    W p l e R s m args below meth c H locs 0 0 (XF below Qr (xrt D lay cA q') s 0 0 1 6 (xI lay)) (F0 m pc ls st0) :=
  xgo hr hS (fun _ h => h) (fun _ _ _ h => h.2) (fun _ _ _ h => h.2) (fun v st t H1 locs1 _ ht _ hq hS1 => by
    obtain ⟨⟨r, S', e1, rfl, hp⟩, -⟩ := hq
    rw [ht] at hp
    exact kk r S' e1 H1 locs1 hp hS1) (fun x st t H1 locs1 _ ht ha hq hS1 => xkt hnh hlk he ha hq ht hS1)
end XK
def xT2 {α β : Type} (k : α → XS → Option ((β × XS) ⊕ XS)) : ((α × XS) ⊕ XS) → Option ((β × XS) ⊕ XS)
  | .inl q => k q.1 q.2
  | .inr S => some (.inr S)
theorem xif_t {α : Type} {c : Prop} [Decidable c] {a b : Option α} {r : α} (hc : c) (h : (if c then a else b) = some r) : a = some r := by rwa [if_pos hc] at h
theorem xif_f {α : Type} {c : Prop} [Decidable c] {a b : Option α} {r : α} (hc : ¬ c) (h : (if c then a else b) = some r) : b = some r := by rwa [if_neg hc] at h
theorem xtab {p : Program} {l : Launch} {e : Env} {R : Room} {s : State} {m : MethodId} {args : Array Value} {below : List Frame} {meth : Method} {c : Code} {H : Heap} {locs : List Loc} {cells slots : Nat} {Q : State → Prop} {cc : ByteArray} {pc : Nat} {ls : Array Slot} {rest : List Value} (hx : p.tables.exec = Jvm.exec) (hb : c.code = cc) {dflt lo hi : Int} {offs : Array Int} {len : Nat} {x : Int32} {tgt : Nat} (hdg : decode cc pc = .ok (.tableswitch dflt lo hi offs, len)) (ht : (pc : Int) + dflt = (tgt : Int))
    (hh : ¬ x.toInt < lo → ¬ hi < x.toInt → offs[(x.toInt - lo).toNat]? = some dflt) (k : W p l e R s m args below meth c H locs cells slots Q (F0 m tgt ls rest)) : W p l e R s m args below meth c H locs cells slots Q (F0 m pc ls (.int x :: rest)) := by
  by_cases h1 : x.toInt < lo
  · exact lv_tableOut hx hb hdg (Or.inl h1) ht k
  · by_cases h2 : hi < x.toInt
    · exact lv_tableOut hx hb hdg (Or.inr h2) ht k
    · exact lv_tableIn hx hb hdg h1 h2 (hh h1 h2) ht k
