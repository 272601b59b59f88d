/-! what the first state gives -/
def gL : List Cond := flatC (Jvm.Cond.and given_1 narrow_1)
/-- the words of a literal's content -/
def lW (tm : Term) (bs : List Int32) : List Cond := .exactly tm "java/lang/String" :: .eq (.field tm "java/lang/String" "coder" "B") (.int 0) :: .arrayOf (.field tm "java/lang/String" "value" "[B") .byte :: .eq (.length (.field tm "java/lang/String" "value" "[B")) (.int (Int32.ofNat bs.length)) :: (List.range bs.length).map (fun j => .eq (.elem (.field tm "java/lang/String" "value" "[B") (.int (Int32.ofNat j))) (.int (bs.getD j 0)))
def lHome : List (String × Nat) := [("ConfigTexts$Words", 64), ("ConfigTexts$Words", 45), ("ConfigTexts", 53), ("ConfigTexts$Words", 97), ("ConfigTexts$Reader", 117), ("ConfigTexts$Reader", 39), ("ConfigTexts$Reader", 80), ("ConfigTexts$Reader", 49), ("ConfigTexts$Reader", 57), ("ConfigTexts$Reader", 145), ("ConfigTexts$Reader", 150), ("ConfigTexts$Reader", 152), ("ConfigTexts$Reader", 155), ("ConfigTexts$Reader", 157), ("ConfigTexts$Reader", 161), ("ConfigTexts$Reader", 163), ("ConfigTexts$Reader", 171), ("ConfigTexts$Reader", 176), ("ConfigTexts$Reader", 178), ("ConfigTexts$Reader", 180), ("ConfigTexts$Reader", 189), ("ConfigTexts", 62), ("ConfigTexts$Reader", 200), ("ConfigTexts$Reader", 224), ("ConfigTexts$Reader", 209), ("ConfigTexts$Reader", 214), ("ConfigTexts$Reader", 216), ("ConfigTexts$Reader", 236)]
def lSt : List Nat := [36, 47, 71, 98, 265, 270, 280, 285, 290, 335, 344, 356, 366, 378, 389, 400, 405, 415, 435, 445, 475, 516, 539, 548, 553, 558, 568, 573]
def lSr : List Nat := [291, 428, 454, 492, 507, 523, 525, 534, 535, 537, 564, 573, 574, 576, 577, 578, 583, 593, 598, 603, 604, 609, 622, 627, 628, 637, 641, 646, 647, 652]
abbrev lTm (i : Nat) : Term := .string (lHome.getD i ("", 0)).1 (lHome.getD i ("", 0)).2
theorem l_in : ∀ i : Nat, i < 28 → (gL.drop (lSt.getD i 0)).take (4 + xlen.getD i 0) = lW (lTm i) (xbyt.getD i []) := by decide +kernel
theorem l_len : ∀ i : Nat, i < 28 → xlen.getD i 0 = (xbyt.getD i []).length ∧ xlen.getD i 0 < 200 := by decide +kernel
theorem l_home : ∀ i : Nat, i < 30 → ((xlits.getD i ("", 0, "", 0)).2.2.2 < 28 ∧ (((xlits.getD i ("", 0, "", 0)).1, (xlits.getD i ("", 0, "", 0)).2.1) = lHome.getD (xlits.getD i ("", 0, "", 0)).2.2.2 ("", 0) ∨ Cond.eq (lTm (xlits.getD i ("", 0, "", 0)).2.2.2) (.string (xlits.getD i ("", 0, "", 0)).1 (xlits.getD i ("", 0, "", 0)).2.1) ∈ gL)) ∧ tables_1[lSr.getD i 0]? = some (Cond.stringRef (xlits.getD i ("", 0, "", 0)).1 (xlits.getD i ("", 0, "", 0)).2.1 (xlits.getD i ("", 0, "", 0)).2.2.1) := by decide +kernel
theorem l_30 : xlits.length = 30 := by decide +kernel
theorem lit_of {args : Array Value} {s : State} {tm : Term} {bs : List Int32} {A : Nat → Prop} (hN : bs.length < 2 ^ 31) (h : ∀ w ∈ lW tm bs, w.before args s = true) (hA : ∀ a : Nat, a < s.heap.size → ¬ A a) :
    ∃ q : Nat × Nat, tm.eval args s none [] s = some (.ref q.1) ∧ va_O "java/lang/String" q.1 A s s.heap ∧ va_OF "java/lang/String" "coder" "B" (.int 0) q.1 A s s.heap ∧ va_OF "java/lang/String" "value" "[B" (.ref q.2) q.1 A s s.heap ∧ va_T .byte q.2 bs.length (fun j => .int (bs.getD j 0)) A s s.heap := by
  have h0 := h _ List.mem_cons_self
  have h1 := h _ (List.mem_cons_of_mem _ List.mem_cons_self)
  have h2 := h _ (List.mem_cons_of_mem _ (List.mem_cons_of_mem _ List.mem_cons_self))
  have h3 := h _ (List.mem_cons_of_mem _ (List.mem_cons_of_mem _ (List.mem_cons_of_mem _ List.mem_cons_self)))
  have h4 : ∀ j : Nat, j < bs.length → (Cond.eq (.elem (.field tm "java/lang/String" "value" "[B") (.int (Int32.ofNat j))) (.int (bs.getD j 0))).before args s = true := fun j hj =>
    h _ (List.mem_cons_of_mem _ (List.mem_cons_of_mem _ (List.mem_cons_of_mem _ (List.mem_cons_of_mem _ (List.mem_map.mpr ⟨j, List.mem_range.mpr hj, rfl⟩)))))
  obtain ⟨a, c, cA, kA, q1, q2, q3, q4, q5, q6, -⟩ := Cond.exactly_spec (args := args) (first := s) (o := none) (s := s) (idx := []) (t := tm) (cls := "java/lang/String") h0
  obtain ⟨t, ht, hT⟩ := va_Tof (f := fun j => .int (bs.getD j 0)) (A := A) hN h2 (va_eqt h3) (fun j hj => va_eqt (h4 j hj)) hA
  exact ⟨(a, t), q1, ⟨cA, q3, q5, by rw [q6]; exact q2, hA a (Array.getElem?_eq_some_iff.mp q3).1⟩, vk_OFof q1 (va_eqt h1) hA, vk_OFof q1 ht hA, hT⟩
theorem lits_of {s : State} {b : Nat} (tb : ∀ w ∈ tables_1, w.before #[Value.ref b] s = true) (hg : ∀ w ∈ gL, w.before #[Value.ref b] s = true) : ∃ adK adV : Nat → Nat,
    (∀ i, i < xnl → va_O "java/lang/String" (adK i) (fun q => s.heap.size ≤ q) s s.heap ∧ va_OF "java/lang/String" "coder" "B" (.int 0) (adK i) (fun q => s.heap.size ≤ q) s s.heap ∧ va_OF "java/lang/String" "value" "[B" (.ref (adV i)) (adK i) (fun q => s.heap.size ≤ q) s s.heap ∧ va_T .byte (adV i) (xlen.getD i 0) (fun j => .int ((xbyt.getD i []).getD j 0)) (fun q => s.heap.size ≤ q) s s.heap) ∧
    (∀ q ∈ xlits, vk_R q.1 q.2.1 q.2.2.1 (adK q.2.2.2) s) := by
  have hA : ∀ a : Nat, a < s.heap.size → ¬ (fun q => s.heap.size ≤ q) a := fun a ha => Nat.not_le.mpr ha
  have h0 : ∀ i : Nat, ∃ q : Nat × Nat, i < 28 → (lTm i).eval #[Value.ref b] s none [] s = some (.ref q.1) ∧ va_O "java/lang/String" q.1 (fun q => s.heap.size ≤ q) s s.heap ∧ va_OF "java/lang/String" "coder" "B" (.int 0) q.1 (fun q => s.heap.size ≤ q) s s.heap ∧ va_OF "java/lang/String" "value" "[B" (.ref q.2) q.1 (fun q => s.heap.size ≤ q) s s.heap ∧ va_T .byte q.2 (xlen.getD i 0) (fun j => .int ((xbyt.getD i []).getD j 0)) (fun q => s.heap.size ≤ q) s s.heap := by
    intro i
    by_cases hi : i < 28
    · obtain ⟨e1, e2⟩ := l_len i hi
      obtain ⟨q, hq⟩ := lit_of (bs := xbyt.getD i []) (by omega) (fun w hw => hg w (by rw [← l_in i hi] at hw; exact List.mem_of_mem_drop (List.mem_of_mem_take hw))) hA
      rw [← e1] at hq
      exact ⟨q, fun _ => hq⟩
    · exact ⟨(0, 0), fun h => absurd h hi⟩
  obtain ⟨ad, had⟩ := Classical.axiomOfChoice h0
  refine ⟨fun i => (ad i).1, fun i => (ad i).2, fun i hi => (had i hi).2, fun q hq => ?_⟩
  obtain ⟨i, hi, rfl⟩ := List.mem_iff_getElem.mp hq
  have hi30 : i < 30 := by rw [← l_30]; exact hi
  obtain ⟨⟨g1, g2⟩, g3⟩ := l_home i hi30
  have eg : xlits.getD i ("", 0, "", 0) = xlits[i] := by rw [List.getD_eq_getElem?_getD, List.getElem?_eq_getElem hi, Option.getD_some]; rfl
  rw [eg] at g1 g2 g3
  refine vk_R.of (A := #[Value.ref b]) (tb _ (List.mem_of_getElem? g3)) ?_
  have w := (had _ g1).1
  rcases g2 with g2 | g2
  · rw [lTm, ← g2] at w
    exact w
  · exact va_eqR (hg _ g2) w
theorem thr_of {s : State} {b : Nat} (tb : ∀ w ∈ tables_1, w.before #[Value.ref b] s = true) (hg : ∀ w ∈ gL, w.before #[Value.ref b] s = true) : ∀ w ∈ xthrown, w.before #[] s = true := by
  intro w hw
  have h1 : w.before #[Value.ref b] s = true := by
    rcases (show ∀ w ∈ xthrown, w ∈ tables_1 ∨ w ∈ gL by decide +kernel) w hw with h | h
    · exact tb w h
    · exact hg w h
  by_cases hn : (w.onTables && w.keepsFace) = true
  · simp only [Bool.and_eq_true] at hn
    exact va_Nw.of hn.1 h1
  · have hm : w ∈ xthrown.filter (fun w => !(w.onTables && w.keepsFace)) := List.mem_filter.mpr ⟨hw, by rw [Bool.not_eq_true] at hn; rw [hn]; rfl⟩
    rw [xthr_rest] at hm
    simp only [List.mem_cons, List.not_mem_nil, or_false] at hm
    rcases hm with rfl | rfl | rfl | rfl
    · exact h1
    · exact h1
    · exact h1
    · exact h1
theorem ar_byte {s : State} {b : Nat} (tb : ∀ w ∈ tables_1, w.before #[Value.ref b] s = true) : ∃ c : ClassId, ArrOfT s c .byte ∧ va_RA s c .byte := by
  obtain ⟨c, k, comp, h1, h2, h3⟩ := Cond.arrayClass_spec (tb _ (List.mem_of_getElem? (i := 63) (by decide +kernel) : (Jvm.Cond.arrayClass Jvm.ClassFile.FieldType.byte) ∈ tables_1))
  exact ⟨c, fun n z => ⟨fun k h => (by cases h), k, h2, comp, h3⟩, h1⟩
theorem ar_long {s : State} {b : Nat} (tb : ∀ w ∈ tables_1, w.before #[Value.ref b] s = true) : ∃ c : ClassId, ArrOfT s c .long ∧ va_RA s c .long := by
  obtain ⟨c, k, comp, h1, h2, h3⟩ := Cond.arrayClass_spec (tb _ (List.mem_of_getElem? (i := 108) (by decide +kernel) : (Jvm.Cond.arrayClass Jvm.ClassFile.FieldType.long) ∈ tables_1))
  exact ⟨c, fun n z => ⟨fun k h => (by cases h), k, h2, comp, h3⟩, h1⟩
theorem ar_int {s : State} {b : Nat} (tb : ∀ w ∈ tables_1, w.before #[Value.ref b] s = true) : ∃ c : ClassId, ArrOfT s c .int ∧ va_RA s c .int := by
  obtain ⟨c, k, comp, h1, h2, h3⟩ := Cond.arrayClass_spec (tb _ (List.mem_of_getElem? (i := 107) (by decide +kernel) : (Jvm.Cond.arrayClass Jvm.ClassFile.FieldType.int) ∈ tables_1))
  exact ⟨c, fun n z => ⟨fun k h => (by cases h), k, h2, comp, h3⟩, h1⟩
theorem ar_boolean {s : State} {b : Nat} (tb : ∀ w ∈ tables_1, w.before #[Value.ref b] s = true) : ∃ c : ClassId, ArrOfT s c .boolean ∧ va_RA s c .boolean := by
  obtain ⟨c, k, comp, h1, h2, h3⟩ := Cond.arrayClass_spec (tb _ (List.mem_of_getElem? (i := 824) (by decide +kernel) : (Jvm.Cond.arrayClass Jvm.ClassFile.FieldType.boolean) ∈ tables_1))
  exact ⟨c, fun n z => ⟨fun k h => (by cases h), k, h2, comp, h3⟩, h1⟩
theorem ar_PA {s : State} {b : Nat} (tb : ∀ w ∈ tables_1, w.before #[Value.ref b] s = true) : va_AO "ConfigTexts$Partition" s ∧ ∃ c : ClassId, ArrOfT s c (.object "ConfigTexts$Partition") ∧ va_RA s c (.object "ConfigTexts$Partition") := by
  have h : (Cond.arrayOver (.object "ConfigTexts$Partition")).before #[Value.ref b] s = true := tb _ (List.mem_of_getElem? (i := 71) (by decide +kernel))
  obtain ⟨comp, c, k, h1, h2, h3, h4, h5⟩ := Cond.arrayOver_spec h
  exact ⟨va_AO.of h, c, fun n z => ⟨fun k h => (by cases h), k, h3, comp, h4⟩, k, comp, h3, h4, h1, h5⟩
theorem ar_RO {s : State} {b : Nat} (tb : ∀ w ∈ tables_1, w.before #[Value.ref b] s = true) : va_AO "ConfigTexts$Rows" s ∧ ∃ c : ClassId, ArrOfT s c (.object "ConfigTexts$Rows") ∧ va_RA s c (.object "ConfigTexts$Rows") := by
  have h : (Cond.arrayOver (.object "ConfigTexts$Rows")).before #[Value.ref b] s = true := tb _ (List.mem_of_getElem? (i := 78) (by decide +kernel))
  obtain ⟨comp, c, k, h1, h2, h3, h4, h5⟩ := Cond.arrayOver_spec h
  exact ⟨va_AO.of h, c, fun n z => ⟨fun k h => (by cases h), k, h3, comp, h4⟩, k, comp, h3, h4, h1, h5⟩
theorem st_MOST_OF_SORT {s : State} {b : Nat} (tb : ∀ w ∈ tables_1, w.before #[Value.ref b] s = true) (hg : ∀ w ∈ gL, w.before #[Value.ref b] s = true) : ∃ t : Nat, va_Z "ConfigTexts" "MOST_OF_SORT" "[I" (.ref t) (fun q => s.heap.size ≤ q) s s.heap ∧ va_T .int t 6 (fun j => .int ([8, 4, 4, 4, 4, 8].getD j 0)) (fun q => s.heap.size ≤ q) s s.heap := by
  have hA : ∀ a : Nat, a < s.heap.size → ¬ (fun q => s.heap.size ≤ q) a := fun a ha => Nat.not_le.mpr ha
  have hl : (Jvm.Cond.laysStatic "ConfigTexts" "MOST_OF_SORT" "[I").before #[Value.ref b] s = true := tb _ (List.mem_of_getElem? (i := 81) (by decide +kernel) : (Jvm.Cond.laysStatic "ConfigTexts" "MOST_OF_SORT" "[I") ∈ tables_1)
  have hi : (Jvm.Cond.initialized "ConfigTexts").before #[Value.ref b] s = true := tb _ (List.mem_of_getElem? (i := 1) (by decide +kernel) : (Jvm.Cond.initialized "ConfigTexts") ∈ tables_1)
  have ha : (Cond.arrayOf (.static "ConfigTexts" "MOST_OF_SORT" "[I") .int).before #[Value.ref b] s = true := hg _ (List.mem_of_getElem? (i := 5) (by decide +kernel) : (Jvm.Cond.arrayOf (Jvm.Term.static "ConfigTexts" "MOST_OF_SORT" "[I") Jvm.ClassFile.FieldType.int) ∈ gL)
  have hz : (Cond.eq (.length (.static "ConfigTexts" "MOST_OF_SORT" "[I")) (.int (Int32.ofNat 6))).before #[Value.ref b] s = true := hg _ (List.mem_of_getElem? (i := 6) (by decide +kernel))
  have he : ∀ j : Nat, j < 6 → (Cond.eq (.elem (.static "ConfigTexts" "MOST_OF_SORT" "[I") (.int (Int32.ofNat j))) (.int ([8, 4, 4, 4, 4, 8].getD j 0))).before #[Value.ref b] s = true := by
    intro j hj
    refine hg _ (List.mem_of_getElem? (i := 7 + j) ?_)
    exact (show ∀ j : Nat, j < 6 → gL[7 + j]? = some (Cond.eq (.elem (.static "ConfigTexts" "MOST_OF_SORT" "[I") (.int (Int32.ofNat j))) (.int ([8, 4, 4, 4, 4, 8].getD j 0))) by decide +kernel) j hj
  obtain ⟨t, h1, h2⟩ := va_Tof (f := fun j => .int ([8, 4, 4, 4, 4, 8].getD j 0)) (A := fun q => s.heap.size ≤ q) (by decide) ha (va_eqt hz) (fun j hj => va_eqt (he j hj)) hA
  exact ⟨t, va_Zref hl hi h1 hA, h2⟩
theorem st_WIDTH_OF_SORT {s : State} {b : Nat} (tb : ∀ w ∈ tables_1, w.before #[Value.ref b] s = true) (hg : ∀ w ∈ gL, w.before #[Value.ref b] s = true) : ∃ t : Nat, va_Z "ConfigTexts" "WIDTH_OF_SORT" "[I" (.ref t) (fun q => s.heap.size ≤ q) s s.heap ∧ va_T .int t 6 (fun j => .int ([5, 2, 0, 1, 0, 3].getD j 0)) (fun q => s.heap.size ≤ q) s s.heap := by
  have hA : ∀ a : Nat, a < s.heap.size → ¬ (fun q => s.heap.size ≤ q) a := fun a ha => Nat.not_le.mpr ha
  have hl : (Jvm.Cond.laysStatic "ConfigTexts" "WIDTH_OF_SORT" "[I").before #[Value.ref b] s = true := tb _ (List.mem_of_getElem? (i := 83) (by decide +kernel) : (Jvm.Cond.laysStatic "ConfigTexts" "WIDTH_OF_SORT" "[I") ∈ tables_1)
  have hi : (Jvm.Cond.initialized "ConfigTexts").before #[Value.ref b] s = true := tb _ (List.mem_of_getElem? (i := 1) (by decide +kernel) : (Jvm.Cond.initialized "ConfigTexts") ∈ tables_1)
  have ha : (Cond.arrayOf (.static "ConfigTexts" "WIDTH_OF_SORT" "[I") .int).before #[Value.ref b] s = true := hg _ (List.mem_of_getElem? (i := 14) (by decide +kernel) : (Jvm.Cond.arrayOf (Jvm.Term.static "ConfigTexts" "WIDTH_OF_SORT" "[I") Jvm.ClassFile.FieldType.int) ∈ gL)
  have hz : (Cond.eq (.length (.static "ConfigTexts" "WIDTH_OF_SORT" "[I")) (.int (Int32.ofNat 6))).before #[Value.ref b] s = true := hg _ (List.mem_of_getElem? (i := 15) (by decide +kernel))
  have he : ∀ j : Nat, j < 6 → (Cond.eq (.elem (.static "ConfigTexts" "WIDTH_OF_SORT" "[I") (.int (Int32.ofNat j))) (.int ([5, 2, 0, 1, 0, 3].getD j 0))).before #[Value.ref b] s = true := by
    intro j hj
    refine hg _ (List.mem_of_getElem? (i := 16 + j) ?_)
    exact (show ∀ j : Nat, j < 6 → gL[16 + j]? = some (Cond.eq (.elem (.static "ConfigTexts" "WIDTH_OF_SORT" "[I") (.int (Int32.ofNat j))) (.int ([5, 2, 0, 1, 0, 3].getD j 0))) by decide +kernel) j hj
  obtain ⟨t, h1, h2⟩ := va_Tof (f := fun j => .int ([5, 2, 0, 1, 0, 3].getD j 0)) (A := fun q => s.heap.size ≤ q) (by decide) ha (va_eqt hz) (fun j hj => va_eqt (he j hj)) hA
  exact ⟨t, va_Zref hl hi h1 hA, h2⟩
theorem law_facts {s : State} {b : Nat} (hts0 : ∀ w ∈ lw_tbl, w.before #[Value.ref b] s = true) (hgv : (Jvm.Cond.and given_1 narrow_1).before #[Value.ref b] s = true) : ∃ (D : va_G) (cA cm : Nat → ClassId) (adK adV : Nat → Nat) (t1 t2 : Nat), xF D (cB s.heap.size) cA adK adV s ∧ va_K D xcl (mtys cm) s ∧ cF cA t1 t2 s := by
  have hts : ∀ w ∈ xT, w.before #[Value.ref b] s = true := fun w hw => hts0 w (List.mem_filter.mp hw).1
  have tb : ∀ w ∈ tables_1, w.before #[Value.ref b] s = true := fun w hw => hts0 w (List.mem_append_right _ hw)
  have hg : ∀ w ∈ gL, w.before #[Value.ref b] s = true := flat_of_before _ hgv
  have hA : ∀ a : Nat, a < s.heap.size → ¬ (fun q => s.heap.size ≤ q) a := fun a ha => Nat.not_le.mpr ha
  obtain ⟨c0, i0, k0⟩ := u_known (C := R_CF) (T := F_CF) (N := 7) (n := 7) hts i_CF (tb _ (List.mem_of_getElem? (i := 65) (by decide +kernel) : (Jvm.Cond.instantiable "ConfigTexts$Configuration" (7 : Nat)) ∈ tables_1))
  obtain ⟨c1, i1, k1⟩ := u_known (C := R_PA) (T := F_PA) (N := 5) (n := 5) hts i_PA (tb _ (List.mem_of_getElem? (i := 72) (by decide +kernel) : (Jvm.Cond.instantiable "ConfigTexts$Partition" (5 : Nat)) ∈ tables_1))
  obtain ⟨c2, i2, k2⟩ := u_known (C := R_RD) (T := F_RD) (N := 4) (n := 4) hts i_RD (tb _ (List.mem_of_getElem? (i := 164) (by decide +kernel) : (Jvm.Cond.instantiable "ConfigTexts$Reader" (4 : Nat)) ∈ tables_1))
  obtain ⟨c3, i3, k3⟩ := u_known (C := R_RO) (T := F_RO) (N := 5) (n := 5) hts i_RO (tb _ (List.mem_of_getElem? (i := 79) (by decide +kernel) : (Jvm.Cond.instantiable "ConfigTexts$Rows" (5 : Nat)) ∈ tables_1))
  obtain ⟨c4, i4, k4⟩ := u_known (C := R_WO) (T := F_WO) (N := 9) (n := 9) hts i_WO (tb _ (List.mem_of_getElem? (i := 27) (by decide +kernel) : (Jvm.Cond.instantiable "ConfigTexts$Words" (9 : Nat)) ∈ tables_1))
  obtain ⟨c5, i5, k5⟩ := u_known (C := R_CT) (T := F_CT) (N := 6) (n := 6) hts i_CT (tb _ (List.mem_of_getElem? (i := 19) (by decide +kernel) : (Jvm.Cond.instantiable "ConfigTexts" (6 : Nat)) ∈ tables_1))
  obtain ⟨c6, i6, k6⟩ := u_known (C := R_MO) (T := F_MO) (N := 41) (n := 41) hts i_MO (tb _ (List.mem_of_getElem? (i := 662) (by decide +kernel) : (Jvm.Cond.instantiable "ConfigTextsModel" (41 : Nat)) ∈ tables_1))
  have hc : ∀ (k : Nat) (q : vw_C), xcl[k]? = some q → u_Kn s q.1 q.2.1 q.2.2 ([c0, c1, c2, c3, c4, c5, c6].getD k c0) ([i0, i1, i2, i3, i4, i5, i6].getD k i0) := by
    intro k q hq
    match k, hq with
    | 0, hq => cases hq; exact k0
    | 1, hq => cases hq; exact k1
    | 2, hq => cases hq; exact k2
    | 3, hq => cases hq; exact k3
    | 4, hq => cases hq; exact k4
    | 5, hq => cases hq; exact k5
    | 6, hq => cases hq; exact k6
    | k + 7, hq => simp [xcl] at hq
  obtain ⟨ab, hab⟩ := ar_byte tb
  obtain ⟨al, hal⟩ := ar_long tb
  obtain ⟨ai, hai⟩ := ar_int tb
  obtain ⟨az, haz⟩ := ar_boolean tb
  obtain ⟨op, ap, hap⟩ := ar_PA tb
  obtain ⟨oq, ar, har⟩ := ar_RO tb
  obtain ⟨t1, z1, a1⟩ := st_MOST_OF_SORT tb hg
  obtain ⟨t2, z2, a2⟩ := st_WIDTH_OF_SORT tb hg
  obtain ⟨adK, adV, L1, L2⟩ := lits_of tb hg
  have hN : ∀ w ∈ xN, va_Nw w s := fun w hw => va_Nw.of (xN_on hw) (tb w (List.mem_filter.mp hw).1)
  refine ⟨(fun k => [c0, c1, c2, c3, c4, c5, c6].getD k c0, fun k => [i0, i1, i2, i3, i4, i5, i6].getD k i0), fun k => [ab, al, ai, ap, ar].getD k ab, fun k => [ab, al, ai, az].getD k ab, adK, adV, t1, t2, ⟨⟨hc, ?_⟩, lB_inj, fun i _ => Nat.le_add_right _ _, hN, L1, L2, ?_, ?_, thr_of tb hg⟩, ⟨hc, ?_⟩, ⟨z1, a1, z2, a2, hN, op, oq⟩⟩
  · intro k q hq
    match k, hq with
    | 0, hq => cases hq; exact hab
    | 1, hq => cases hq; exact hal
    | 2, hq => cases hq; exact hai
    | 3, hq => cases hq; exact hap
    | 4, hq => cases hq; exact har
    | k + 5, hq => simp [xtys] at hq
  · exact va_Zof (tb _ (List.mem_of_getElem? (i := 305) (by decide +kernel) : (Jvm.Cond.laysStatic "java/lang/String" "COMPACT_STRINGS" "Z") ∈ tables_1)) (tb _ (List.mem_of_getElem? (i := 9) (by decide +kernel) : (Jvm.Cond.initialized "java/lang/String") ∈ tables_1)) (va_eqt (hg _ (List.mem_of_getElem? (i := 22) (by decide +kernel) : (Jvm.Cond.eq (Jvm.Term.static "java/lang/String" "COMPACT_STRINGS" "Z") (Jvm.Term.int (1 : Int32))) ∈ gL))) hA
  · exact va_Zqof (tb _ (List.mem_of_getElem? (i := 346) (by decide +kernel) : (Jvm.Cond.laysStatic "jdk/internal/util/Preconditions" "SIOOBE_FORMATTER" "Ljava/util/function/BiFunction;") ∈ tables_1)) (tb _ (List.mem_of_getElem? (i := 12) (by decide +kernel) : (Jvm.Cond.initialized "jdk/internal/util/Preconditions") ∈ tables_1)) (hg _ (List.mem_of_getElem? (i := 23) (by decide +kernel) : (Jvm.Cond.isRef (Jvm.Term.static "jdk/internal/util/Preconditions" "SIOOBE_FORMATTER" "Ljava/util/function/BiFunction;")) ∈ gL)) hA
  · intro k q hq
    match k, hq with
    | 0, hq => cases hq; exact hab
    | 1, hq => cases hq; exact hal
    | 2, hq => cases hq; exact hai
    | 3, hq => cases hq; exact haz
    | k + 4, hq => simp [mtys] at hq
