/-! constructors: the world grows: n cells at lay 0 .. lay (n - 1), what each holds by f -/
theorem xW_up {n : Nat} {lay : Nat → Nat} {f : Nat → va_E} {i : Nat} {e : va_E} : (xW n lay f).set i (lay i, e) = xW n lay (va_up f i e) := xW_set (va_up_self _ _ _) (fun _ hk => va_up_ne _ _ hk)
theorem xW_push {n : Nat} {lay : Nat → Nat} {f : Nat → va_E} {q : Nat} {e : va_E} : xW n lay f ++ [(q, e)] = xW (n + 1) (va_up lay n q) (va_up f n e) := by
  apply List.ext_getElem?
  intro k
  rcases Nat.lt_trichotomy k n with h | h | h
  · rw [List.getElem?_append_left (by simpa [xW] using h), xW_at h rfl, xW_at (by omega) rfl, va_up_ne _ _ (by omega), va_up_ne _ _ (by omega)]
  · subst h
    rw [List.getElem?_append_right (by simp [xW]), xW_at (by omega) rfl, va_up_self, va_up_self]
    simp [xW]
  · rw [List.getElem?_eq_none (by simp [xW]; omega), List.getElem?_eq_none (by simp [xW]; omega)]
theorem xW_eq {n : Nat} {lay lay' : Nat → Nat} {f g : Nat → va_E} (h : ∀ i, i < n → lay i = lay' i ∧ f i = g i) : xW n lay f = xW n lay' g := by
  apply List.map_congr_left
  intro i hi
  obtain ⟨h1, h2⟩ := h i (List.mem_range.mp hi)
  rw [h1, h2]
/-- arrays are told apart by their places below their length alone -/
theorem arr_eq {cA : ClassId} {n : Nat} {f g : Nat → Option Nat} (h : ∀ j, j < n → f j = g j) : vp_cell cA (n, .inr (.inr (.inr (.inr f)))) = vp_cell cA (n, .inr (.inr (.inr (.inr g)))) := by
  rw [vp_cell_q, vp_cell_q, arrV, arrV]
  congr 1
  apply Array.ext
  · simp
  · intro i h1 h2
    simp at h1
    simp [h i h1]
theorem xP_arr0 {D : va_G} {n i : Nat} {lay : Nat → Nat} {f : Nat → va_E} {H : Heap} {cA : ClassId} {k : Nat} {g g' : Nat → Option Nat} (h : va_P D xcl (xW n lay f) H) (hi : f i = .inl (cA, k, .inr (.inr (.inr (.inr g))))) (hg : ∀ j, j < k → g j = g' j) : va_P D xcl (xW n lay (va_up f i (.inl (cA, k, .inr (.inr (.inr (.inr g'))))))) H := by
  intro m q hq
  obtain ⟨hm, rfl⟩ := xW_get hq
  have h1 := h m _ (xW_at hm rfl)
  by_cases hmi : m = i
  · subst hmi
    rw [va_up_self]
    rw [hi] at h1
    show H[lay m]? = some (vp_cell cA (k, .inr (.inr (.inr (.inr g')))))
    rw [← arr_eq hg]
    exact h1
  · rw [va_up_ne _ _ hmi]
    exact h1
def cO (b : Nat) : Nat → Prop := fun q => b ≤ q
def z0 (i j : Nat) : Int32 := if i = 2 ∧ j = 8 then -1 else if i = 179 ∧ j = 3 then -1 else if xR i then (if j = 0 then nI (xMost i) else if j = 1 then nI (xWid i) else 0) else 0
def S0 : XS := (z0, fun _ _ => 0)
/-- a cell that is made -/
abbrev cC (lay : Nat → Nat) (cA : Nat → ClassId) (i : Nat) : va_E := xcell lay cA i (z0 i) (fun _ => 0)
/-- the first state, for constructors: the two static arrays -/
def cF (cA : Nat → ClassId) (t1 t2 : Nat) (s0 : State) : Prop :=
  va_Z "ConfigTexts" "MOST_OF_SORT" "[I" (.ref t1) (fun q => s0.heap.size ≤ q) s0 s0.heap ∧ va_T .int t1 6 (fun j => .int ([8, 4, 4, 4, 4, 8].getD j 0)) (fun q => s0.heap.size ≤ q) s0 s0.heap ∧
  va_Z "ConfigTexts" "WIDTH_OF_SORT" "[I" (.ref t2) (fun q => s0.heap.size ≤ q) s0 s0.heap ∧ va_T .int t2 6 (fun j => .int ([5, 2, 0, 1, 0, 3].getD j 0)) (fun q => s0.heap.size ≤ q) s0 s0.heap ∧
  (∀ w ∈ xN, va_Nw w s0) ∧ va_AO "ConfigTexts$Partition" s0 ∧ va_AO "ConfigTexts$Rows" s0
def cE (cA : Nat → ClassId) (t1 t2 b : Nat) (s0 U : State) (H : Heap) : Prop := cF cA t1 t2 s0 ∧ s0.WarmedH U.vm ∧ (∀ q : Nat, q < s0.heap.size → H[q]? = s0.heap[q]?) ∧ s0.heap.size ≤ b ∧ b ≤ H.size
section CE
variable {cA : Nat → ClassId} {t1 t2 b : Nat} {s0 s U : State} {H H1 : Heap} {locs : List Loc}
theorem cE.far (h : cE cA t1 t2 b s0 U H) : ∀ q, cO b q → s0.heap.size ≤ q := fun q hq => Nat.le_trans h.2.2.2.1 hq
theorem cE.keep (h : cE cA t1 t2 b s0 U H) : ∀ a : Nat, a < s0.heap.size → ¬ (fun q => s0.heap.size ≤ q) a → H[a]? = s0.heap[a]? := fun a ha _ => h.2.2.1 a ha
theorem cE.z1 (h : cE cA t1 t2 b s0 U H) : va_Z "ConfigTexts" "MOST_OF_SORT" "[I" (.ref t1) (cO b) U H := ((va_Z.moved h.2.1.alike h.1.1).kept h.keep).narrow h.far
theorem cE.a1 (h : cE cA t1 t2 b s0 U H) : va_T .int t1 6 (fun j => .int ([8, 4, 4, 4, 4, 8].getD j 0)) (cO b) U H := ((va_T.moved h.2.1.alike h.1.2.1).kept h.keep).narrow h.far
theorem cE.z2 (h : cE cA t1 t2 b s0 U H) : va_Z "ConfigTexts" "WIDTH_OF_SORT" "[I" (.ref t2) (cO b) U H := ((va_Z.moved h.2.1.alike h.1.2.2.1).kept h.keep).narrow h.far
theorem cE.a2 (h : cE cA t1 t2 b s0 U H) : va_T .int t2 6 (fun j => .int ([5, 2, 0, 1, 0, 3].getD j 0)) (cO b) U H := ((va_T.moved h.2.1.alike h.1.2.2.2.1).kept h.keep).narrow h.far
theorem cE.nest (h : cE cA t1 t2 b s0 U H) {w : Cond} (hw : w ∈ xN) {args : Array Value} : w.before args U = true := va_Nw.use (xN_on hw) (xN_warm hw h.2.1 (h.1.2.2.2.2.1 w hw))
theorem cE.aP (h : cE cA t1 t2 b s0 U H) : va_AO "ConfigTexts$Partition" U := va_AO.moved h.2.1.alike h.1.2.2.2.2.2.1
theorem cE.aR (h : cE cA t1 t2 b s0 U H) : va_AO "ConfigTexts$Rows" U := va_AO.moved h.2.1.alike h.1.2.2.2.2.2.2
theorem cE.hA (h : cE cA t1 t2 b s0 U U.heap) : ∀ q : Nat, U.heap.size ≤ q → cO b q := fun _ hq => Nat.le_trans h.2.2.2.2 hq
theorem cE.warm (h : cE cA t1 t2 b s0 s H) (hz : H.size ≤ H1.size) (hk : ∀ q : Nat, q < H.size → ¬ cO b q → H1[q]? = H[q]?) (hW : s.WarmedH U.vm) : cE cA t1 t2 b s0 U H1 := by
  refine ⟨h.1, State.WarmedH.trans h.2.1 hW, fun q hq => ?_, h.2.2.2.1, Nat.le_trans h.2.2.2.2 hz⟩
  have hb : q < b := Nat.lt_of_lt_of_le hq h.2.2.2.1
  rw [hk q (Nat.lt_of_lt_of_le hb h.2.2.2.2) (Nat.not_le.mpr hb)]
  exact h.2.2.1 q hq
end CE
/-- the n cells from b on -/
abbrev cB (b : Nat) : Nat → Nat := fun i => b + i
theorem cD {b n : Nat} {f : Nat → va_E} : va_D (cO b) (xW n (cB b) f) := by
  refine ⟨fun i j p q hi hj hpq => ?_, fun k q hk => ?_⟩
  · obtain ⟨h1, rfl⟩ := xW_get hi
    obtain ⟨h2, rfl⟩ := xW_get hj
    have : b + i = b + j := hpq
    omega
  · obtain ⟨h1, rfl⟩ := xW_get hk
    exact Nat.le_add_right _ _
theorem W.size {p : Program} {l : Launch} {e : Env} {R : Room} {s : State} {m : MethodId} {args : Array Value} {below : List Frame} {meth : Method} {c : Code} {H : Heap} {locs : List Loc} {cells slots : Nat} {Q : State → Prop} {g : JFrame} (k : H.size ≤ s.heap.size + cells → W p l e R s m args below meth c H locs cells slots Q g) : W p l e R s m args below meth c H locs cells slots Q g :=
  fun T hT X => k (by rw [← hT]; exact X.heapSize) T hT X
/-- a new cell is the next one -/
theorem cNext {D : va_G} {b n q : Nat} {f : Nat → va_E} {e : va_E} {H : Heap} (hP : va_P D xcl (xW n (cB b) f ++ [(q, e)]) H) (hD : va_D (cO b) (xW n (cB b) f ++ [(q, e)])) (hz : H.size ≤ b + (n + 1)) : q = b + n := by
  have hq : (xW n (cB b) f ++ [(q, e)])[n]? = some (q, e) := by rw [List.getElem?_append_right (by simp [xW])]; simp [xW]
  have h1 := (hP n _ hq).lt
  have h2 : b ≤ q := hD.2 n _ hq
  rcases Nat.lt_or_ge q (b + n) with h | h
  · have h3 : (xW n (cB b) f ++ [(q, e)])[q - b]? = some (cB b (q - b), f (q - b)) := by rw [List.getElem?_append_left (by simp [xW]; omega)]; exact xW_at (by omega) rfl
    have h4 := hD.1 (q - b) n _ _ h3 hq (by show b + (q - b) = q; omega)
    omega
  · have : q < b + (n + 1) := Nat.lt_of_lt_of_le h1 hz
    omega
theorem cPush {b n : Nat} {f : Nat → va_E} {e : va_E} : xW n (cB b) f ++ [(b + n, e)] = xW (n + 1) (cB b) (va_up f n e) := by
  rw [xW_push]
  exact xW_eq (fun i hi => ⟨by by_cases h : i = n <;> simp [va_up, h], rfl⟩)
theorem cSize {D : va_G} {b n : Nat} {f : Nat → va_E} {H : Heap} (hP : va_P D xcl (xW n (cB b) f) H) (hn : 0 < n) (hz : H.size ≤ b + n) : H.size = b + n := by
  have h1 := (hP (n - 1) _ (xW_at (by omega) rfl)).lt
  have : b + (n - 1) < H.size := h1
  omega
theorem cTo {D : va_G} {b n : Nat} {f g : Nat → va_E} {H : Heap} (h : va_P D xcl (xW n (cB b) f) H) (hfg : ∀ i, i < n → f i = g i) : va_P D xcl (xW n (cB b) g) H := by
  rw [← xW_eq (fun i hi => ⟨rfl, hfg i hi⟩)]
  exact h
def cPc (D : va_G) (cA : Nat → ClassId) (t1 t2 b : Nat) (s0 : State) (n : Nat) (f : Nat → va_E) (av : List Value) : Array Value → State → Prop := va_Pc av (fun U => U.heap.size = b + n ∧ va_P D xcl (xW n (cB b) f) U.heap ∧ va_K D xcl (xtys cA) U ∧ cE cA t1 t2 b s0 U U.heap)
def cQv (D : va_G) (b n' : Nat) (F : Nat → va_E) : Array Value → State → Outcome → State → Prop :=
  va_Qv (fun _ : Unit => True) (fun _ t => t.heap.size = b + n' ∧ va_P D xcl (xW n' (cB b) F) t.heap) (cO b)
theorem cpI {D : va_G} {cA : Nat → ClassId} {t1 t2 b : Nat} {s0 s : State} {n : Nat} {f : Nat → va_E} {av : List Value} {H : Heap} {locs : List Loc} (hz : H.size = b + n) (hK : va_K D xcl (xtys cA) s) (E : cE cA t1 t2 b s0 s s.heap) (hP : va_P D xcl (xW n (cB b) f) H) (hS : va_S (cO b) s.heap H locs) : PreS s H (cPc D cA t1 t2 b s0 n f av) av := by
  refine ⟨fun a U g mk q => ?_, fun U hU hW => ⟨rfl, by rw [hU]; exact hz, by rw [hU]; exact hP, va_K.moved hW.alike hK, by rw [hU]; exact E.warm hS.1 hS.2.1 hW⟩⟩
  obtain ⟨q0, qz, qP, qK, qE⟩ := q
  exact ⟨q0, qz, qP, va_K.moved (u := U) (U := U.calling g mk a) (Vm.Alike.refl U.vm) qK, qE⟩
/-- array classes are known by their names -/
theorem tys_one {D : va_G} {cl : List vw_C} {tys : List (ClassId × FieldType)} {s : State} {c1 c2 : ClassId} {ty : FieldType} (h : va_K D cl (tys ++ [(c2, ty)]) s) (t0 : Nat) (ht : tys[t0]? = some (c1, ty)) : c2 = c1 := by
  have h1 := (h.2 t0 (c1, ty) (by rw [List.getElem?_append_left (List.getElem?_eq_some_iff.mp ht).1]; exact ht)).2
  have h2 := (h.2 tys.length (c2, ty) (by simp)).2
  cases ty <;> first | (obtain ⟨_, _, _, _, _, h3⟩ := h1; obtain ⟨_, _, _, _, _, h4⟩ := h2; exact Option.some.inj (h4.symm.trans h3)) | exact Option.some.inj (h2.symm.trans h1)
theorem wd_23 : (Jvm.Cond.methodLink "ConfigTexts" (1 : Nat) ({ cls := "java/lang/Object", name := "<init>", desc := "()V" } : Jvm.MethodName)) ∈ xT := xT_of 23 (by decide +kernel) (by decide +kernel)
theorem wd_24 : (Jvm.Cond.instanceMethod ({ cls := "java/lang/Object", name := "<init>", desc := "()V" } : Jvm.MethodName)) ∈ xT := xT_of 24 (by decide +kernel) (by decide +kernel)
theorem wd_25 : (Jvm.Cond.code ({ cls := "java/lang/Object", name := "<init>", desc := "()V" } : Jvm.MethodName) object_method_1_code (1 : Nat) (Option.none : Option Jvm.ClassFile.FieldType)) ∈ xT := xT_of 25 (by decide +kernel) (by decide +kernel)
theorem wd_26 : (Jvm.Cond.classLink "ConfigTexts" (17 : Nat) "ConfigTexts$Words") ∈ xT := xT_of 26 (by decide +kernel) (by decide +kernel)
theorem wd_27 : (Jvm.Cond.instantiable "ConfigTexts$Words" (9 : Nat)) ∈ xT := xT_of 27 (by decide +kernel) (by decide +kernel)
theorem wd_28 : (Jvm.Cond.methodLink "ConfigTexts" (19 : Nat) ({ cls := "ConfigTexts$Words", name := "<init>", desc := "([B)V" } : Jvm.MethodName)) ∈ xT := xT_of 28 (by decide +kernel) (by decide +kernel)
theorem wd_29 : (Jvm.Cond.instanceMethod ({ cls := "ConfigTexts$Words", name := "<init>", desc := "([B)V" } : Jvm.MethodName)) ∈ xT := xT_of 29 (by decide +kernel) (by decide +kernel)
theorem wd_30 : (Jvm.Cond.code ({ cls := "ConfigTexts$Words", name := "<init>", desc := "([B)V" } : Jvm.MethodName) prog_6_method_1_code (2 : Nat) (Option.none : Option Jvm.ClassFile.FieldType)) ∈ xT := xT_of 30 (by decide +kernel) (by decide +kernel)
theorem wd_31 : (Jvm.Cond.methodLink "ConfigTexts$Words" (3 : Nat) ({ cls := "java/lang/Object", name := "<init>", desc := "()V" } : Jvm.MethodName)) ∈ xT := xT_of 31 (by decide +kernel) (by decide +kernel)
theorem wd_63 : (Jvm.Cond.arrayClass Jvm.ClassFile.FieldType.byte) ∈ xT := xT_of 63 (by decide +kernel) (by decide +kernel)
theorem wd_64 : (Jvm.Cond.classLink "ConfigTexts" (26 : Nat) "ConfigTexts$Configuration") ∈ xT := xT_of 64 (by decide +kernel) (by decide +kernel)
theorem wd_65 : (Jvm.Cond.instantiable "ConfigTexts$Configuration" (7 : Nat)) ∈ xT := xT_of 65 (by decide +kernel) (by decide +kernel)
theorem wd_66 : (Jvm.Cond.methodLink "ConfigTexts" (28 : Nat) ({ cls := "ConfigTexts$Configuration", name := "<init>", desc := "()V" } : Jvm.MethodName)) ∈ xT := xT_of 66 (by decide +kernel) (by decide +kernel)
theorem wd_67 : (Jvm.Cond.instanceMethod ({ cls := "ConfigTexts$Configuration", name := "<init>", desc := "()V" } : Jvm.MethodName)) ∈ xT := xT_of 67 (by decide +kernel) (by decide +kernel)
theorem wd_68 : (Jvm.Cond.code ({ cls := "ConfigTexts$Configuration", name := "<init>", desc := "()V" } : Jvm.MethodName) prog_2_method_1_code (2 : Nat) (Option.none : Option Jvm.ClassFile.FieldType)) ∈ xT := xT_of 68 (by decide +kernel) (by decide +kernel)
theorem wd_69 : (Jvm.Cond.methodLink "ConfigTexts$Configuration" (3 : Nat) ({ cls := "java/lang/Object", name := "<init>", desc := "()V" } : Jvm.MethodName)) ∈ xT := xT_of 69 (by decide +kernel) (by decide +kernel)
theorem wd_70 : (Jvm.Cond.classLink "ConfigTexts$Configuration" (9 : Nat) "ConfigTexts$Partition") ∈ xT := xT_of 70 (by decide +kernel) (by decide +kernel)
theorem wd_72 : (Jvm.Cond.instantiable "ConfigTexts$Partition" (5 : Nat)) ∈ xT := xT_of 72 (by decide +kernel) (by decide +kernel)
theorem wd_73 : (Jvm.Cond.methodLink "ConfigTexts$Configuration" (17 : Nat) ({ cls := "ConfigTexts$Partition", name := "<init>", desc := "()V" } : Jvm.MethodName)) ∈ xT := xT_of 73 (by decide +kernel) (by decide +kernel)
theorem wd_74 : (Jvm.Cond.instanceMethod ({ cls := "ConfigTexts$Partition", name := "<init>", desc := "()V" } : Jvm.MethodName)) ∈ xT := xT_of 74 (by decide +kernel) (by decide +kernel)
theorem wd_75 : (Jvm.Cond.code ({ cls := "ConfigTexts$Partition", name := "<init>", desc := "()V" } : Jvm.MethodName) prog_3_method_1_code (2 : Nat) (Option.none : Option Jvm.ClassFile.FieldType)) ∈ xT := xT_of 75 (by decide +kernel) (by decide +kernel)
theorem wd_76 : (Jvm.Cond.methodLink "ConfigTexts$Partition" (3 : Nat) ({ cls := "java/lang/Object", name := "<init>", desc := "()V" } : Jvm.MethodName)) ∈ xT := xT_of 76 (by decide +kernel) (by decide +kernel)
theorem wd_77 : (Jvm.Cond.classLink "ConfigTexts$Partition" (15 : Nat) "ConfigTexts$Rows") ∈ xT := xT_of 77 (by decide +kernel) (by decide +kernel)
theorem wd_79 : (Jvm.Cond.instantiable "ConfigTexts$Rows" (5 : Nat)) ∈ xT := xT_of 79 (by decide +kernel) (by decide +kernel)
theorem wd_84 : (Jvm.Cond.methodLink "ConfigTexts$Partition" (27 : Nat) ({ cls := "ConfigTexts$Rows", name := "<init>", desc := "(II)V" } : Jvm.MethodName)) ∈ xT := xT_of 84 (by decide +kernel) (by decide +kernel)
theorem wd_85 : (Jvm.Cond.instanceMethod ({ cls := "ConfigTexts$Rows", name := "<init>", desc := "(II)V" } : Jvm.MethodName)) ∈ xT := xT_of 85 (by decide +kernel) (by decide +kernel)
theorem wd_86 : (Jvm.Cond.code ({ cls := "ConfigTexts$Rows", name := "<init>", desc := "(II)V" } : Jvm.MethodName) prog_5_method_1_code (3 : Nat) (Option.none : Option Jvm.ClassFile.FieldType)) ∈ xT := xT_of 86 (by decide +kernel) (by decide +kernel)
theorem wd_87 : (Jvm.Cond.methodLink "ConfigTexts$Rows" (3 : Nat) ({ cls := "java/lang/Object", name := "<init>", desc := "()V" } : Jvm.MethodName)) ∈ xT := xT_of 87 (by decide +kernel) (by decide +kernel)
theorem wd_107 : (Jvm.Cond.arrayClass Jvm.ClassFile.FieldType.int) ∈ xT := xT_of 107 (by decide +kernel) (by decide +kernel)
theorem wd_108 : (Jvm.Cond.arrayClass Jvm.ClassFile.FieldType.long) ∈ xT := xT_of 108 (by decide +kernel) (by decide +kernel)
theorem wd_130 : (Jvm.Cond.classLink "ConfigTexts$Configuration" (18 : Nat) "ConfigTexts$Rows") ∈ xT := xT_of 130 (by decide +kernel) (by decide +kernel)
theorem wd_131 : (Jvm.Cond.methodLink "ConfigTexts$Configuration" (20 : Nat) ({ cls := "ConfigTexts$Rows", name := "<init>", desc := "(II)V" } : Jvm.MethodName)) ∈ xT := xT_of 131 (by decide +kernel) (by decide +kernel)
theorem wd_163 : (Jvm.Cond.classLink "ConfigTexts" (33 : Nat) "ConfigTexts$Reader") ∈ xT := xT_of 163 (by decide +kernel) (by decide +kernel)
theorem wd_164 : (Jvm.Cond.instantiable "ConfigTexts$Reader" (4 : Nat)) ∈ xT := xT_of 164 (by decide +kernel) (by decide +kernel)
theorem wd_165 : (Jvm.Cond.methodLink "ConfigTexts" (35 : Nat) ({ cls := "ConfigTexts$Reader", name := "<init>", desc := "(LConfigTexts$Words;LConfigTexts$Configuration;)V" } : Jvm.MethodName)) ∈ xT := xT_of 165 (by decide +kernel) (by decide +kernel)
theorem wd_166 : (Jvm.Cond.instanceMethod ({ cls := "ConfigTexts$Reader", name := "<init>", desc := "(LConfigTexts$Words;LConfigTexts$Configuration;)V" } : Jvm.MethodName)) ∈ xT := xT_of 166 (by decide +kernel) (by decide +kernel)
theorem wd_167 : (Jvm.Cond.code ({ cls := "ConfigTexts$Reader", name := "<init>", desc := "(LConfigTexts$Words;LConfigTexts$Configuration;)V" } : Jvm.MethodName) prog_4_method_1_code (3 : Nat) (Option.none : Option Jvm.ClassFile.FieldType)) ∈ xT := xT_of 167 (by decide +kernel) (by decide +kernel)
theorem wd_168 : (Jvm.Cond.methodLink "ConfigTexts$Reader" (3 : Nat) ({ cls := "java/lang/Object", name := "<init>", desc := "()V" } : Jvm.MethodName)) ∈ xT := xT_of 168 (by decide +kernel) (by decide +kernel)
theorem wn_80 : (Jvm.Cond.fieldLinkNest "ConfigTexts$Partition" (21 : Nat) "ConfigTexts" "MOST_OF_SORT" "[I" "ConfigTexts") ∈ xN := xN_of 80 (by decide +kernel) (by decide +kernel)
theorem wn_82 : (Jvm.Cond.fieldLinkNest "ConfigTexts$Partition" (24 : Nat) "ConfigTexts" "WIDTH_OF_SORT" "[I" "ConfigTexts") ∈ xN := xN_of 82 (by decide +kernel) (by decide +kernel)
theorem xMost_le (i : Nat) : xMost i ≤ 16 := by
  unfold xMost
  split
  · exact Nat.le_refl _
  · rcases Nat.lt_or_ge (((i - 5) % 21 - 3) / 3) 6 with h | h
    · have := h
      revert this
      generalize ((i - 5) % 21 - 3) / 3 = k
      revert k
      decide
    · rw [List.getD_eq_getElem?_getD, List.getElem?_eq_none (by simpa using h)]; exact Nat.zero_le _
theorem xWid_le (i : Nat) : xWid i ≤ 8 := by
  unfold xWid
  split
  · exact Nat.le_refl _
  · split
    · omega
    · rcases Nat.lt_or_ge (((i - 5) % 21 - 3) / 3) 6 with h | h
      · have := h
        revert this
        generalize ((i - 5) % 21 - 3) / 3 = k
        revert k
        decide
      · rw [List.getD_eq_getElem?_getD, List.getElem?_eq_none (by simpa using h)]; exact Nat.zero_le _
def rm_RO_init : Room := { frames := 1, cells := 2, slots := 144, locals := 12 }
theorem d_RO_init_0 : decode b_RO_init 0 = .ok (.aload_n 0, 1) := by decide +kernel
theorem d_RO_init_1 : decode b_RO_init 1 = .ok (.invokespecial 3, 3) := by decide +kernel
theorem d_RO_init_4 : decode b_RO_init 4 = .ok (.aload_n 0, 1) := by decide +kernel
theorem d_RO_init_5 : decode b_RO_init 5 = .ok (.iload_n 1, 1) := by decide +kernel
theorem d_RO_init_6 : decode b_RO_init 6 = .ok (.putfield 9, 3) := by decide +kernel
theorem d_RO_init_9 : decode b_RO_init 9 = .ok (.aload_n 0, 1) := by decide +kernel
theorem d_RO_init_10 : decode b_RO_init 10 = .ok (.iload_n 2, 1) := by decide +kernel
theorem d_RO_init_11 : decode b_RO_init 11 = .ok (.putfield 15, 3) := by decide +kernel
theorem d_RO_init_14 : decode b_RO_init 14 = .ok (.aload_n 0, 1) := by decide +kernel
theorem d_RO_init_15 : decode b_RO_init 15 = .ok (.iload_n 1, 1) := by decide +kernel
theorem d_RO_init_16 : decode b_RO_init 16 = .ok (.newarray .long, 2) := by decide +kernel
theorem d_RO_init_18 : decode b_RO_init 18 = .ok (.putfield 18, 3) := by decide +kernel
theorem d_RO_init_21 : decode b_RO_init 21 = .ok (.aload_n 0, 1) := by decide +kernel
theorem d_RO_init_22 : decode b_RO_init 22 = .ok (.iload_n 1, 1) := by decide +kernel
theorem d_RO_init_23 : decode b_RO_init 23 = .ok (.iload_n 2, 1) := by decide +kernel
theorem d_RO_init_24 : decode b_RO_init 24 = .ok (.imul, 1) := by decide +kernel
theorem d_RO_init_25 : decode b_RO_init 25 = .ok (.newarray .int, 2) := by decide +kernel
theorem d_RO_init_27 : decode b_RO_init 27 = .ok (.putfield 22, 3) := by decide +kernel
theorem d_RO_init_30 : decode b_RO_init 30 = .ok (.aload_n 0, 1) := by decide +kernel
theorem d_RO_init_31 : decode b_RO_init 31 = .ok (.iconst 0, 1) := by decide +kernel
theorem d_RO_init_32 : decode b_RO_init 32 = .ok (.putfield 26, 3) := by decide +kernel
theorem d_RO_init_35 : decode b_RO_init 35 = .ok (.return_, 1) := by decide +kernel
theorem ro_cells {b : Nat} {cA : Nat → ClassId} {f : Nat → va_E} {j : Nat} (hj : xR j) (i : Nat) (hi : i < j + 3) : (va_up (va_up (va_up (va_up (va_up (va_up (va_up f j (.inr (3, [.int (nI (xMost j)), .int 0, .null, .null, .int 0]))) j (.inr (3, [.int (nI (xMost j)), .int (nI (xWid j)), .null, .null, .int 0]))) (j + 1) (.inl (cA 1, xMost j, .inr (.inl (fun _ => 0))))) j (.inr (3, [.int (nI (xMost j)), .int (nI (xWid j)), .ref (b + (j + 1)), .null, .int 0]))) (j + 1 + 1) (.inl (cA 2, xMost j * xWid j, .inl (fun _ => 0)))) j (.inr (3, [.int (nI (xMost j)), .int (nI (xWid j)), .ref (b + (j + 1)), .ref (b + (j + 1 + 1)), .int 0]))) j (.inr (3, [.int (nI (xMost j)), .int (nI (xWid j)), .ref (b + (j + 1)), .ref (b + (j + 1 + 1)), .int 0]))) i = if j ≤ i then cC (cB b) cA i else f i := by
  by_cases h1 : j ≤ i
  · rw [if_pos h1]
    rcases (show i = j ∨ i = j + 1 ∨ i = j + 2 by omega) with rfl | rfl | rfl
    · rw [cC, xc_RO _ _ _ _ hj, va_up_self]
      have a1 : z0 i 0 = nI (xMost i) := by unfold z0; rw [if_neg (by omega), if_neg (by omega), if_pos hj, if_pos rfl]
      have a2 : z0 i 1 = nI (xWid i) := by unfold z0; rw [if_neg (by omega), if_neg (by omega), if_pos hj, if_neg (by omega), if_pos rfl]
      have a3 : z0 i 4 = 0 := by unfold z0; rw [if_neg (by omega), if_neg (by omega), if_pos hj, if_neg (by omega), if_neg (by omega)]
      rw [a1, a2, a3]
    · rw [cC, xc_ROn _ _ _ _ hj]
      simp [va_up]
    · rw [cC, xc_ROu _ _ _ _ hj]
      have a4 : z0 (j + 2) = fun _ => 0 := by funext k; unfold z0; rw [if_neg (by omega), if_neg (by omega), if_neg (by omega)]
      rw [a4]
      simp [va_up]
  · rw [if_neg h1]
    simp [va_up, (show i ≠ j by omega), (show i ≠ j + 1 by omega), (show i ≠ j + 1 + 1 by omega)]
set_option maxHeartbeats 4000000 in
set_option maxRecDepth 100000 in
theorem c_RO_init (l : Launch) (D : va_G) (cA : Nat → ClassId) (t1 t2 b : Nat) (s0 : State) (f : Nat → va_E) (j : Nat) (hj : xR j) (hf : f j = .inr (3, [.int 0, .int 0, .null, .null, .int 0])) : Met l y_RO_init (.code y_RO_init b_RO_init 3 none :: xT) rm_RO_init (cPc D cA t1 t2 b s0 (j + 1) f [.ref (b + j), .int (nI (xMost j)), .int (nI (xWid j))]) (cQv D b (j + 3) (fun i => if j ≤ i then cC (cB b) cA i else f i)) 2 144 (cO b) := by
  refine Met.ofW (cc := b_RO_init) (maxL := 3) (ret := none) (by decide +kernel) rfl ?_
  intro p e s m args below meth c s₁ B hml hv
  obtain ⟨rfl, hz, hP, hK, E⟩ := hv
  have hin : meth.name = "<init>" := (name_of_methodNamed B.named B.method).1
  have C := xB_of B hml
  obtain ⟨hx, hb, hr, hml, hown, hts, hlk, hnh⟩ := id C
  have hA := E.hA
  have hS : va_S (cO b) s.heap s.heap [] := va_S.rf
  have hl := lv_entry ([.ref (b + j), .int (nI (xMost j)), .int (nI (xWid j))]) (n := 3) (Nat.le_of_ble_eq_true rfl)
  rw [lg_entry_eq]
  generalize (lg_sl ([.ref (b + j), .int (nI (xMost j)), .int (nI (xWid j))]) ++ List.replicate (3 - (lg_sl ([.ref (b + j), .int (nI (xMost j)), .int (nI (xWid j))])).length) Slot.unset).toArray = ls at hl ⊢
  have nj : ¬ j = j + 1 + 1 := by omega
  have hmo := xMost_le j
  have hwi := xWid_le j
  have hmw : xMost j * xWid j ≤ 128 := Nat.le_trans (Nat.mul_le_mul hmo hwi) (by decide)
  refine lv_aload_n hx hb d_RO_init_0 rfl (lv_at hl 0 rfl) ?_
  refine W.objInit hx hb hown (hts _ wd_87) (hts _ wd_24) (hts _ wd_25) rfl (hl.1.trans hml.symm) rfl d_RO_init_1 (Nat.le_of_ble_eq_true rfl) (Nat.le_of_ble_eq_true rfl) ?_
  refine W.eq (g2 := F0 m 4 ls []) rfl ?_
  refine lv_aload_n hx hb d_RO_init_4 rfl (lv_at hl 0 rfl) ?_
  refine lv_iload_n hx hb d_RO_init_5 rfl (lv_at hl 1 rfl) ?_
  refine va_putF (v := .int (nI (xMost j))) (ty := .int) (C := R_RO) (T := F_RO) (N := 5) (a := b + j) (ci := 3) (fs := [.int 0, .int 0, .null, .null, .int 0]) hx hb hts i_RO t_RO t_RO_ok n_RO hown hK hP cD hS j (xW_at (by omega) (by simp [va_up, hf, nj])) rfl 0 (by decide) (hts _ wd_88) (fun _ h9 => h9) rfl hin rfl (by decide +kernel) rfl rfl (Nat.le_of_ble_eq_true rfl) d_RO_init_6 (fun H locs hP _ hS => ?_)
  rw [xW_up (lay := cB b) (i := j)] at hP
  refine lv_aload_n hx hb d_RO_init_9 rfl (lv_at hl 0 rfl) ?_
  refine lv_iload_n hx hb d_RO_init_10 rfl (lv_at hl 2 rfl) ?_
  refine va_putF (v := .int (nI (xWid j))) (ty := .int) (C := R_RO) (T := F_RO) (N := 5) (a := b + j) (ci := 3) (fs := [.int (nI (xMost j)), .int 0, .null, .null, .int 0]) hx hb hts i_RO t_RO t_RO_ok n_RO hown hK hP cD hS j (xW_at (by omega) (by simp [va_up, hf, nj])) rfl 1 (by decide) (hts _ wd_89) (fun _ h9 => h9) rfl hin rfl (by decide +kernel) rfl rfl (Nat.le_of_ble_eq_true rfl) d_RO_init_11 (fun H locs hP _ hS => ?_)
  rw [xW_up (lay := cB b) (i := j)] at hP
  refine lv_aload_n hx hb d_RO_init_14 rfl (lv_at hl 0 rfl) ?_
  refine lv_iload_n hx hb d_RO_init_15 rfl (lv_at hl 1 rfl) ?_
  refine va_newa (atype := .long) (N' := xMost j) (a0 := (xMost j, .inr (.inl (fun _ => 0)))) hx hb (hts _ wd_108) rfl hK hP cD hS hA (fun _ => rfl) (nI_pos (by omega)) (nI_clamp (by omega)) (by show xMost j * 8 ≤ _; omega) (by decide) (by show 0 + xMost j ≤ 144; omega) d_RO_init_16 (fun q c1 H hK1 hP hD hS => ?_)
  have e1 := tys_one hK1 1 rfl
  subst e1
  clear hK1
  refine W.size (fun hsz => ?_)
  have e1 := cNext hP hD (by omega)
  subst e1
  clear hD hsz
  rw [cPush] at hP
  refine va_putF (v := .ref (b + (j + 1))) (ty := .array .long) (C := R_RO) (T := F_RO) (N := 5) (a := b + j) (ci := 3) (fs := [.int (nI (xMost j)), .int (nI (xWid j)), .null, .null, .int 0]) hx hb hts i_RO t_RO t_RO_ok n_RO hown hK hP cD hS j (xW_at (by omega) (by simp [va_up, hf, nj])) rfl 2 (by decide) (hts _ wd_90) (fun _ h9 => h9) rfl hin rfl (by decide +kernel) rfl rfl (Nat.le_of_ble_eq_true rfl) d_RO_init_18 (fun H locs hP _ hS => ?_)
  rw [xW_up (lay := cB b) (i := j)] at hP
  refine lv_aload_n hx hb d_RO_init_21 rfl (lv_at hl 0 rfl) ?_
  refine lv_iload_n hx hb d_RO_init_22 rfl (lv_at hl 1 rfl) ?_
  refine lv_iload_n hx hb d_RO_init_23 rfl (lv_at hl 2 rfl) ?_
  refine lv_imul hx hb d_RO_init_24 ?_
  rw [pk_mul]
  refine va_newa (atype := .int) (N' := xMost j * xWid j) (a0 := (xMost j * xWid j, .inl (fun _ => 0))) hx hb (hts _ wd_107) rfl hK hP cD hS hA (fun _ => rfl) (nI_pos (by omega)) (nI_clamp (by omega)) (by show xMost j * xWid j * 4 ≤ _; omega) (by decide) (by show 0 + xMost j + xMost j * xWid j ≤ 144; omega) d_RO_init_25 (fun q c1 H hK1 hP hD hS => ?_)
  have e1 := tys_one hK1 2 rfl
  subst e1
  clear hK1
  refine W.size (fun hsz => ?_)
  have e1 := cNext hP hD (by omega)
  subst e1
  clear hD hsz
  rw [cPush] at hP
  refine va_putF (v := .ref (b + (j + 1 + 1))) (ty := .array .int) (C := R_RO) (T := F_RO) (N := 5) (a := b + j) (ci := 3) (fs := [.int (nI (xMost j)), .int (nI (xWid j)), .ref (b + (j + 1)), .null, .int 0]) hx hb hts i_RO t_RO t_RO_ok n_RO hown hK hP cD hS j (xW_at (by omega) (by simp [va_up, hf, nj])) rfl 3 (by decide) (hts _ wd_91) (fun _ h9 => h9) rfl hin rfl (by decide +kernel) rfl rfl (Nat.le_of_ble_eq_true rfl) d_RO_init_27 (fun H locs hP _ hS => ?_)
  rw [xW_up (lay := cB b) (i := j)] at hP
  refine lv_aload_n hx hb d_RO_init_30 rfl (lv_at hl 0 rfl) ?_
  refine lv_iconst (v := (0 : Int32)) hx hb d_RO_init_31 (by decide) ?_
  refine va_put (v := .int 0) (ty := .int) (C := R_RO) (T := F_RO) (N := 5) (a := b + j) (ci := 3) (fs := [.int (nI (xMost j)), .int (nI (xWid j)), .ref (b + (j + 1)), .ref (b + (j + 1 + 1)), .int 0]) hx hb hts i_RO t_RO t_RO_ok n_RO hown hK hP cD hS j (xW_at (by omega) (by simp [va_up, hf, nj])) rfl 4 (by decide) (hts _ wd_92) (fun _ h9 => h9) rfl (by decide +kernel) rfl rfl (Nat.le_of_ble_eq_true rfl) d_RO_init_32 (fun H locs hP _ hS => ?_)
  rw [xW_up (lay := cB b) (i := j)] at hP
  refine W.widen (k := 2) (n := 144) (by decide) (by show 0 + xMost j + xMost j * xWid j ≤ 144; omega) ?_
  have hP : va_P D xcl (xW (j + 3) (cB b) (fun i => if j ≤ i then cC (cB b) cA i else f i)) H := cTo hP (fun i hi => ro_cells hj i hi)
  refine W.size (fun hsz => ?_)
  have hz2 := cSize hP (by omega) (by omega)
  exact W.vret hx hb hr (fun t ht hW => ⟨⟨(), rfl, trivial, by rw [ht]; exact hz2, by rw [ht]; exact hP⟩, hS.F ht⟩) hS.2.2 d_RO_init_35
def rm_WO_init : Room := { frames := 1, cells := 0, slots := 0, locals := 12 }
theorem d_WO_init_0 : decode b_WO_init 0 = .ok (.aload_n 0, 1) := by decide +kernel
theorem d_WO_init_1 : decode b_WO_init 1 = .ok (.invokespecial 3, 3) := by decide +kernel
theorem d_WO_init_4 : decode b_WO_init 4 = .ok (.aload_n 0, 1) := by decide +kernel
theorem d_WO_init_5 : decode b_WO_init 5 = .ok (.aload_n 1, 1) := by decide +kernel
theorem d_WO_init_6 : decode b_WO_init 6 = .ok (.putfield 9, 3) := by decide +kernel
theorem d_WO_init_9 : decode b_WO_init 9 = .ok (.aload_n 0, 1) := by decide +kernel
theorem d_WO_init_10 : decode b_WO_init 10 = .ok (.iconst 0, 1) := by decide +kernel
theorem d_WO_init_11 : decode b_WO_init 11 = .ok (.putfield 15, 3) := by decide +kernel
theorem d_WO_init_14 : decode b_WO_init 14 = .ok (.aload_n 0, 1) := by decide +kernel
theorem d_WO_init_15 : decode b_WO_init 15 = .ok (.iconst 0, 1) := by decide +kernel
theorem d_WO_init_16 : decode b_WO_init 16 = .ok (.putfield 19, 3) := by decide +kernel
theorem d_WO_init_19 : decode b_WO_init 19 = .ok (.aload_n 0, 1) := by decide +kernel
theorem d_WO_init_20 : decode b_WO_init 20 = .ok (.iconst (-1), 1) := by decide +kernel
theorem d_WO_init_21 : decode b_WO_init 21 = .ok (.putfield 22, 3) := by decide +kernel
theorem d_WO_init_24 : decode b_WO_init 24 = .ok (.return_, 1) := by decide +kernel
theorem wo_cells {b : Nat} {cA : Nat → ClassId} {f : Nat → va_E} (i : Nat) (hi : i < 3) : (va_up (va_up (va_up (va_up f 2 (.inr (4, [.ref (b + 1), .int 0, .int 0, .int 0, .int 0, .int 0, .long 0, .int 0, .int 0]))) 2 (.inr (4, [.ref (b + 1), .int 0, .int 0, .int 0, .int 0, .int 0, .long 0, .int 0, .int 0]))) 2 (.inr (4, [.ref (b + 1), .int 0, .int 0, .int 0, .int 0, .int 0, .long 0, .int 0, .int 0]))) 2 (.inr (4, [.ref (b + 1), .int 0, .int 0, .int 0, .int 0, .int 0, .long 0, .int 0, .int (-1)]))) i = if 2 ≤ i then cC (cB b) cA i else f i := by
  by_cases h1 : 2 ≤ i
  · obtain rfl : i = 2 := by omega
    rw [if_pos h1, cC, xc_2, va_up_self, (by decide +kernel : z0 2 1 = 0), (by decide +kernel : z0 2 2 = 0), (by decide +kernel : z0 2 3 = 0), (by decide +kernel : z0 2 4 = 0), (by decide +kernel : z0 2 5 = 0), (by decide +kernel : z0 2 7 = 0), (by decide +kernel : z0 2 8 = -1)]
  · rw [if_neg h1]
    simp [va_up, (show i ≠ 2 by omega)]
set_option maxHeartbeats 4000000 in
set_option maxRecDepth 100000 in
theorem c_WO_init (l : Launch) (D : va_G) (cA : Nat → ClassId) (t1 t2 b : Nat) (s0 : State) (f : Nat → va_E) (hf : f 2 = .inr (4, [.null, .int 0, .int 0, .int 0, .int 0, .int 0, .long 0, .int 0, .int 0])) : Met l y_WO_init (.code y_WO_init b_WO_init 2 none :: xT) rm_WO_init (cPc D cA t1 t2 b s0 3 f [.ref (b + 2), .ref (b + 1)]) (cQv D b 3 (fun i => if 2 ≤ i then cC (cB b) cA i else f i)) 0 0 (cO b) := by
  refine Met.ofW (cc := b_WO_init) (maxL := 2) (ret := none) (by decide +kernel) rfl ?_
  intro p e s m args below meth c s₁ B hml hv
  obtain ⟨rfl, hz, hP, hK, E⟩ := hv
  have hin : meth.name = "<init>" := (name_of_methodNamed B.named B.method).1
  have C := xB_of B hml
  obtain ⟨hx, hb, hr, hml, hown, hts, hlk, hnh⟩ := id C
  have hA := E.hA
  have hS : va_S (cO b) s.heap s.heap [] := va_S.rf
  have hl := lv_entry ([.ref (b + 2), .ref (b + 1)]) (n := 2) (Nat.le_of_ble_eq_true rfl)
  rw [lg_entry_eq]
  generalize (lg_sl ([.ref (b + 2), .ref (b + 1)]) ++ List.replicate (2 - (lg_sl ([.ref (b + 2), .ref (b + 1)])).length) Slot.unset).toArray = ls at hl ⊢
  refine lv_aload_n hx hb d_WO_init_0 rfl (lv_at hl 0 rfl) ?_
  refine W.objInit hx hb hown (hts _ wd_31) (hts _ wd_24) (hts _ wd_25) rfl (hl.1.trans hml.symm) rfl d_WO_init_1 (Nat.le_of_ble_eq_true rfl) (Nat.le_of_ble_eq_true rfl) ?_
  refine W.eq (g2 := F0 m 4 ls []) rfl ?_
  refine lv_aload_n hx hb d_WO_init_4 rfl (lv_at hl 0 rfl) ?_
  refine lv_aload_n hx hb d_WO_init_5 rfl (lv_at hl 1 rfl) ?_
  refine va_putF (v := .ref (b + 1)) (ty := .array .byte) (C := R_WO) (T := F_WO) (N := 9) (a := b + 2) (ci := 4) (fs := [.null, .int 0, .int 0, .int 0, .int 0, .int 0, .long 0, .int 0, .int 0]) hx hb hts i_WO t_WO t_WO_ok n_WO hown hK hP cD hS 2 (xW_at (by omega) (by simp [va_up, hf])) rfl 0 (by decide) (hts _ wd_32) (fun _ h9 => h9) rfl hin rfl (by decide +kernel) rfl rfl (Nat.le_of_ble_eq_true rfl) d_WO_init_6 (fun H locs hP _ hS => ?_)
  rw [xW_up (lay := cB b) (i := 2)] at hP
  refine lv_aload_n hx hb d_WO_init_9 rfl (lv_at hl 0 rfl) ?_
  refine lv_iconst (v := (0 : Int32)) hx hb d_WO_init_10 (by decide) ?_
  refine va_put (v := .int 0) (ty := .int) (C := R_WO) (T := F_WO) (N := 9) (a := b + 2) (ci := 4) (fs := [.ref (b + 1), .int 0, .int 0, .int 0, .int 0, .int 0, .long 0, .int 0, .int 0]) hx hb hts i_WO t_WO t_WO_ok n_WO hown hK hP cD hS 2 (xW_at (by omega) (by simp [va_up, hf])) rfl 4 (by decide) (hts _ wd_37) (fun _ h9 => h9) rfl (by decide +kernel) rfl rfl (Nat.le_of_ble_eq_true rfl) d_WO_init_11 (fun H locs hP _ hS => ?_)
  rw [xW_up (lay := cB b) (i := 2)] at hP
  refine lv_aload_n hx hb d_WO_init_14 rfl (lv_at hl 0 rfl) ?_
  refine lv_iconst (v := (0 : Int32)) hx hb d_WO_init_15 (by decide) ?_
  refine va_put (v := .int 0) (ty := .int) (C := R_WO) (T := F_WO) (N := 9) (a := b + 2) (ci := 4) (fs := [.ref (b + 1), .int 0, .int 0, .int 0, .int 0, .int 0, .long 0, .int 0, .int 0]) hx hb hts i_WO t_WO t_WO_ok n_WO hown hK hP cD hS 2 (xW_at (by omega) (by simp [va_up, hf])) rfl 7 (by decide) (hts _ wd_40) (fun _ h9 => h9) rfl (by decide +kernel) rfl rfl (Nat.le_of_ble_eq_true rfl) d_WO_init_16 (fun H locs hP _ hS => ?_)
  rw [xW_up (lay := cB b) (i := 2)] at hP
  refine lv_aload_n hx hb d_WO_init_19 rfl (lv_at hl 0 rfl) ?_
  refine lv_iconst (v := (-1 : Int32)) hx hb d_WO_init_20 (by decide) ?_
  refine va_put (v := .int (-1)) (ty := .int) (C := R_WO) (T := F_WO) (N := 9) (a := b + 2) (ci := 4) (fs := [.ref (b + 1), .int 0, .int 0, .int 0, .int 0, .int 0, .long 0, .int 0, .int 0]) hx hb hts i_WO t_WO t_WO_ok n_WO hown hK hP cD hS 2 (xW_at (by omega) (by simp [va_up, hf])) rfl 8 (by decide) (hts _ wd_42) (fun _ h9 => h9) rfl (by decide +kernel) rfl rfl (Nat.le_of_ble_eq_true rfl) d_WO_init_21 (fun H locs hP _ hS => ?_)
  rw [xW_up (lay := cB b) (i := 2)] at hP
  refine W.widen (k := 0) (n := 0) (by decide) (by decide) ?_
  have hP : va_P D xcl (xW (3) (cB b) (fun i => if 2 ≤ i then cC (cB b) cA i else f i)) H := cTo hP (fun i hi => wo_cells i hi)
  refine W.size (fun hsz => ?_)
  have hz2 := cSize hP (by omega) (by omega)
  exact W.vret hx hb hr (fun t ht hW => ⟨⟨(), rfl, trivial, by rw [ht]; exact hz2, by rw [ht]; exact hP⟩, hS.F ht⟩) hS.2.2 d_WO_init_24
def rm_RD_init : Room := { frames := 1, cells := 0, slots := 0, locals := 12 }
theorem d_RD_init_0 : decode b_RD_init 0 = .ok (.aload_n 0, 1) := by decide +kernel
theorem d_RD_init_1 : decode b_RD_init 1 = .ok (.invokespecial 3, 3) := by decide +kernel
theorem d_RD_init_4 : decode b_RD_init 4 = .ok (.aload_n 0, 1) := by decide +kernel
theorem d_RD_init_5 : decode b_RD_init 5 = .ok (.aload_n 1, 1) := by decide +kernel
theorem d_RD_init_6 : decode b_RD_init 6 = .ok (.putfield 9, 3) := by decide +kernel
theorem d_RD_init_9 : decode b_RD_init 9 = .ok (.aload_n 0, 1) := by decide +kernel
theorem d_RD_init_10 : decode b_RD_init 10 = .ok (.aload_n 2, 1) := by decide +kernel
theorem d_RD_init_11 : decode b_RD_init 11 = .ok (.putfield 15, 3) := by decide +kernel
theorem d_RD_init_14 : decode b_RD_init 14 = .ok (.aload_n 0, 1) := by decide +kernel
theorem d_RD_init_15 : decode b_RD_init 15 = .ok (.iconst 0, 1) := by decide +kernel
theorem d_RD_init_16 : decode b_RD_init 16 = .ok (.putfield 19, 3) := by decide +kernel
theorem d_RD_init_19 : decode b_RD_init 19 = .ok (.aload_n 0, 1) := by decide +kernel
theorem d_RD_init_20 : decode b_RD_init 20 = .ok (.iconst (-1), 1) := by decide +kernel
theorem d_RD_init_21 : decode b_RD_init 21 = .ok (.putfield 23, 3) := by decide +kernel
theorem d_RD_init_24 : decode b_RD_init 24 = .ok (.return_, 1) := by decide +kernel
theorem rd_cells {b : Nat} {cA : Nat → ClassId} {f : Nat → va_E} (i : Nat) (hi : i < 180) : (va_up (va_up (va_up (va_up f 179 (.inr (2, [.ref (b + 2), .null, .int 0, .int 0]))) 179 (.inr (2, [.ref (b + 2), .ref (b + 3), .int 0, .int 0]))) 179 (.inr (2, [.ref (b + 2), .ref (b + 3), .int 0, .int 0]))) 179 (.inr (2, [.ref (b + 2), .ref (b + 3), .int 0, .int (-1)]))) i = if 179 ≤ i then cC (cB b) cA i else f i := by
  by_cases h1 : 179 ≤ i
  · obtain rfl : i = 179 := by omega
    rw [if_pos h1, cC, xc_179, va_up_self, (by decide +kernel : z0 179 2 = 0), (by decide +kernel : z0 179 3 = -1)]
  · rw [if_neg h1]
    simp [va_up, (show i ≠ 179 by omega)]
set_option maxHeartbeats 4000000 in
set_option maxRecDepth 100000 in
theorem c_RD_init (l : Launch) (D : va_G) (cA : Nat → ClassId) (t1 t2 b : Nat) (s0 : State) (f : Nat → va_E) (hf : f 179 = .inr (2, [.null, .null, .int 0, .int 0])) : Met l y_RD_init (.code y_RD_init b_RD_init 3 none :: xT) rm_RD_init (cPc D cA t1 t2 b s0 180 f [.ref (b + 179), .ref (b + 2), .ref (b + 3)]) (cQv D b 180 (fun i => if 179 ≤ i then cC (cB b) cA i else f i)) 0 0 (cO b) := by
  refine Met.ofW (cc := b_RD_init) (maxL := 3) (ret := none) (by decide +kernel) rfl ?_
  intro p e s m args below meth c s₁ B hml hv
  obtain ⟨rfl, hz, hP, hK, E⟩ := hv
  have hin : meth.name = "<init>" := (name_of_methodNamed B.named B.method).1
  have C := xB_of B hml
  obtain ⟨hx, hb, hr, hml, hown, hts, hlk, hnh⟩ := id C
  have hA := E.hA
  have hS : va_S (cO b) s.heap s.heap [] := va_S.rf
  have hl := lv_entry ([.ref (b + 179), .ref (b + 2), .ref (b + 3)]) (n := 3) (Nat.le_of_ble_eq_true rfl)
  rw [lg_entry_eq]
  generalize (lg_sl ([.ref (b + 179), .ref (b + 2), .ref (b + 3)]) ++ List.replicate (3 - (lg_sl ([.ref (b + 179), .ref (b + 2), .ref (b + 3)])).length) Slot.unset).toArray = ls at hl ⊢
  refine lv_aload_n hx hb d_RD_init_0 rfl (lv_at hl 0 rfl) ?_
  refine W.objInit hx hb hown (hts _ wd_168) (hts _ wd_24) (hts _ wd_25) rfl (hl.1.trans hml.symm) rfl d_RD_init_1 (Nat.le_of_ble_eq_true rfl) (Nat.le_of_ble_eq_true rfl) ?_
  refine W.eq (g2 := F0 m 4 ls []) rfl ?_
  refine lv_aload_n hx hb d_RD_init_4 rfl (lv_at hl 0 rfl) ?_
  refine lv_aload_n hx hb d_RD_init_5 rfl (lv_at hl 1 rfl) ?_
  refine va_putF (v := .ref (b + 2)) (ty := .object "ConfigTexts$Words") (C := R_RD) (T := F_RD) (N := 4) (a := b + 179) (ci := 2) (fs := [.null, .null, .int 0, .int 0]) hx hb hts i_RD t_RD t_RD_ok n_RD hown hK hP cD hS 179 (xW_at (by omega) (by simp [va_up, hf])) rfl 0 (by decide) (hts _ wd_169) (fun _ h9 => h9) rfl hin rfl (by decide +kernel) rfl rfl (Nat.le_of_ble_eq_true rfl) d_RD_init_6 (fun H locs hP _ hS => ?_)
  rw [xW_up (lay := cB b) (i := 179)] at hP
  refine lv_aload_n hx hb d_RD_init_9 rfl (lv_at hl 0 rfl) ?_
  refine lv_aload_n hx hb d_RD_init_10 rfl (lv_at hl 2 rfl) ?_
  refine va_putF (v := .ref (b + 3)) (ty := .object "ConfigTexts$Configuration") (C := R_RD) (T := F_RD) (N := 4) (a := b + 179) (ci := 2) (fs := [.ref (b + 2), .null, .int 0, .int 0]) hx hb hts i_RD t_RD t_RD_ok n_RD hown hK hP cD hS 179 (xW_at (by omega) (by simp [va_up, hf])) rfl 1 (by decide) (hts _ wd_170) (fun _ h9 => h9) rfl hin rfl (by decide +kernel) rfl rfl (Nat.le_of_ble_eq_true rfl) d_RD_init_11 (fun H locs hP _ hS => ?_)
  rw [xW_up (lay := cB b) (i := 179)] at hP
  refine lv_aload_n hx hb d_RD_init_14 rfl (lv_at hl 0 rfl) ?_
  refine lv_iconst (v := (0 : Int32)) hx hb d_RD_init_15 (by decide) ?_
  refine va_put (v := .int 0) (ty := .boolean) (C := R_RD) (T := F_RD) (N := 4) (a := b + 179) (ci := 2) (fs := [.ref (b + 2), .ref (b + 3), .int 0, .int 0]) hx hb hts i_RD t_RD t_RD_ok n_RD hown hK hP cD hS 179 (xW_at (by omega) (by simp [va_up, hf])) rfl 2 (by decide) (hts _ wd_171) (fun _ h9 => h9) rfl (by decide +kernel) (by decide) (by decide) (Nat.le_of_ble_eq_true rfl) d_RD_init_16 (fun H locs hP _ hS => ?_)
  rw [xW_up (lay := cB b) (i := 179)] at hP
  refine lv_aload_n hx hb d_RD_init_19 rfl (lv_at hl 0 rfl) ?_
  refine lv_iconst (v := (-1 : Int32)) hx hb d_RD_init_20 (by decide) ?_
  refine va_put (v := .int (-1)) (ty := .int) (C := R_RD) (T := F_RD) (N := 4) (a := b + 179) (ci := 2) (fs := [.ref (b + 2), .ref (b + 3), .int 0, .int 0]) hx hb hts i_RD t_RD t_RD_ok n_RD hown hK hP cD hS 179 (xW_at (by omega) (by simp [va_up, hf])) rfl 3 (by decide) (hts _ wd_172) (fun _ h9 => h9) rfl (by decide +kernel) rfl rfl (Nat.le_of_ble_eq_true rfl) d_RD_init_21 (fun H locs hP _ hS => ?_)
  rw [xW_up (lay := cB b) (i := 179)] at hP
  refine W.widen (k := 0) (n := 0) (by decide) (by decide) ?_
  have hP : va_P D xcl (xW (180) (cB b) (fun i => if 179 ≤ i then cC (cB b) cA i else f i)) H := cTo hP (fun i hi => rd_cells i hi)
  refine W.size (fun hsz => ?_)
  have hz2 := cSize hP (by omega) (by omega)
  exact W.vret hx hb hr (fun t ht hW => ⟨⟨(), rfl, trivial, by rw [ht]; exact hz2, by rw [ht]; exact hP⟩, hS.F ht⟩) hS.2.2 d_RD_init_24
def rm_PA_init : Room := { frames := 2, cells := 20, slots := 904, locals := 34 }
theorem d_PA_init_0 : decode b_PA_init 0 = .ok (.aload_n 0, 1) := by decide +kernel
theorem d_PA_init_1 : decode b_PA_init 1 = .ok (.invokespecial 3, 3) := by decide +kernel
theorem d_PA_init_4 : decode b_PA_init 4 = .ok (.aload_n 0, 1) := by decide +kernel
theorem d_PA_init_5 : decode b_PA_init 5 = .ok (.iconst 4, 1) := by decide +kernel
theorem d_PA_init_6 : decode b_PA_init 6 = .ok (.newarray .int, 2) := by decide +kernel
theorem d_PA_init_8 : decode b_PA_init 8 = .ok (.putfield 9, 3) := by decide +kernel
theorem d_PA_init_11 : decode b_PA_init 11 = .ok (.aload_n 0, 1) := by decide +kernel
theorem d_PA_init_12 : decode b_PA_init 12 = .ok (.bipush 6, 2) := by decide +kernel
theorem d_PA_init_14 : decode b_PA_init 14 = .ok (.anewarray 15, 3) := by decide +kernel
theorem d_PA_init_17 : decode b_PA_init 17 = .ok (.putfield 17, 3) := by decide +kernel
theorem d_PA_init_20 : decode b_PA_init 20 = .ok (.iconst 0, 1) := by decide +kernel
theorem d_PA_init_21 : decode b_PA_init 21 = .ok (.istore_n 1, 1) := by decide +kernel
theorem d_PA_init_22 : decode b_PA_init 22 = .ok (.iload_n 1, 1) := by decide +kernel
theorem d_PA_init_23 : decode b_PA_init 23 = .ok (.bipush 6, 2) := by decide +kernel
theorem d_PA_init_25 : decode b_PA_init 25 = .ok (.if_icmp .ge 32, 3) := by decide +kernel
theorem d_PA_init_28 : decode b_PA_init 28 = .ok (.aload_n 0, 1) := by decide +kernel
theorem d_PA_init_29 : decode b_PA_init 29 = .ok (.getfield 17, 3) := by decide +kernel
theorem d_PA_init_32 : decode b_PA_init 32 = .ok (.iload_n 1, 1) := by decide +kernel
theorem d_PA_init_33 : decode b_PA_init 33 = .ok (.new 15, 3) := by decide +kernel
theorem d_PA_init_36 : decode b_PA_init 36 = .ok (.dup, 1) := by decide +kernel
theorem d_PA_init_37 : decode b_PA_init 37 = .ok (.getstatic 21, 3) := by decide +kernel
theorem d_PA_init_40 : decode b_PA_init 40 = .ok (.iload_n 1, 1) := by decide +kernel
theorem d_PA_init_41 : decode b_PA_init 41 = .ok (.iaload, 1) := by decide +kernel
theorem d_PA_init_42 : decode b_PA_init 42 = .ok (.getstatic 24, 3) := by decide +kernel
theorem d_PA_init_45 : decode b_PA_init 45 = .ok (.iload_n 1, 1) := by decide +kernel
theorem d_PA_init_46 : decode b_PA_init 46 = .ok (.iaload, 1) := by decide +kernel
theorem d_PA_init_47 : decode b_PA_init 47 = .ok (.invokespecial 27, 3) := by decide +kernel
theorem d_PA_init_50 : decode b_PA_init 50 = .ok (.aastore, 1) := by decide +kernel
theorem d_PA_init_51 : decode b_PA_init 51 = .ok (.iinc 1 1, 3) := by decide +kernel
theorem d_PA_init_54 : decode b_PA_init 54 = .ok (.goto (-32), 3) := by decide +kernel
theorem d_PA_init_57 : decode b_PA_init 57 = .ok (.return_, 1) := by decide +kernel
def paF (b j k : Nat) (cA : Nat → ClassId) (f : Nat → va_E) (i : Nat) : va_E :=
  if i = j then .inr (1, [.long 0, .int 0, .int 0, .ref (b + (j + 1)), .ref (b + (j + 2))]) else if i = j + 1 then .inl (cA 2, 4, .inl (fun _ => 0)) else if i = j + 2 then .inl (cA 4, 6, .inr (.inr (.inr (.inr (fun m => if m < k then some (b + (j + 2 + 1 + 3 * m)) else none))))) else if j ≤ i then cC (cB b) cA i else f i
theorem pa_most {j k : Nat} (hj : xP j) (hk : k < 6) : xMost (j + 3 + 3 * k) = [8, 4, 4, 4, 4, 8].getD k 0 ∧ xWid (j + 3 + 3 * k) = [5, 2, 0, 1, 0, 3].getD k 0 := by
  have h1 : ((j + 3 + 3 * k - 5) % 21 - 3) / 3 = k := by omega
  unfold xMost xWid
  rw [h1, if_neg (by omega), if_neg (by omega), if_neg (by omega)]
  exact ⟨rfl, rfl⟩
theorem pa_m1 : ∀ k, k < 6 → (([8, 4, 4, 4, 4, 8] : List Int32).getD k 0 = nI (([8, 4, 4, 4, 4, 8] : List Nat).getD k 0) ∧ ([5, 2, 0, 1, 0, 3] : List Int32).getD k 0 = nI (([5, 2, 0, 1, 0, 3] : List Nat).getD k 0)) := by decide +kernel
theorem pa_xR {j k : Nat} (hj : xP j) (hk : k < 6) : xR (j + 3 + 3 * k) := by omega
theorem pa_step {b j k : Nat} {cA : Nat → ClassId} {f : Nat → va_E} {e : va_E} (hk : k < 6) (i : Nat) (hi : i < j + 3 + 3 * k + 3) : va_up (fun i => if j + 3 + 3 * k ≤ i then cC (cB b) cA i else va_up (paF b j k cA f) (j + 3 + 3 * k) e i) (j + 2) (.inl (cA 4, 6, .inr (.inr (.inr (.inr (va_up (fun m => if m < k then some (b + (j + 2 + 1 + 3 * m)) else none) (nI k).toNatClampNeg (some (b + (j + 3 + 3 * k)))))))) ) i = paF b j (k + 1) cA f i := by
  rw [nI_clamp (by omega)]
  by_cases h2 : i = j + 2
  · subst h2
    rw [va_up_self]
    unfold paF
    rw [if_neg (by omega), if_neg (by omega), if_pos rfl]
    congr 7
    funext m
    by_cases hm : m = k
    · subst hm; rw [va_up_self, if_pos (by omega)]
    · rw [va_up_ne _ _ hm]
      by_cases h3 : m < k
      · rw [if_pos h3, if_pos (by omega)]
      · rw [if_neg h3, if_neg (by omega)]
  · rw [va_up_ne _ _ h2]
    by_cases h1 : j + 3 + 3 * k ≤ i
    · rw [if_pos h1]
      unfold paF
      rw [if_neg (by omega), if_neg (by omega), if_neg (by omega), if_pos (by omega)]
    · rw [if_neg h1, va_up_ne _ _ (by omega)]
      unfold paF
      simp only [h2, if_false]
theorem pa_end {D : va_G} {b j : Nat} {cA : Nat → ClassId} {f : Nat → va_E} {H : Heap} (hj : xP j) (h : va_P D xcl (xW (j + 3 + 3 * 6) (cB b) (paF b j 6 cA f)) H) : va_P D xcl (xW (j + 21) (cB b) (fun i => if j ≤ i then cC (cB b) cA i else f i)) H := by
  have h1 := xP_arr0 (i := j + 2) (g' := fun m => some (b + (j + 2 + 1 + 3 * m))) h (by unfold paF; rw [if_neg (by omega), if_neg (by omega), if_pos rfl]) (fun m hm => by rw [if_pos hm])
  refine cTo (n := j + 21) h1 (fun i hi => ?_)
  by_cases h2 : i = j + 2
  · subst h2
    rw [va_up_self, if_pos (by omega), cC, xc_PAt _ _ _ _ hj]
  · rw [va_up_ne _ _ h2]
    unfold paF
    have az : ∀ q, z0 j q = 0 := fun q => by unfold z0; rw [if_neg (by omega), if_neg (by omega), if_neg (by omega)]
    have az1 : z0 (j + 1) = fun _ => 0 := by funext q; unfold z0; rw [if_neg (by omega), if_neg (by omega), if_neg (by omega)]
    by_cases h3 : i = j
    · subst h3; rw [if_pos rfl, if_pos (by omega), cC, xc_PA _ _ _ _ hj, az, az]
    · rw [if_neg h3]
      by_cases h4 : i = j + 1
      · subst h4; rw [if_pos rfl, if_pos (by omega), cC, xc_PAa _ _ _ _ hj, az1]
      · rw [if_neg h4, if_neg h2]
set_option maxHeartbeats 4000000 in
set_option maxRecDepth 100000 in
theorem pa_loop (l : Launch) {p : Program} {e : Env} {s : State} {m : MethodId} {args : Array Value} {below : List Frame} {meth : Method} {c : Code} {D : va_G} {cA : Nat → ClassId} {t1 t2 b : Nat} {s0 : State} {f : Nat → va_E} {j : Nat} (hj : xP j) (C : xB p s m args meth c R_PA b_PA_init none 2) (E : cE cA t1 t2 b s0 s s.heap) (hK : va_K D xcl (xtys cA) s) (hz : s.heap.size = b + (j + 1)) (hin : meth.name = "<init>") :
    ∀ (d k : Nat), k + d = 6 → ∀ (H : Heap) (locs : List Loc) (ls : Array Slot), va_P D xcl (xW (j + 3 + 3 * k) (cB b) (paF b j k cA f)) H → va_S (cO b) s.heap H locs → lv_has ls 2 [(0, .ref (b + j)), (1, .int (nI k))] → W p l e rm_PA_init s m args below meth c H locs (2 + 3 * k) (10 + 149 * k) (MQ below (cQv D b (j + 21) (fun i => if j ≤ i then cC (cB b) cA i else f i)) args s 20 904 (cO b)) (F0 m 22 ls []) := by
  obtain ⟨hx, hb, hr, hml, hown, hts, hlk, hnh⟩ := id C
  have hA := E.hA
  intro d
  induction d with
  | zero =>
    intro k hk H locs ls hP hS hl
    obtain rfl : k = 6 := by omega
    refine lv_iload_n hx hb d_PA_init_22 rfl (lv_at hl 1 rfl) ?_
    refine lv_bipush (v := (6 : Int32)) hx hb d_PA_init_23 (by decide) ?_
    refine lv_icmp_ge (tgt := 57) hx hb d_PA_init_25 (by decide) (fun c1 => ?_) (fun c1 => absurd (by decide +kernel : (6 : Int32) ≤ nI 6) c1)
    have hP := pa_end hj hP
    refine W.widen (k := 20) (n := 904) (by decide) (by decide) ?_
    refine W.size (fun hsz => ?_)
    have hz2 := cSize hP (by omega) (by omega)
    exact W.vret hx hb hr (fun t ht hW => ⟨⟨(), rfl, trivial, by rw [ht]; exact hz2, by rw [ht]; exact hP⟩, hS.F ht⟩) hS.2.2 d_PA_init_57
  | succ d ih =>
    intro k hk H locs ls hP hS hl
    have hk6 : k < 6 := by omega
    have hJ := pa_xR hj hk6
    obtain ⟨hm1, hm2⟩ := pa_most hj hk6
    obtain ⟨hn1, hn2⟩ := pa_m1 k hk6
    have hck : (nI k).toNatClampNeg = k := nI_clamp (by omega)
    refine lv_iload_n hx hb d_PA_init_22 rfl (lv_at hl 1 rfl) ?_
    refine lv_bipush (v := (6 : Int32)) hx hb d_PA_init_23 (by decide) ?_
    refine lv_icmp_ge (tgt := 57) hx hb d_PA_init_25 (by decide) (fun c1 => absurd c1 (by show ¬ nI 6 ≤ nI k; exact nI_ge (by omega) (by omega))) (fun c1 => ?_)
    refine lv_aload_n hx hb d_PA_init_28 rfl (lv_at hl 0 rfl) ?_
    refine va_get (v := .ref (b + (j + 2))) (C := R_PA) (T := F_PA) (N := 5) (ci := 1) hx hb hts i_PA hown hK hP j (xW_at (by omega) (by unfold paF; rw [if_pos rfl])) rfl 4 (by decide) (hts _ wd_116) (fun _ h9 => h9) rfl d_PA_init_29 ?_
    refine lv_iload_n hx hb d_PA_init_32 rfl (lv_at hl 1 rfl) ?_
    refine va_new (ci := 3) (fs := [.int 0, .int 0, .null, .null, .int 0]) (C := R_RO) (T := F_RO) (N := 5) hx hb hts i_RO t_RO t_RO_ok hown (hts _ wd_77) (hts _ wd_79) (hts _ wd_5) hK hP cD hS hA rfl (fun j hj => by rcases (show j = 0 ∨ j = 1 ∨ j = 2 ∨ j = 3 ∨ j = 4 by omega) with rfl | rfl | rfl | rfl | rfl <;> rfl) (by show 2 + 3 * k + 1 ≤ 20; omega) (by show 10 + 149 * k + 5 ≤ 904; omega) d_PA_init_33 (fun q H hP hD hS => ?_)
    refine W.size (fun hsz => ?_)
    have e1 := cNext hP hD (by omega)
    subst e1
    clear hD hsz
    rw [cPush] at hP
    refine lv_dup hx hb d_PA_init_36 rfl ?_
    refine va_getsN hx hb E.z1 hS hown (E.nest wn_80) (fun _ h9 => h9) d_PA_init_37 ?_
    refine lv_iload_n hx hb d_PA_init_40 rfl (lv_at hl 1 rfl) ?_
    refine va_ti (v := .int (nI (xMost (j + 3 + 3 * k)))) hx hb E.a1 hS (vp_in_nI (by omega) (by omega)) (by show Value.int _ = _; rw [hck, hm1, hn1]) d_PA_init_41 ?_
    refine va_getsN hx hb E.z2 hS hown (E.nest wn_82) (fun _ h9 => h9) d_PA_init_42 ?_
    refine lv_iload_n hx hb d_PA_init_45 rfl (lv_at hl 1 rfl) ?_
    refine va_ti (v := .int (nI (xWid (j + 3 + 3 * k)))) hx hb E.a2 hS (vp_in_nI (by omega) (by omega)) (by show Value.int _ = _; rw [hck, hm2, hn2]) d_PA_init_46 ?_
    refine W.size (fun hsz => ?_)
    have hz9 : _ = b + (j + 3 + 3 * k + 1) := cSize hP (by omega) (by omega)
    clear hsz
    refine va_callv (va_runI (As := [.int (nI (xMost (j + 3 + 3 * k))), .int (nI (xWid (j + 3 + 3 * k)))]) (rest := [.ref (b + (j + 3 + 3 * k)), .int (nI k), .ref (b + (j + 2))]) ⟨hx, hb, hml, hown, hts⟩ (c_RO_init l D cA t1 t2 b s0 (va_up (paF b j k cA f) (j + 3 + 3 * k) (.inr (3, [.int 0, .int 0, .null, .null, .int 0]))) (j + 3 + 3 * k) hJ (va_up_self _ _ _)) (cwI 2 hts (xT_I wd_86) rfl rfl rfl (hts _ wd_5) (hts _ wd_84) (hts _ wd_85) rfl (by decide +kernel) ⟨Nat.le_of_ble_eq_true rfl, Nat.le_of_ble_eq_true rfl⟩) (cpI hz9 hK E hP hS) rfl rfl hl.1 rfl (lv_room (Nat.le_of_ble_eq_true rfl)) d_PA_init_47 ⟨by show 2 + 3 * k + 1 + 2 ≤ 20; omega, by show 10 + 149 * k + 5 + 144 ≤ 904; omega⟩) hS (fun _ _ h => h) (fun _ h => h) (fun u t H1 locs ht hvm hw hB hz1 hk1 hS => ?_)
    obtain ⟨hz3, hP⟩ := hB
    rw [ht] at hz3 hP
    clear ht hvm hw hz1 hk1
    generalize H1 = H at hP hS hz3 ⊢
    refine va_astq (r := (R_RO, F_RO, 5)) hx hb hK hP cD hS (j + 2) 4 (j + 3 + 3 * k) 3 (n := 6) (a := b + (j + 2)) (v := b + (j + 3 + 3 * k)) (xW_at (by omega) (by rw [if_neg (by omega), va_up_ne _ _ (by omega)]; unfold paF; rw [if_neg (by omega), if_neg (by omega), if_pos rfl])) rfl (xW_at (by omega) (by rw [if_pos (Nat.le_refl _)]; exact xc_RO _ _ _ _ hJ)) rfl (vp_in_nI hk6 (by omega)) d_PA_init_50 (fun H locs hP _ hS => ?_)
    rw [xW_up (lay := cB b) (i := j + 2)] at hP
    refine lv_iinc (v := nI (k + 1)) (lv' := [(1, .int (nI (k + 1))), (0, .ref (b + j))]) hx hb d_PA_init_51 hl (k := 1) rfl (nI_1 k) (by decide) rfl (fun ls hl => ?_)
    refine lv_goto (tgt := 22) hx hb d_PA_init_54 (by decide) ?_
    have hP : va_P D xcl (xW (j + 3 + 3 * k + 3) (cB b) (paF b j (k + 1) cA f)) H := cTo hP (fun i hi => pa_step hk6 i hi)
    rw [show j + 3 + 3 * k + 3 = j + 3 + 3 * (k + 1) by omega] at hP
    refine W.widen (k := 2 + 3 * (k + 1)) (n := 10 + 149 * (k + 1)) (by omega) (by omega) ?_
    exact ih (k + 1) (by omega) H locs ls hP hS (lv_sub hl [1, 0] rfl)
set_option maxHeartbeats 4000000 in
set_option maxRecDepth 100000 in
theorem c_PA_init (l : Launch) (D : va_G) (cA : Nat → ClassId) (t1 t2 b : Nat) (s0 : State) (f : Nat → va_E) (j : Nat) (hj : xP j) (hf : f j = .inr (1, [.long 0, .int 0, .int 0, .null, .null])) : Met l y_PA_init (.code y_PA_init b_PA_init 2 none :: xT) rm_PA_init (cPc D cA t1 t2 b s0 (j + 1) f [.ref (b + j)]) (cQv D b (j + 21) (fun i => if j ≤ i then cC (cB b) cA i else f i)) 20 904 (cO b) := by
  refine Met.ofW (cc := b_PA_init) (maxL := 2) (ret := none) (by decide +kernel) rfl ?_
  intro p e s m args below meth c s₁ B hml hv
  obtain ⟨rfl, hz, hP, hK, E⟩ := hv
  have hin : meth.name = "<init>" := (name_of_methodNamed B.named B.method).1
  have C := xB_of B hml
  obtain ⟨hx, hb, hr, hml, hown, hts, hlk, hnh⟩ := id C
  have hA := E.hA
  have hS : va_S (cO b) s.heap s.heap [] := va_S.rf
  have hl := lv_entry ([.ref (b + j)]) (n := 2) (Nat.le_of_ble_eq_true rfl)
  rw [lg_entry_eq]
  generalize (lg_sl ([.ref (b + j)]) ++ List.replicate (2 - (lg_sl ([.ref (b + j)])).length) Slot.unset).toArray = ls at hl ⊢
  have nj : ¬ j = j + 1 + 1 := by omega
  refine lv_aload_n hx hb d_PA_init_0 rfl (lv_at hl 0 rfl) ?_
  refine W.objInit hx hb hown (hts _ wd_76) (hts _ wd_24) (hts _ wd_25) rfl (hl.1.trans hml.symm) rfl d_PA_init_1 (Nat.le_of_ble_eq_true rfl) (Nat.le_of_ble_eq_true rfl) ?_
  refine W.eq (g2 := F0 m 4 ls []) rfl ?_
  refine lv_aload_n hx hb d_PA_init_4 rfl (lv_at hl 0 rfl) ?_
  refine lv_iconst (v := (4 : Int32)) hx hb d_PA_init_5 (by decide) ?_
  refine va_newa (atype := .int) (N' := 4) (a0 := (4, .inl (fun _ => 0))) hx hb (hts _ wd_107) rfl hK hP cD hS hA (fun _ => rfl) (by decide) (by decide) (by show 4 * 4 ≤ _; omega) (by decide) (by decide) d_PA_init_6 (fun q c1 H hK1 hP hD hS => ?_)
  have e1 := tys_one hK1 2 rfl
  subst e1
  clear hK1
  refine W.size (fun hsz => ?_)
  have e1 := cNext hP hD (by omega)
  subst e1
  clear hD hsz
  rw [cPush] at hP
  refine va_putF (v := .ref (b + (j + 1))) (ty := .array .int) (C := R_PA) (T := F_PA) (N := 5) (a := b + j) (ci := 1) (fs := [.long 0, .int 0, .int 0, .null, .null]) hx hb hts i_PA t_PA t_PA_ok n_PA hown hK hP cD hS j (xW_at (by omega) (by simp [va_up, hf, nj])) rfl 3 (by decide) (hts _ wd_115) (fun _ h9 => h9) rfl hin rfl (by decide +kernel) rfl rfl (Nat.le_of_ble_eq_true rfl) d_PA_init_8 (fun H locs hP _ hS => ?_)
  rw [xW_up (lay := cB b) (i := j)] at hP
  refine lv_aload_n hx hb d_PA_init_11 rfl (lv_at hl 0 rfl) ?_
  refine lv_bipush (v := (6 : Int32)) hx hb d_PA_init_12 (by decide) ?_
  refine va_newq (C := R_RO) (N' := 6) hx hb hown (hts _ wd_77) E.aR hK hP cD hS hA (by decide) (by decide) (by decide) (by decide) (by decide) d_PA_init_14 (fun q c1 H hK1 hP hD hS => ?_)
  have e1 := tys_one hK1 4 rfl
  subst e1
  clear hK1
  refine W.size (fun hsz => ?_)
  have e1 := cNext hP hD (by omega)
  subst e1
  clear hD hsz
  rw [cPush] at hP
  refine va_putF (v := .ref (b + (j + 1 + 1))) (ty := .array (.object "ConfigTexts$Rows")) (C := R_PA) (T := F_PA) (N := 5) (a := b + j) (ci := 1) (fs := [.long 0, .int 0, .int 0, .ref (b + (j + 1)), .null]) hx hb hts i_PA t_PA t_PA_ok n_PA hown hK hP cD hS j (xW_at (by omega) (by simp [va_up, hf, nj])) rfl 4 (by decide) (hts _ wd_116) (fun _ h9 => h9) rfl hin rfl (by decide +kernel) rfl rfl (Nat.le_of_ble_eq_true rfl) d_PA_init_17 (fun H locs hP _ hS => ?_)
  rw [xW_up (lay := cB b) (i := j)] at hP
  refine lv_iconst (v := (0 : Int32)) hx hb d_PA_init_20 (by decide) ?_
  refine lv_istore_n (lv' := [(1, .int (0 : Int32)), (0, .ref (b + j))]) hx hb d_PA_init_21 rfl hl (by decide) rfl (fun ls hl => ?_)
  have hP : va_P D xcl (xW (j + 3 + 3 * 0) (cB b) (paF b j 0 cA f)) H := cTo (n := j + 3) hP (fun i hi => by
    unfold paF
    by_cases h1 : i = j
    · subst h1; simp [va_up]
    · by_cases h2 : i = j + 1
      · subst h2; simp [va_up]
      · by_cases h3 : i = j + 2
        · subst h3; simp [va_up, nj]
        · rw [if_neg h1, if_neg h2, if_neg h3, if_neg (by omega)]; simp [va_up, h1, h2, h3])
  exact pa_loop l hj C E hK hz hin 6 0 rfl H locs ls hP hS (lv_sub hl [1, 0] rfl)
def rm_CF_init : Room := { frames := 3, cells := 175, slots := 7700, locals := 56 }
theorem d_CF_init_0 : decode b_CF_init 0 = .ok (.aload_n 0, 1) := by decide +kernel
theorem d_CF_init_1 : decode b_CF_init 1 = .ok (.invokespecial 3, 3) := by decide +kernel
theorem d_CF_init_4 : decode b_CF_init 4 = .ok (.aload_n 0, 1) := by decide +kernel
theorem d_CF_init_5 : decode b_CF_init 5 = .ok (.bipush 8, 2) := by decide +kernel
theorem d_CF_init_7 : decode b_CF_init 7 = .ok (.anewarray 9, 3) := by decide +kernel
theorem d_CF_init_10 : decode b_CF_init 10 = .ok (.putfield 11, 3) := by decide +kernel
theorem d_CF_init_13 : decode b_CF_init 13 = .ok (.iconst 0, 1) := by decide +kernel
theorem d_CF_init_14 : decode b_CF_init 14 = .ok (.istore_n 1, 1) := by decide +kernel
theorem d_CF_init_15 : decode b_CF_init 15 = .ok (.iload_n 1, 1) := by decide +kernel
theorem d_CF_init_16 : decode b_CF_init 16 = .ok (.bipush 8, 2) := by decide +kernel
theorem d_CF_init_18 : decode b_CF_init 18 = .ok (.if_icmp .ge 22, 3) := by decide +kernel
theorem d_CF_init_21 : decode b_CF_init 21 = .ok (.aload_n 0, 1) := by decide +kernel
theorem d_CF_init_22 : decode b_CF_init 22 = .ok (.getfield 11, 3) := by decide +kernel
theorem d_CF_init_25 : decode b_CF_init 25 = .ok (.iload_n 1, 1) := by decide +kernel
theorem d_CF_init_26 : decode b_CF_init 26 = .ok (.new 9, 3) := by decide +kernel
theorem d_CF_init_29 : decode b_CF_init 29 = .ok (.dup, 1) := by decide +kernel
theorem d_CF_init_30 : decode b_CF_init 30 = .ok (.invokespecial 17, 3) := by decide +kernel
theorem d_CF_init_33 : decode b_CF_init 33 = .ok (.aastore, 1) := by decide +kernel
theorem d_CF_init_34 : decode b_CF_init 34 = .ok (.iinc 1 1, 3) := by decide +kernel
theorem d_CF_init_37 : decode b_CF_init 37 = .ok (.goto (-22), 3) := by decide +kernel
theorem d_CF_init_40 : decode b_CF_init 40 = .ok (.aload_n 0, 1) := by decide +kernel
theorem d_CF_init_41 : decode b_CF_init 41 = .ok (.new 18, 3) := by decide +kernel
theorem d_CF_init_44 : decode b_CF_init 44 = .ok (.dup, 1) := by decide +kernel
theorem d_CF_init_45 : decode b_CF_init 45 = .ok (.bipush 16, 2) := by decide +kernel
theorem d_CF_init_47 : decode b_CF_init 47 = .ok (.bipush 8, 2) := by decide +kernel
theorem d_CF_init_49 : decode b_CF_init 49 = .ok (.invokespecial 20, 3) := by decide +kernel
theorem d_CF_init_52 : decode b_CF_init 52 = .ok (.putfield 23, 3) := by decide +kernel
theorem d_CF_init_55 : decode b_CF_init 55 = .ok (.aload_n 0, 1) := by decide +kernel
theorem d_CF_init_56 : decode b_CF_init 56 = .ok (.new 18, 3) := by decide +kernel
theorem d_CF_init_59 : decode b_CF_init 59 = .ok (.dup, 1) := by decide +kernel
theorem d_CF_init_60 : decode b_CF_init 60 = .ok (.bipush 16, 2) := by decide +kernel
theorem d_CF_init_62 : decode b_CF_init 62 = .ok (.iconst 2, 1) := by decide +kernel
theorem d_CF_init_63 : decode b_CF_init 63 = .ok (.invokespecial 20, 3) := by decide +kernel
theorem d_CF_init_66 : decode b_CF_init 66 = .ok (.putfield 27, 3) := by decide +kernel
theorem d_CF_init_69 : decode b_CF_init 69 = .ok (.return_, 1) := by decide +kernel
def cfF (b k : Nat) (cA : Nat → ClassId) (f : Nat → va_E) (i : Nat) : va_E :=
  if i = 3 then .inr (0, [.ref (b + 4), .int 0, .null, .null, .int 0, .int 0, .int 0]) else if i = 4 then .inl (cA 3, 8, .inr (.inr (.inr (.inr (fun m => if m < k then some (b + (5 + 21 * m)) else none))))) else if 3 ≤ i then cC (cB b) cA i else f i
theorem cf_xP {k : Nat} (hk : k < 8) : xP (5 + 21 * k) := by omega
theorem cf_step {b k : Nat} {cA : Nat → ClassId} {f : Nat → va_E} {e : va_E} (hk : k < 8) (i : Nat) (hi : i < 5 + 21 * k + 21) : va_up (fun i => if 5 + 21 * k ≤ i then cC (cB b) cA i else va_up (cfF b k cA f) (5 + 21 * k) e i) 4 (.inl (cA 3, 8, .inr (.inr (.inr (.inr (va_up (fun m => if m < k then some (b + (5 + 21 * m)) else none) (nI k).toNatClampNeg (some (b + (5 + 21 * k))))))))) i = cfF b (k + 1) cA f i := by
  rw [nI_clamp (by omega)]
  by_cases h2 : i = 4
  · subst h2
    rw [va_up_self]
    unfold cfF
    rw [if_neg (by omega), if_pos rfl]
    congr 7
    funext m
    by_cases hm : m = k
    · subst hm; rw [va_up_self, if_pos (by omega)]
    · rw [va_up_ne _ _ hm]
      by_cases h3 : m < k
      · rw [if_pos h3, if_pos (by omega)]
      · rw [if_neg h3, if_neg (by omega)]
  · rw [va_up_ne _ _ h2]
    by_cases h1 : 5 + 21 * k ≤ i
    · rw [if_pos h1]
      unfold cfF
      rw [if_neg (by omega), if_neg (by omega), if_pos (by omega)]
    · rw [if_neg h1, va_up_ne _ _ (by omega)]
      unfold cfF
      simp only [h2, if_false]
theorem cf_end {D : va_G} {b : Nat} {cA : Nat → ClassId} {f : Nat → va_E} {H : Heap} (h : va_P D xcl (xW 173 (cB b) (cfF b 8 cA f)) H) : va_P D xcl (xW 173 (cB b) (fun i => if i = 3 then .inr (0, [.ref (b + 4), .int 0, .null, .null, .int 0, .int 0, .int 0]) else if 3 ≤ i then cC (cB b) cA i else f i)) H := by
  have h1 := xP_arr0 (i := 4) (g' := fun m => some (b + (5 + 21 * m))) h (by unfold cfF; rw [if_neg (by omega), if_pos rfl]) (fun m hm => by rw [if_pos hm])
  refine cTo (n := 173) h1 (fun i hi => ?_)
  by_cases h2 : i = 4
  · subst h2
    rw [va_up_self, if_neg (by omega), if_pos (by omega), cC, xc_4]
  · rw [va_up_ne _ _ h2]
    unfold cfF
    simp only [h2, if_false]
set_option maxHeartbeats 4000000 in
set_option maxRecDepth 100000 in
theorem cf_loop (l : Launch) {p : Program} {e : Env} {s : State} {m : MethodId} {args : Array Value} {below : List Frame} {meth : Method} {c : Code} {D : va_G} {cA : Nat → ClassId} {t1 t2 b : Nat} {s0 : State} {f : Nat → va_E} {Q : State → Prop} (C : xB p s m args meth c R_CF b_CF_init none 2) (E : cE cA t1 t2 b s0 s s.heap) (hK : va_K D xcl (xtys cA) s) (hz : s.heap.size = b + 4)
    (kk : ∀ (H : Heap) (locs : List Loc) (ls : Array Slot), va_P D xcl (xW 173 (cB b) (fun i => if i = 3 then .inr (0, [.ref (b + 4), .int 0, .null, .null, .int 0, .int 0, .int 0]) else if 3 ≤ i then cC (cB b) cA i else f i)) H → va_S (cO b) s.heap H locs → lv_has ls 2 [(0, .ref (b + 3)), (1, .int (nI 8))] → W p l e rm_CF_init s m args below meth c H locs (1 + 21 * 8) (8 + 909 * 8) Q (F0 m 40 ls [])) :
    ∀ (d k : Nat), k + d = 8 → ∀ (H : Heap) (locs : List Loc) (ls : Array Slot), va_P D xcl (xW (5 + 21 * k) (cB b) (cfF b k cA f)) H → va_S (cO b) s.heap H locs → lv_has ls 2 [(0, .ref (b + 3)), (1, .int (nI k))] → W p l e rm_CF_init s m args below meth c H locs (1 + 21 * k) (8 + 909 * k) Q (F0 m 15 ls []) := by
  obtain ⟨hx, hb, hr, hml, hown, hts, hlk, hnh⟩ := id C
  have hA := E.hA
  intro d
  induction d with
  | zero =>
    intro k hk H locs ls hP hS hl
    obtain rfl : k = 8 := by omega
    refine lv_iload_n hx hb d_CF_init_15 rfl (lv_at hl 1 rfl) ?_
    refine lv_bipush (v := (8 : Int32)) hx hb d_CF_init_16 (by decide) ?_
    refine lv_icmp_ge (tgt := 40) hx hb d_CF_init_18 (by decide) (fun c1 => ?_) (fun c1 => absurd (by decide +kernel : (8 : Int32) ≤ nI 8) c1)
    exact kk H locs ls (cf_end hP) hS hl
  | succ d ih =>
    intro k hk H locs ls hP hS hl
    have hk8 : k < 8 := by omega
    have hJ := cf_xP hk8
    refine lv_iload_n hx hb d_CF_init_15 rfl (lv_at hl 1 rfl) ?_
    refine lv_bipush (v := (8 : Int32)) hx hb d_CF_init_16 (by decide) ?_
    refine lv_icmp_ge (tgt := 40) hx hb d_CF_init_18 (by decide) (fun c1 => absurd c1 (by show ¬ nI 8 ≤ nI k; exact nI_ge (by omega) (by omega))) (fun c1 => ?_)
    refine lv_aload_n hx hb d_CF_init_21 rfl (lv_at hl 0 rfl) ?_
    refine va_get (v := .ref (b + 4)) (C := R_CF) (T := F_CF) (N := 7) (ci := 0) hx hb hts i_CF hown hK hP 3 (xW_at (by omega) (by unfold cfF; rw [if_pos rfl])) rfl 0 (by decide) (hts _ wd_132) (fun _ h9 => h9) rfl d_CF_init_22 ?_
    refine lv_iload_n hx hb d_CF_init_25 rfl (lv_at hl 1 rfl) ?_
    refine va_new (ci := 1) (fs := [.long 0, .int 0, .int 0, .null, .null]) (C := R_PA) (T := F_PA) (N := 5) hx hb hts i_PA t_PA t_PA_ok hown (hts _ wd_70) (hts _ wd_72) (hts _ wd_4) hK hP cD hS hA rfl (fun j hj => by rcases (show j = 0 ∨ j = 1 ∨ j = 2 ∨ j = 3 ∨ j = 4 by omega) with rfl | rfl | rfl | rfl | rfl <;> rfl) (by show 1 + 21 * k + 1 ≤ 175; omega) (by show 8 + 909 * k + 5 ≤ 7700; omega) d_CF_init_26 (fun q H hP hD hS => ?_)
    refine W.size (fun hsz => ?_)
    have e1 := cNext hP hD (by omega)
    subst e1
    clear hD hsz
    rw [cPush] at hP
    refine lv_dup hx hb d_CF_init_29 rfl ?_
    refine W.size (fun hsz => ?_)
    have hz9 : _ = b + (5 + 21 * k + 1) := cSize hP (by omega) (by omega)
    clear hsz
    refine va_callv (va_runI (As := []) (rest := [.ref (b + (5 + 21 * k)), .int (nI k), .ref (b + 4)]) ⟨hx, hb, hml, hown, hts⟩ (c_PA_init l D cA t1 t2 b s0 (va_up (cfF b k cA f) (5 + 21 * k) (.inr (1, [.long 0, .int 0, .int 0, .null, .null]))) (5 + 21 * k) hJ (va_up_self _ _ _)) (cwI 0 hts (xT_I wd_75) rfl rfl rfl (hts _ wd_4) (hts _ wd_73) (hts _ wd_74) rfl (by decide +kernel) ⟨Nat.le_of_ble_eq_true rfl, Nat.le_of_ble_eq_true rfl⟩) (cpI hz9 hK E hP hS) rfl rfl hl.1 rfl (lv_room (Nat.le_of_ble_eq_true rfl)) d_CF_init_30 ⟨by show 1 + 21 * k + 1 + 20 ≤ 175; omega, by show 8 + 909 * k + 5 + 904 ≤ 7700; omega⟩) hS (fun _ _ h => h) (fun _ h => h) (fun u t H1 locs ht hvm hw hB hz1 hk1 hS => ?_)
    obtain ⟨hz3, hP⟩ := hB
    rw [ht] at hz3 hP
    clear ht hvm hw hz1 hk1
    generalize H1 = H at hP hS hz3 ⊢
    refine va_astq (r := (R_PA, F_PA, 5)) hx hb hK hP cD hS 4 3 (5 + 21 * k) 1 (n := 8) (a := b + 4) (v := b + (5 + 21 * k)) (xW_at (by omega) (by rw [if_neg (by omega), va_up_ne _ _ (by omega)]; unfold cfF; rw [if_neg (by omega), if_pos rfl])) rfl (xW_at (by omega) (by rw [if_pos (Nat.le_refl _)]; exact xc_PA _ _ _ _ hJ)) rfl (vp_in_nI hk8 (by omega)) d_CF_init_33 (fun H locs hP _ hS => ?_)
    rw [xW_up (lay := cB b) (i := 4)] at hP
    refine lv_iinc (v := nI (k + 1)) (lv' := [(1, .int (nI (k + 1))), (0, .ref (b + 3))]) hx hb d_CF_init_34 hl (k := 1) rfl (nI_1 k) (by decide) rfl (fun ls hl => ?_)
    refine lv_goto (tgt := 15) hx hb d_CF_init_37 (by decide) ?_
    have hP : va_P D xcl (xW (5 + 21 * k + 21) (cB b) (cfF b (k + 1) cA f)) H := cTo hP (fun i hi => cf_step hk8 i hi)
    rw [show 5 + 21 * k + 21 = 5 + 21 * (k + 1) by omega] at hP
    refine W.widen (k := 1 + 21 * (k + 1)) (n := 8 + 909 * (k + 1)) (by omega) (by omega) ?_
    exact ih (k + 1) (by omega) H locs ls hP hS (lv_sub hl [1, 0] rfl)
set_option maxHeartbeats 4000000 in
set_option maxRecDepth 100000 in
theorem c_CF_init (l : Launch) (D : va_G) (cA : Nat → ClassId) (t1 t2 b : Nat) (s0 : State) (f : Nat → va_E) (hf : f 3 = .inr (0, [.null, .int 0, .null, .null, .int 0, .int 0, .int 0])) : Met l y_CF_init (.code y_CF_init b_CF_init 2 none :: xT) rm_CF_init (cPc D cA t1 t2 b s0 4 f [.ref (b + 3)]) (cQv D b 179 (fun i => if 3 ≤ i then cC (cB b) cA i else f i)) 175 7700 (cO b) := by
  refine Met.ofW (cc := b_CF_init) (maxL := 2) (ret := none) (by decide +kernel) rfl ?_
  intro p e s m args below meth c s₁ B hml hv
  obtain ⟨rfl, hz, hP, hK, E⟩ := hv
  have hin : meth.name = "<init>" := (name_of_methodNamed B.named B.method).1
  have C := xB_of B hml
  obtain ⟨hx, hb, hr, hml, hown, hts, hlk, hnh⟩ := id C
  have hA := E.hA
  have hS : va_S (cO b) s.heap s.heap [] := va_S.rf
  have hl := lv_entry ([.ref (b + 3)]) (n := 2) (Nat.le_of_ble_eq_true rfl)
  rw [lg_entry_eq]
  generalize (lg_sl ([.ref (b + 3)]) ++ List.replicate (2 - (lg_sl ([.ref (b + 3)])).length) Slot.unset).toArray = ls at hl ⊢
  refine lv_aload_n hx hb d_CF_init_0 rfl (lv_at hl 0 rfl) ?_
  refine W.objInit hx hb hown (hts _ wd_69) (hts _ wd_24) (hts _ wd_25) rfl (hl.1.trans hml.symm) rfl d_CF_init_1 (Nat.le_of_ble_eq_true rfl) (Nat.le_of_ble_eq_true rfl) ?_
  refine W.eq (g2 := F0 m 4 ls []) rfl ?_
  refine lv_aload_n hx hb d_CF_init_4 rfl (lv_at hl 0 rfl) ?_
  refine lv_bipush (v := (8 : Int32)) hx hb d_CF_init_5 (by decide) ?_
  refine va_newq (C := R_PA) (N' := 8) hx hb hown (hts _ wd_70) E.aP hK hP cD hS hA (by decide) (by decide) (by decide) (by decide) (by decide) d_CF_init_7 (fun q c1 H hK1 hP hD hS => ?_)
  have e1 := tys_one hK1 3 rfl
  subst e1
  clear hK1
  refine W.size (fun hsz => ?_)
  have e1 := cNext hP hD (by omega)
  subst e1
  clear hD hsz
  rw [cPush] at hP
  refine va_putF (v := .ref (b + 4)) (ty := .array (.object "ConfigTexts$Partition")) (C := R_CF) (T := F_CF) (N := 7) (a := b + 3) (ci := 0) (fs := [.null, .int 0, .null, .null, .int 0, .int 0, .int 0]) hx hb hts i_CF t_CF t_CF_ok n_CF hown hK hP cD hS 3 (xW_at (by omega) (by simp [va_up, hf])) rfl 0 (by decide) (hts _ wd_132) (fun _ h9 => h9) rfl hin rfl (by decide +kernel) rfl rfl (Nat.le_of_ble_eq_true rfl) d_CF_init_10 (fun H locs hP _ hS => ?_)
  rw [xW_up (lay := cB b) (i := 3)] at hP
  refine lv_iconst (v := (0 : Int32)) hx hb d_CF_init_13 (by decide) ?_
  refine lv_istore_n (lv' := [(1, .int (0 : Int32)), (0, .ref (b + 3))]) hx hb d_CF_init_14 rfl hl (by decide) rfl (fun ls hl => ?_)
  have hP : va_P D xcl (xW (5 + 21 * 0) (cB b) (cfF b 0 cA f)) H := cTo (n := 5) hP (fun i hi => by
    unfold cfF
    by_cases h1 : i = 3
    · subst h1; simp [va_up]
    · by_cases h2 : i = 4
      · subst h2; simp [va_up]
      · rw [if_neg h1, if_neg h2, if_neg (by omega)]; simp [va_up, h1, h2])
  refine cf_loop l C E hK hz (fun H locs ls hP hS hl => ?_) 8 0 rfl H locs ls hP hS (lv_sub hl [1, 0] rfl)
  refine lv_aload_n hx hb d_CF_init_40 rfl (lv_at hl 0 rfl) ?_
  refine va_new (ci := 3) (fs := [.int 0, .int 0, .null, .null, .int 0]) (C := R_RO) (T := F_RO) (N := 5) hx hb hts i_RO t_RO t_RO_ok hown (hts _ wd_130) (hts _ wd_79) (hts _ wd_5) hK hP cD hS hA rfl (fun j hj => by rcases (show j = 0 ∨ j = 1 ∨ j = 2 ∨ j = 3 ∨ j = 4 by omega) with rfl | rfl | rfl | rfl | rfl <;> rfl) (by decide) (by decide) d_CF_init_41 (fun q H hP hD hS => ?_)
  refine W.size (fun hsz => ?_)
  have e1 := cNext hP hD (by omega)
  subst e1
  clear hD hsz
  rw [cPush] at hP
  refine lv_dup hx hb d_CF_init_44 rfl ?_
  refine lv_bipush (v := nI (xMost 173)) hx hb d_CF_init_45 (by decide +kernel) ?_
  refine lv_bipush (v := nI (xWid 173)) hx hb d_CF_init_47 (by decide +kernel) ?_
  refine W.size (fun hsz => ?_)
  have hz9 : _ = b + (173 + 1) := cSize hP (by omega) (by omega)
  clear hsz
  refine va_callv (va_runI (As := [.int (nI (xMost 173)), .int (nI (xWid 173))]) (rest := [.ref (b + 173), .ref (b + 3)]) ⟨hx, hb, hml, hown, hts⟩ (c_RO_init l D cA t1 t2 b s0 (va_up (fun i => if i = 3 then .inr (0, [.ref (b + 4), .int 0, .null, .null, .int 0, .int 0, .int 0]) else if 3 ≤ i then cC (cB b) cA i else f i) 173 (.inr (3, [.int 0, .int 0, .null, .null, .int 0]))) 173 (by decide) (va_up_self _ _ _)) (cwI 2 hts (xT_I wd_86) rfl rfl rfl (hts _ wd_5) (hts _ wd_131) (hts _ wd_85) rfl (by decide +kernel) ⟨Nat.le_of_ble_eq_true rfl, Nat.le_of_ble_eq_true rfl⟩) (cpI hz9 hK E hP hS) rfl rfl hl.1 rfl (lv_room (Nat.le_of_ble_eq_true rfl)) d_CF_init_49 ⟨by decide, by decide⟩) hS (fun _ _ h => h) (fun _ h => h) (fun u t H1 locs ht hvm hw hB hz1 hk1 hS => ?_)
  obtain ⟨hz3, hP⟩ := hB
  rw [ht] at hz3 hP
  clear ht hvm hw hz1 hk1
  generalize H1 = H at hP hS hz3 ⊢
  refine va_putF (v := .ref (b + 173)) (ty := .object "ConfigTexts$Rows") (C := R_CF) (T := F_CF) (N := 7) (a := b + 3) (ci := 0) (fs := [.ref (b + 4), .int 0, .null, .null, .int 0, .int 0, .int 0]) hx hb hts i_CF t_CF t_CF_ok n_CF hown hK hP cD hS 3 (xW_at (by omega) (by rw [if_neg (by omega), va_up_ne _ _ (by omega), if_pos rfl])) rfl 2 (by decide) (hts _ wd_136) (fun _ h9 => h9) rfl hin rfl (by decide +kernel) rfl rfl (Nat.le_of_ble_eq_true rfl) d_CF_init_52 (fun H locs hP _ hS => ?_)
  rw [xW_up (lay := cB b) (i := 3)] at hP
  have hP : va_P D xcl (xW 176 (cB b) (fun i => if i = 3 then .inr (0, [.ref (b + 4), .int 0, .ref (b + 173), .null, .int 0, .int 0, .int 0]) else if 3 ≤ i then cC (cB b) cA i else f i)) H := cTo (n := 176) hP (fun i hi => by
    by_cases h1 : i = 3
    · subst h1; rw [va_up_self, if_pos rfl]; rfl
    · rw [va_up_ne _ _ h1, if_neg h1]
      by_cases h2 : 173 ≤ i
      · rw [if_pos h2, if_pos (by omega)]
      · rw [if_neg h2, va_up_ne _ _ (by omega), if_neg h1])
  refine lv_aload_n hx hb d_CF_init_55 rfl (lv_at hl 0 rfl) ?_
  refine va_new (ci := 3) (fs := [.int 0, .int 0, .null, .null, .int 0]) (C := R_RO) (T := F_RO) (N := 5) hx hb hts i_RO t_RO t_RO_ok hown (hts _ wd_130) (hts _ wd_79) (hts _ wd_5) hK hP cD hS hA rfl (fun j hj => by rcases (show j = 0 ∨ j = 1 ∨ j = 2 ∨ j = 3 ∨ j = 4 by omega) with rfl | rfl | rfl | rfl | rfl <;> rfl) (by decide) (by decide) d_CF_init_56 (fun q H hP hD hS => ?_)
  refine W.size (fun hsz => ?_)
  have e1 := cNext hP hD (by omega)
  subst e1
  clear hD hsz
  rw [cPush] at hP
  refine lv_dup hx hb d_CF_init_59 rfl ?_
  refine lv_bipush (v := nI (xMost 176)) hx hb d_CF_init_60 (by decide +kernel) ?_
  refine lv_iconst (v := nI (xWid 176)) hx hb d_CF_init_62 (by decide +kernel) ?_
  refine W.size (fun hsz => ?_)
  have hz9 : _ = b + (176 + 1) := cSize hP (by omega) (by omega)
  clear hsz
  refine va_callv (va_runI (As := [.int (nI (xMost 176)), .int (nI (xWid 176))]) (rest := [.ref (b + 176), .ref (b + 3)]) ⟨hx, hb, hml, hown, hts⟩ (c_RO_init l D cA t1 t2 b s0 (va_up (fun i => if i = 3 then .inr (0, [.ref (b + 4), .int 0, .ref (b + 173), .null, .int 0, .int 0, .int 0]) else if 3 ≤ i then cC (cB b) cA i else f i) 176 (.inr (3, [.int 0, .int 0, .null, .null, .int 0]))) 176 (by decide) (va_up_self _ _ _)) (cwI 2 hts (xT_I wd_86) rfl rfl rfl (hts _ wd_5) (hts _ wd_131) (hts _ wd_85) rfl (by decide +kernel) ⟨Nat.le_of_ble_eq_true rfl, Nat.le_of_ble_eq_true rfl⟩) (cpI hz9 hK E hP hS) rfl rfl hl.1 rfl (lv_room (Nat.le_of_ble_eq_true rfl)) d_CF_init_63 ⟨by decide, by decide⟩) hS (fun _ _ h => h) (fun _ h => h) (fun u t H1 locs ht hvm hw hB hz1 hk1 hS => ?_)
  obtain ⟨hz3, hP⟩ := hB
  rw [ht] at hz3 hP
  clear ht hvm hw hz1 hk1
  generalize H1 = H at hP hS hz3 ⊢
  refine va_putF (v := .ref (b + 176)) (ty := .object "ConfigTexts$Rows") (C := R_CF) (T := F_CF) (N := 7) (a := b + 3) (ci := 0) (fs := [.ref (b + 4), .int 0, .ref (b + 173), .null, .int 0, .int 0, .int 0]) hx hb hts i_CF t_CF t_CF_ok n_CF hown hK hP cD hS 3 (xW_at (by omega) (by rw [if_neg (by omega), va_up_ne _ _ (by omega), if_pos rfl])) rfl 3 (by decide) (hts _ wd_139) (fun _ h9 => h9) rfl hin rfl (by decide +kernel) rfl rfl (Nat.le_of_ble_eq_true rfl) d_CF_init_66 (fun H locs hP _ hS => ?_)
  rw [xW_up (lay := cB b) (i := 3)] at hP
  have hP : va_P D xcl (xW 179 (cB b) (fun i => if i = 3 then .inr (0, [.ref (b + 4), .int 0, .ref (b + 173), .ref (b + 176), .int 0, .int 0, .int 0]) else if 3 ≤ i then cC (cB b) cA i else f i)) H := cTo (n := 179) hP (fun i hi => by
    by_cases h1 : i = 3
    · subst h1; rw [va_up_self, if_pos rfl]; rfl
    · rw [va_up_ne _ _ h1, if_neg h1]
      by_cases h2 : 176 ≤ i
      · rw [if_pos h2, if_pos (by omega)]
      · rw [if_neg h2, va_up_ne _ _ (by omega), if_neg h1])
  have hP : va_P D xcl (xW 179 (cB b) (fun i => if 3 ≤ i then cC (cB b) cA i else f i)) H := cTo hP (fun i hi => by
    by_cases h1 : i = 3
    · subst h1; rw [if_pos rfl, if_pos (by omega), cC, xc_3, (by decide +kernel : z0 3 1 = 0), (by decide +kernel : z0 3 4 = 0), (by decide +kernel : z0 3 5 = 0), (by decide +kernel : z0 3 6 = 0)]
    · rw [if_neg h1])
  refine W.widen (k := 175) (n := 7700) (by decide) (by decide) ?_
  refine W.size (fun hsz => ?_)
  have hz2 := cSize hP (by omega) (by omega)
  exact W.vret hx hb hr (fun t ht hW => ⟨⟨(), rfl, trivial, by rw [ht]; exact hz2, by rw [ht]; exact hP⟩, hS.F ht⟩) hS.2.2 d_CF_init_69
def rm_CT_init : Room := { frames := 4, cells := 179, slots := 9800, locals := 80 }
theorem d_CT_init_0 : decode b_CT_init 0 = .ok (.aload_n 0, 1) := by decide +kernel
theorem d_CT_init_1 : decode b_CT_init 1 = .ok (.invokespecial 1, 3) := by decide +kernel
theorem d_CT_init_4 : decode b_CT_init 4 = .ok (.aload_n 0, 1) := by decide +kernel
theorem d_CT_init_5 : decode b_CT_init 5 = .ok (.sipush 2000, 3) := by decide +kernel
theorem d_CT_init_8 : decode b_CT_init 8 = .ok (.newarray .byte, 2) := by decide +kernel
theorem d_CT_init_10 : decode b_CT_init 10 = .ok (.putfield 9, 3) := by decide +kernel
theorem d_CT_init_13 : decode b_CT_init 13 = .ok (.aload_n 0, 1) := by decide +kernel
theorem d_CT_init_14 : decode b_CT_init 14 = .ok (.iconst 0, 1) := by decide +kernel
theorem d_CT_init_15 : decode b_CT_init 15 = .ok (.putfield 13, 3) := by decide +kernel
theorem d_CT_init_18 : decode b_CT_init 18 = .ok (.aload_n 0, 1) := by decide +kernel
theorem d_CT_init_19 : decode b_CT_init 19 = .ok (.new 17, 3) := by decide +kernel
theorem d_CT_init_22 : decode b_CT_init 22 = .ok (.dup, 1) := by decide +kernel
theorem d_CT_init_23 : decode b_CT_init 23 = .ok (.aload_n 0, 1) := by decide +kernel
theorem d_CT_init_24 : decode b_CT_init 24 = .ok (.getfield 9, 3) := by decide +kernel
theorem d_CT_init_27 : decode b_CT_init 27 = .ok (.invokespecial 19, 3) := by decide +kernel
theorem d_CT_init_30 : decode b_CT_init 30 = .ok (.putfield 22, 3) := by decide +kernel
theorem d_CT_init_33 : decode b_CT_init 33 = .ok (.aload_n 0, 1) := by decide +kernel
theorem d_CT_init_34 : decode b_CT_init 34 = .ok (.new 26, 3) := by decide +kernel
theorem d_CT_init_37 : decode b_CT_init 37 = .ok (.dup, 1) := by decide +kernel
theorem d_CT_init_38 : decode b_CT_init 38 = .ok (.invokespecial 28, 3) := by decide +kernel
theorem d_CT_init_41 : decode b_CT_init 41 = .ok (.putfield 29, 3) := by decide +kernel
theorem d_CT_init_44 : decode b_CT_init 44 = .ok (.aload_n 0, 1) := by decide +kernel
theorem d_CT_init_45 : decode b_CT_init 45 = .ok (.new 33, 3) := by decide +kernel
theorem d_CT_init_48 : decode b_CT_init 48 = .ok (.dup, 1) := by decide +kernel
theorem d_CT_init_49 : decode b_CT_init 49 = .ok (.aload_n 0, 1) := by decide +kernel
theorem d_CT_init_50 : decode b_CT_init 50 = .ok (.getfield 22, 3) := by decide +kernel
theorem d_CT_init_53 : decode b_CT_init 53 = .ok (.aload_n 0, 1) := by decide +kernel
theorem d_CT_init_54 : decode b_CT_init 54 = .ok (.getfield 29, 3) := by decide +kernel
theorem d_CT_init_57 : decode b_CT_init 57 = .ok (.invokespecial 35, 3) := by decide +kernel
theorem d_CT_init_60 : decode b_CT_init 60 = .ok (.putfield 38, 3) := by decide +kernel
theorem d_CT_init_63 : decode b_CT_init 63 = .ok (.aload_n 0, 1) := by decide +kernel
theorem d_CT_init_64 : decode b_CT_init 64 = .ok (.iconst 0, 1) := by decide +kernel
theorem d_CT_init_65 : decode b_CT_init 65 = .ok (.putfield 42, 3) := by decide +kernel
theorem d_CT_init_68 : decode b_CT_init 68 = .ok (.return_, 1) := by decide +kernel
set_option maxHeartbeats 4000000 in
set_option maxRecDepth 100000 in
theorem c_CT_init (l : Launch) (D : va_G) (cA : Nat → ClassId) (t1 t2 b : Nat) (s0 : State) (f : Nat → va_E) (hf : f 0 = .inr (5, [.null, .int 0, .null, .null, .null, .int 0])) : Met l y_CT_init (.code y_CT_init b_CT_init 1 none :: xT) rm_CT_init (cPc D cA t1 t2 b s0 1 f [.ref (b + 0)]) (cQv D b 180 (fun i => cC (cB b) cA i)) 179 9800 (cO b) := by
  refine Met.ofW (cc := b_CT_init) (maxL := 1) (ret := none) (by decide +kernel) rfl ?_
  intro p e s m args below meth c s₁ B hml hv
  obtain ⟨rfl, hz, hP, hK, E⟩ := hv
  have hin : meth.name = "<init>" := (name_of_methodNamed B.named B.method).1
  have C := xB_of B hml
  obtain ⟨hx, hb, hr, hml, hown, hts, hlk, hnh⟩ := id C
  have hA := E.hA
  have hS : va_S (cO b) s.heap s.heap [] := va_S.rf
  have hl := lv_entry ([.ref (b + 0)]) (n := 1) (Nat.le_of_ble_eq_true rfl)
  rw [lg_entry_eq]
  generalize (lg_sl ([.ref (b + 0)]) ++ List.replicate (1 - (lg_sl ([.ref (b + 0)])).length) Slot.unset).toArray = ls at hl ⊢
  refine lv_aload_n hx hb d_CT_init_0 rfl (lv_at hl 0 rfl) ?_
  refine W.objInit hx hb hown (hts _ wd_23) (hts _ wd_24) (hts _ wd_25) rfl (hl.1.trans hml.symm) rfl d_CT_init_1 (Nat.le_of_ble_eq_true rfl) (Nat.le_of_ble_eq_true rfl) ?_
  refine W.eq (g2 := F0 m 4 ls []) rfl ?_
  refine lv_aload_n hx hb d_CT_init_4 rfl (lv_at hl 0 rfl) ?_
  refine lv_sipush (v := (2000 : Int32)) hx hb d_CT_init_5 (by decide) ?_
  refine va_newa (atype := .byte) (N' := 2000) (a0 := (2000, .inl (fun _ => 0))) hx hb (hts _ wd_63) rfl hK hP cD hS hA (fun _ => rfl) (by decide) (by decide +kernel) (by show 2000 * 1 ≤ _; omega) (by decide) (by decide) d_CT_init_8 (fun q c1 H hK1 hP hD hS => ?_)
  have e1 := tys_one hK1 0 rfl
  subst e1
  clear hK1
  refine W.size (fun hsz => ?_)
  have e1 := cNext hP hD (by omega)
  subst e1
  clear hD hsz
  rw [cPush] at hP
  refine va_putF (v := .ref (b + 1)) (ty := .array .byte) (C := R_CT) (T := F_CT) (N := 6) (a := b + 0) (ci := 5) (fs := [.null, .int 0, .null, .null, .null, .int 0]) hx hb hts i_CT t_CT t_CT_ok n_CT hown hK hP cD hS 0 (xW_at (by omega) (by simp [va_up, hf])) rfl 0 (by decide) (hts _ wd_182) (fun _ h9 => h9) rfl hin rfl (by decide +kernel) rfl rfl (Nat.le_of_ble_eq_true rfl) d_CT_init_10 (fun H locs hP _ hS => ?_)
  rw [xW_up (lay := cB b) (i := 0)] at hP
  refine lv_aload_n hx hb d_CT_init_13 rfl (lv_at hl 0 rfl) ?_
  refine lv_iconst (v := (0 : Int32)) hx hb d_CT_init_14 (by decide) ?_
  refine va_put (v := .int 0) (ty := .int) (C := R_CT) (T := F_CT) (N := 6) (a := b + 0) (ci := 5) (fs := [.ref (b + 1), .int 0, .null, .null, .null, .int 0]) hx hb hts i_CT t_CT t_CT_ok n_CT hown hK hP cD hS 0 (xW_at (by omega) (by simp [va_up, hf])) rfl 1 (by decide) (hts _ wd_183) (fun _ h9 => h9) rfl (by decide +kernel) rfl rfl (Nat.le_of_ble_eq_true rfl) d_CT_init_15 (fun H locs hP _ hS => ?_)
  rw [xW_up (lay := cB b) (i := 0)] at hP
  have hP : va_P D xcl (xW 2 (cB b) (fun i => if i = 0 then .inr (5, [.ref (b + 1), .int 0, .null, .null, .null, .int 0]) else cC (cB b) cA i)) H := cTo (n := 2) hP (fun i hi => by
    rcases (show i = 0 ∨ i = 1 by omega) with rfl | rfl
    · rw [va_up_self, if_pos rfl]; rfl
    · rw [va_up_ne _ _ (by omega), va_up_ne _ _ (by omega), va_up_self, if_neg (by omega), cC, xc_1, (show z0 1 = fun _ => 0 by funext q; unfold z0; rw [if_neg (by omega), if_neg (by omega), if_neg (by omega)])])
  refine lv_aload_n hx hb d_CT_init_18 rfl (lv_at hl 0 rfl) ?_
  refine va_new (ci := 4) (fs := [.null, .int 0, .int 0, .int 0, .int 0, .int 0, .long 0, .int 0, .int 0]) (C := R_WO) (T := F_WO) (N := 9) hx hb hts i_WO t_WO t_WO_ok hown (hts _ wd_26) (hts _ wd_27) (hts _ wd_2) hK hP cD hS hA rfl (fun j hj => by rcases (show j = 0 ∨ j = 1 ∨ j = 2 ∨ j = 3 ∨ j = 4 ∨ j = 5 ∨ j = 6 ∨ j = 7 ∨ j = 8 by omega) with rfl | rfl | rfl | rfl | rfl | rfl | rfl | rfl | rfl <;> rfl) (by decide) (by decide) d_CT_init_19 (fun q H hP hD hS => ?_)
  refine W.size (fun hsz => ?_)
  have e1 := cNext hP hD (by omega)
  subst e1
  clear hD hsz
  rw [cPush] at hP
  refine lv_dup hx hb d_CT_init_22 rfl ?_
  refine lv_aload_n hx hb d_CT_init_23 rfl (lv_at hl 0 rfl) ?_
  refine va_get (v := .ref (b + 1)) (C := R_CT) (T := F_CT) (N := 6) (ci := 5) (fs := [.ref (b + 1), .int 0, .null, .null, .null, .int 0]) hx hb hts i_CT hown hK hP 0 (xW_at (by omega) (by rw [va_up_ne _ _ (by omega), if_pos rfl])) rfl 0 (by decide) (hts _ wd_182) (fun _ h9 => h9) rfl d_CT_init_24 ?_
  refine W.size (fun hsz => ?_)
  have hz9 : _ = b + (3) := cSize hP (by omega) (by omega)
  clear hsz
  refine va_callv (va_runI (As := [.ref (b + 1)]) (rest := [.ref (b + 2), .ref (b + 0)]) ⟨hx, hb, hml, hown, hts⟩ (c_WO_init l D cA t1 t2 b s0 (va_up (fun i => if i = 0 then .inr (5, [.ref (b + 1), .int 0, .null, .null, .null, .int 0]) else cC (cB b) cA i) 2 (.inr (4, [.null, .int 0, .int 0, .int 0, .int 0, .int 0, .long 0, .int 0, .int 0]))) (va_up_self _ _ _)) (cwI 1 hts (xT_I wd_30) rfl rfl rfl (hts _ wd_2) (hts _ wd_28) (hts _ wd_29) rfl (by decide +kernel) ⟨Nat.le_of_ble_eq_true rfl, Nat.le_of_ble_eq_true rfl⟩) (cpI hz9 hK E hP hS) rfl rfl hl.1 rfl (lv_room (Nat.le_of_ble_eq_true rfl)) d_CT_init_27 ⟨by decide, by decide⟩) hS (fun _ _ h => h) (fun _ h => h) (fun u t H1 locs ht hvm hw hB hz1 hk1 hS => ?_)
  obtain ⟨hz3, hP⟩ := hB
  rw [ht] at hz3 hP
  clear ht hvm hw hz1 hk1
  generalize H1 = H at hP hS hz3 ⊢
  refine va_putF (v := .ref (b + 2)) (ty := .object "ConfigTexts$Words") (C := R_CT) (T := F_CT) (N := 6) (a := b + 0) (ci := 5) (fs := [.ref (b + 1), .int 0, .null, .null, .null, .int 0]) hx hb hts i_CT t_CT t_CT_ok n_CT hown hK hP cD hS 0 (xW_at (by omega) (by rw [if_neg (by omega), va_up_ne _ _ (by omega), if_pos rfl])) rfl 2 (by decide) (hts _ wd_184) (fun _ h9 => h9) rfl hin rfl (by decide +kernel) rfl rfl (Nat.le_of_ble_eq_true rfl) d_CT_init_30 (fun H locs hP _ hS => ?_)
  rw [xW_up (lay := cB b) (i := 0)] at hP
  have hP : va_P D xcl (xW 3 (cB b) (fun i => if i = 0 then .inr (5, [.ref (b + 1), .int 0, .ref (b + 2), .null, .null, .int 0]) else cC (cB b) cA i)) H := cTo (n := 3) hP (fun i hi => by
    by_cases h1 : i = 0
    · subst h1; rw [va_up_self, if_pos rfl]; rfl
    · rw [va_up_ne _ _ h1, if_neg h1]
      by_cases h2 : 2 ≤ i
      · rw [if_pos h2]
      · rw [if_neg h2, va_up_ne _ _ (by omega), if_neg h1])
  refine lv_aload_n hx hb d_CT_init_33 rfl (lv_at hl 0 rfl) ?_
  refine va_new (ci := 0) (fs := [.null, .int 0, .null, .null, .int 0, .int 0, .int 0]) (C := R_CF) (T := F_CF) (N := 7) hx hb hts i_CF t_CF t_CF_ok hown (hts _ wd_64) (hts _ wd_65) (hts _ wd_3) hK hP cD hS hA rfl (fun j hj => by rcases (show j = 0 ∨ j = 1 ∨ j = 2 ∨ j = 3 ∨ j = 4 ∨ j = 5 ∨ j = 6 by omega) with rfl | rfl | rfl | rfl | rfl | rfl | rfl <;> rfl) (by decide) (by decide) d_CT_init_34 (fun q H hP hD hS => ?_)
  refine W.size (fun hsz => ?_)
  have e1 := cNext hP hD (by omega)
  subst e1
  clear hD hsz
  rw [cPush] at hP
  refine lv_dup hx hb d_CT_init_37 rfl ?_
  refine W.size (fun hsz => ?_)
  have hz9 : _ = b + (4) := cSize hP (by omega) (by omega)
  clear hsz
  refine va_callv (va_runI (As := []) (rest := [.ref (b + 3), .ref (b + 0)]) ⟨hx, hb, hml, hown, hts⟩ (c_CF_init l D cA t1 t2 b s0 (va_up (fun i => if i = 0 then .inr (5, [.ref (b + 1), .int 0, .ref (b + 2), .null, .null, .int 0]) else cC (cB b) cA i) 3 (.inr (0, [.null, .int 0, .null, .null, .int 0, .int 0, .int 0]))) (va_up_self _ _ _)) (cwI 0 hts (xT_I wd_68) rfl rfl rfl (hts _ wd_3) (hts _ wd_66) (hts _ wd_67) rfl (by decide +kernel) ⟨Nat.le_of_ble_eq_true rfl, Nat.le_of_ble_eq_true rfl⟩) (cpI hz9 hK E hP hS) rfl rfl hl.1 rfl (lv_room (Nat.le_of_ble_eq_true rfl)) d_CT_init_38 ⟨by decide, by decide⟩) hS (fun _ _ h => h) (fun _ h => h) (fun u t H1 locs ht hvm hw hB hz1 hk1 hS => ?_)
  obtain ⟨hz3, hP⟩ := hB
  rw [ht] at hz3 hP
  clear ht hvm hw hz1 hk1
  generalize H1 = H at hP hS hz3 ⊢
  refine va_putF (v := .ref (b + 3)) (ty := .object "ConfigTexts$Configuration") (C := R_CT) (T := F_CT) (N := 6) (a := b + 0) (ci := 5) (fs := [.ref (b + 1), .int 0, .ref (b + 2), .null, .null, .int 0]) hx hb hts i_CT t_CT t_CT_ok n_CT hown hK hP cD hS 0 (xW_at (by omega) (by rw [if_neg (by omega), va_up_ne _ _ (by omega), if_pos rfl])) rfl 3 (by decide) (hts _ wd_185) (fun _ h9 => h9) rfl hin rfl (by decide +kernel) rfl rfl (Nat.le_of_ble_eq_true rfl) d_CT_init_41 (fun H locs hP _ hS => ?_)
  rw [xW_up (lay := cB b) (i := 0)] at hP
  have hP : va_P D xcl (xW 179 (cB b) (fun i => if i = 0 then .inr (5, [.ref (b + 1), .int 0, .ref (b + 2), .ref (b + 3), .null, .int 0]) else cC (cB b) cA i)) H := cTo (n := 179) hP (fun i hi => by
    by_cases h1 : i = 0
    · subst h1; rw [va_up_self, if_pos rfl]; rfl
    · rw [va_up_ne _ _ h1, if_neg h1]
      by_cases h2 : 3 ≤ i
      · rw [if_pos h2]
      · rw [if_neg h2, va_up_ne _ _ (by omega), if_neg h1])
  refine lv_aload_n hx hb d_CT_init_44 rfl (lv_at hl 0 rfl) ?_
  refine va_new (ci := 2) (fs := [.null, .null, .int 0, .int 0]) (C := R_RD) (T := F_RD) (N := 4) hx hb hts i_RD t_RD t_RD_ok hown (hts _ wd_163) (hts _ wd_164) (hts _ wd_6) hK hP cD hS hA rfl (fun j hj => by rcases (show j = 0 ∨ j = 1 ∨ j = 2 ∨ j = 3 by omega) with rfl | rfl | rfl | rfl <;> rfl) (by decide) (by decide) d_CT_init_45 (fun q H hP hD hS => ?_)
  refine W.size (fun hsz => ?_)
  have e1 := cNext hP hD (by omega)
  subst e1
  clear hD hsz
  rw [cPush] at hP
  refine lv_dup hx hb d_CT_init_48 rfl ?_
  refine lv_aload_n hx hb d_CT_init_49 rfl (lv_at hl 0 rfl) ?_
  refine va_get (v := .ref (b + 2)) (C := R_CT) (T := F_CT) (N := 6) (ci := 5) (fs := [.ref (b + 1), .int 0, .ref (b + 2), .ref (b + 3), .null, .int 0]) hx hb hts i_CT hown hK hP 0 (xW_at (by omega) (by rw [va_up_ne _ _ (by omega), if_pos rfl])) rfl 2 (by decide) (hts _ wd_184) (fun _ h9 => h9) rfl d_CT_init_50 ?_
  refine lv_aload_n hx hb d_CT_init_53 rfl (lv_at hl 0 rfl) ?_
  refine va_get (v := .ref (b + 3)) (C := R_CT) (T := F_CT) (N := 6) (ci := 5) (fs := [.ref (b + 1), .int 0, .ref (b + 2), .ref (b + 3), .null, .int 0]) hx hb hts i_CT hown hK hP 0 (xW_at (by omega) (by rw [va_up_ne _ _ (by omega), if_pos rfl])) rfl 3 (by decide) (hts _ wd_185) (fun _ h9 => h9) rfl d_CT_init_54 ?_
  refine W.size (fun hsz => ?_)
  have hz9 : _ = b + (180) := cSize hP (by omega) (by omega)
  clear hsz
  refine va_callv (va_runI (As := [.ref (b + 2), .ref (b + 3)]) (rest := [.ref (b + 179), .ref (b + 0)]) ⟨hx, hb, hml, hown, hts⟩ (c_RD_init l D cA t1 t2 b s0 (va_up (fun i => if i = 0 then .inr (5, [.ref (b + 1), .int 0, .ref (b + 2), .ref (b + 3), .null, .int 0]) else cC (cB b) cA i) 179 (.inr (2, [.null, .null, .int 0, .int 0]))) (va_up_self _ _ _)) (cwI 2 hts (xT_I wd_167) rfl rfl rfl (hts _ wd_6) (hts _ wd_165) (hts _ wd_166) rfl (by decide +kernel) ⟨Nat.le_of_ble_eq_true rfl, Nat.le_of_ble_eq_true rfl⟩) (cpI hz9 hK E hP hS) rfl rfl hl.1 rfl (lv_room (Nat.le_of_ble_eq_true rfl)) d_CT_init_57 ⟨by decide, by decide⟩) hS (fun _ _ h => h) (fun _ h => h) (fun u t H1 locs ht hvm hw hB hz1 hk1 hS => ?_)
  obtain ⟨hz3, hP⟩ := hB
  rw [ht] at hz3 hP
  clear ht hvm hw hz1 hk1
  generalize H1 = H at hP hS hz3 ⊢
  refine va_putF (v := .ref (b + 179)) (ty := .object "ConfigTexts$Reader") (C := R_CT) (T := F_CT) (N := 6) (a := b + 0) (ci := 5) (fs := [.ref (b + 1), .int 0, .ref (b + 2), .ref (b + 3), .null, .int 0]) hx hb hts i_CT t_CT t_CT_ok n_CT hown hK hP cD hS 0 (xW_at (by omega) (by rw [if_neg (by omega), va_up_ne _ _ (by omega), if_pos rfl])) rfl 4 (by decide) (hts _ wd_186) (fun _ h9 => h9) rfl hin rfl (by decide +kernel) rfl rfl (Nat.le_of_ble_eq_true rfl) d_CT_init_60 (fun H locs hP _ hS => ?_)
  rw [xW_up (lay := cB b) (i := 0)] at hP
  have hP : va_P D xcl (xW 180 (cB b) (fun i => if i = 0 then .inr (5, [.ref (b + 1), .int 0, .ref (b + 2), .ref (b + 3), .ref (b + 179), .int 0]) else cC (cB b) cA i)) H := cTo (n := 180) hP (fun i hi => by
    by_cases h1 : i = 0
    · subst h1; rw [va_up_self, if_pos rfl]; rfl
    · rw [va_up_ne _ _ h1, if_neg h1]
      by_cases h2 : 179 ≤ i
      · rw [if_pos h2]
      · rw [if_neg h2, va_up_ne _ _ (by omega), if_neg h1])
  refine lv_aload_n hx hb d_CT_init_63 rfl (lv_at hl 0 rfl) ?_
  refine lv_iconst (v := (0 : Int32)) hx hb d_CT_init_64 (by decide) ?_
  refine va_put (v := .int 0) (ty := .boolean) (C := R_CT) (T := F_CT) (N := 6) (a := b + 0) (ci := 5) (fs := [.ref (b + 1), .int 0, .ref (b + 2), .ref (b + 3), .ref (b + 179), .int 0]) hx hb hts i_CT t_CT t_CT_ok n_CT hown hK hP cD hS 0 (xW_at (by omega) (by rw [if_pos rfl])) rfl 5 (by decide) (hts _ wd_187) (fun _ h9 => h9) rfl (by decide +kernel) (by decide) (by decide) (Nat.le_of_ble_eq_true rfl) d_CT_init_65 (fun H locs hP _ hS => ?_)
  rw [xW_up (lay := cB b) (i := 0)] at hP
  have hP : va_P D xcl (xW 180 (cB b) (fun i => cC (cB b) cA i)) H := cTo (n := 180) hP (fun i hi => by
    by_cases h1 : i = 0
    · subst h1; rw [va_up_self, cC, xc_0, (by decide +kernel : z0 0 1 = 0), (by decide +kernel : z0 0 5 = 0)]; rfl
    · rw [va_up_ne _ _ h1, if_neg h1])
  refine W.widen (k := 179) (n := 9800) (by decide) (by decide) ?_
  refine W.size (fun hsz => ?_)
  have hz2 := cSize hP (by omega) (by omega)
  exact W.vret hx hb hr (fun t ht hW => ⟨⟨(), rfl, trivial, by rw [ht]; exact hz2, by rw [ht]; exact hP⟩, hS.F ht⟩) hS.2.2 d_CT_init_68
