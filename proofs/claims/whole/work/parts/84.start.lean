theorem wd_18 : (Jvm.Cond.classLink "ConfigTextsLaw" (8 : Nat) "ConfigTexts") ∈ xT := xT_of 18 (by decide +kernel) (by decide +kernel)
theorem wd_19 : (Jvm.Cond.instantiable "ConfigTexts" (6 : Nat)) ∈ xT := xT_of 19 (by decide +kernel) (by decide +kernel)
theorem wd_20 : (Jvm.Cond.methodLink "ConfigTextsLaw" (15 : Nat) ({ cls := "ConfigTexts", name := "<init>", desc := "()V" } : Jvm.MethodName)) ∈ xT := xT_of 20 (by decide +kernel) (by decide +kernel)
theorem wd_21 : (Jvm.Cond.instanceMethod ({ cls := "ConfigTexts", name := "<init>", desc := "()V" } : Jvm.MethodName)) ∈ xT := xT_of 21 (by decide +kernel) (by decide +kernel)
theorem wd_22 : (Jvm.Cond.code ({ cls := "ConfigTexts", name := "<init>", desc := "()V" } : Jvm.MethodName) prog_1_method_1_code (1 : Nat) (Option.none : Option Jvm.ClassFile.FieldType)) ∈ xT := xT_of 22 (by decide +kernel) (by decide +kernel)
theorem wd_661 : (Jvm.Cond.classLink "ConfigTextsLaw" (16 : Nat) "ConfigTextsModel") ∈ xT := xT_of 661 (by decide +kernel) (by decide +kernel)
theorem wd_662 : (Jvm.Cond.instantiable "ConfigTextsModel" (41 : Nat)) ∈ xT := xT_of 662 (by decide +kernel) (by decide +kernel)
theorem wd_663 : (Jvm.Cond.methodLink "ConfigTextsLaw" (18 : Nat) ({ cls := "ConfigTextsModel", name := "<init>", desc := "()V" } : Jvm.MethodName)) ∈ xT := xT_of 663 (by decide +kernel) (by decide +kernel)
theorem wd_664 : (Jvm.Cond.instanceMethod ({ cls := "ConfigTextsModel", name := "<init>", desc := "()V" } : Jvm.MethodName)) ∈ xT := xT_of 664 (by decide +kernel) (by decide +kernel)
theorem wd_665 : (Jvm.Cond.code ({ cls := "ConfigTextsModel", name := "<init>", desc := "()V" } : Jvm.MethodName) prog_8_method_1_code (1 : Nat) (Option.none : Option Jvm.ClassFile.FieldType)) ∈ xT := xT_of 665 (by decide +kernel) (by decide +kernel)
/-- a stretch of cells -/
theorem xW_part {D : va_G} {b k n n' : Nat} {f g : Nat → va_E} {H : Heap} (h : va_P D xcl (xW n (cB b) f) H) (hk : k + n' ≤ n) (he : ∀ i, i < n' → f (k + i) = g i) : va_P D xcl (xW n' (cB (b + k)) g) H := by
  intro j q hq
  obtain ⟨hj, rfl⟩ := xW_get hq
  have h1 := h (k + j) _ (xW_at (by omega) rfl)
  rw [← he j hj, show cB (b + k) j = cB b (k + j) from Nat.add_assoc _ _ _]
  exact h1
theorem xW_both {D : va_G} {b k n : Nat} {f g : Nat → va_E} {H : Heap} (h : va_P D xcl (xW k (cB b) f) H) (h2 : va_P D xcl (xW n (cB (b + k)) g) H) : va_P D xcl (xW (k + n) (cB b) (fun i => if i < k then f i else g (i - k))) H := by
  intro j q hq
  obtain ⟨hj, rfl⟩ := xW_get hq
  by_cases w : j < k
  · have h1 := h j _ (xW_at w rfl)
    simp only [if_pos w]
    exact h1
  · have h1 := h2 (j - k) _ (xW_at (by omega) rfl)
    simp only [if_neg w]
    rw [show cB (b + k) (j - k) = cB b j by show b + k + (j - k) = b + j; omega] at h1
    exact h1
set_option maxHeartbeats 4000000 in
set_option maxRecDepth 100000 in
/-- from the entry to the loop's head -/
theorem law_start {p : Program} {l : Launch} {e : Env} {s : State} {m : MethodId} {below : List Frame} {meth : Method} {c : Code} {D : va_G} {cA cm : Nat → ClassId} {adK adV : Nat → Nat} {t1 t2 b L : Nat} {xs : Nat → Int32} (hL : L ≤ 2560) (hq : l.stackTraces = false) (C0 : lw_At p s m meth c b L xs) (hF : xF D (cB s.heap.size) cA adK adV s) (hKm : va_K D xcl (mtys cm) s) (hC : cF cA t1 t2 s) :
    W p l e room_1 s m #[Value.ref b] below meth c s.heap [] 0 0 (lw_Z below #[Value.ref b] s) (entryFrame m ([Value.ref b] : List Value).toArray 7) := by
  obtain ⟨hx, hb, hr, hml, hown, hts0, hX, hbl, hlocks, hgv⟩ := id C0
  have hts : ∀ w ∈ xT, w.before #[Value.ref b] s = true := fun w hw => hts0 w (List.mem_filter.mp hw).1
  have hK := hF.1
  have hA : ∀ q : Nat, s.heap.size ≤ q → cO s.heap.size q := fun _ h => h
  have hS : va_S (cO s.heap.size) s.heap s.heap [] := va_S.rf
  have E : cE cA t1 t2 s.heap.size s s s.heap := ⟨hC, State.WarmedH.refl s, fun _ _ => rfl, Nat.le_refl _, Nat.le_refl _⟩
  have hl := lv_entry ([.ref b]) (n := 7) (Nat.le_of_ble_eq_true rfl)
  rw [lg_entry_eq]
  generalize (lg_sl ([.ref b]) ++ List.replicate (7 - (lg_sl ([.ref b])).length) Slot.unset).toArray = ls at hl ⊢
  have hP : va_P D xcl (xW 0 (cB s.heap.size) (fun _ => .inr (5, []))) s.heap := fun k q hk => absurd (xW_get hk).1 (Nat.not_lt_zero _)
  refine va_new (ci := 5) (fs := [.null, .int 0, .null, .null, .null, .int 0]) (C := R_CT) (T := F_CT) (N := 6) hx hb hts i_CT t_CT t_CT_ok hown (hts _ wd_18) (hts _ wd_19) (hts _ wd_1) hK hP cD hS hA rfl (fun j hj => by rcases (show j = 0 ∨ j = 1 ∨ j = 2 ∨ j = 3 ∨ j = 4 ∨ j = 5 by omega) with rfl | rfl | rfl | rfl | rfl | rfl <;> rfl) (by decide) (by decide) d_law_0 (fun q H hP hD hS => ?_)
  refine W.size (fun hsz => ?_)
  have e1 := cNext hP hD (by omega)
  subst e1
  clear hD hsz
  rw [cPush] at hP
  refine lv_dup hx hb d_law_3 rfl ?_
  refine W.size (fun hsz => ?_)
  have hz9 : _ = s.heap.size + 1 := cSize hP (by omega) (by omega)
  clear hsz
  refine va_callv (va_runI (As := []) (rest := [.ref (s.heap.size + 0)]) ⟨hx, hb, hml, hown, hts⟩ (c_CT_init l D cA t1 t2 s.heap.size s (va_up (fun _ => .inr (5, [])) 0 (.inr (5, [.null, .int 0, .null, .null, .null, .int 0]))) (va_up_self _ _ _)) (cwI 0 hts (xT_I wd_22) rfl rfl rfl (hts _ wd_1) (hts _ wd_20) (hts _ wd_21) rfl (by decide +kernel) ⟨Nat.le_of_ble_eq_true rfl, Nat.le_of_ble_eq_true rfl⟩) (cpI hz9 hK E hP hS) rfl rfl hl.1 rfl (lv_room (Nat.le_of_ble_eq_true rfl)) d_law_4 ⟨by decide, by decide⟩) hS (fun _ _ h => h) (fun _ h => h) (fun u t H1 locs ht hvm hw hB hz1 hk1 hS => ?_)
  obtain ⟨hz3, hP⟩ := hB
  rw [ht] at hz3 hP
  clear ht hvm hw hz1 hk1
  generalize H1 = H at hP hS hz3 ⊢
  refine lv_astore_n (lv' := [(1, .ref (s.heap.size + 0)), (0, .ref b)]) hx hb d_law_7 rfl hl (by decide) rfl (fun ls hl => ?_)
  refine va_new (ci := 6) (fs := [.int 0, .null, .null, .null, .null, .int 0, .int 0, .int 0, .int 0, .int 0, .long 0, .int 0, .int 0, .int 0, .int 0, .int 0, .null, .null, .null, .null, .null, .null, .null, .null, .null, .null, .null, .null, .null, .int 0, .int 0, .int 0, .int 0, .int 0, .null, .null, .null, .null, .null, .null, .null]) (C := R_MO) (T := F_MO) (N := 41) hx hb hts i_MO t_MO t_MO_ok hown (hts _ wd_661) (hts _ wd_662) (hts _ wd_7) hK hP cD hS hA rfl (fun j hj => by rcases (show j = 0 ∨ j = 1 ∨ j = 2 ∨ j = 3 ∨ j = 4 ∨ j = 5 ∨ j = 6 ∨ j = 7 ∨ j = 8 ∨ j = 9 ∨ j = 10 ∨ j = 11 ∨ j = 12 ∨ j = 13 ∨ j = 14 ∨ j = 15 ∨ j = 16 ∨ j = 17 ∨ j = 18 ∨ j = 19 ∨ j = 20 ∨ j = 21 ∨ j = 22 ∨ j = 23 ∨ j = 24 ∨ j = 25 ∨ j = 26 ∨ j = 27 ∨ j = 28 ∨ j = 29 ∨ j = 30 ∨ j = 31 ∨ j = 32 ∨ j = 33 ∨ j = 34 ∨ j = 35 ∨ j = 36 ∨ j = 37 ∨ j = 38 ∨ j = 39 ∨ j = 40 by omega) with rfl | rfl | rfl | rfl | rfl | rfl | rfl | rfl | rfl | rfl | rfl | rfl | rfl | rfl | rfl | rfl | rfl | rfl | rfl | rfl | rfl | rfl | rfl | rfl | rfl | rfl | rfl | rfl | rfl | rfl | rfl | rfl | rfl | rfl | rfl | rfl | rfl | rfl | rfl | rfl | rfl <;> rfl) (by decide) (by decide) d_law_8 (fun q H hP hD hS => ?_)
  refine W.size (fun hsz => ?_)
  have e1 := cNext hP hD (by omega)
  subst e1
  clear hD
  rw [cPush] at hP
  have hz8 : _ = s.heap.size + 181 := cSize hP (by omega) (by omega)
  clear hsz hz3 hz9
  have hP1 : va_P D xcl (xW 180 (cB s.heap.size) (fun i => cC (cB s.heap.size) cA i)) _ := xW_part (b := s.heap.size) (k := 0) hP (by omega) (fun i hi => by rw [Nat.zero_add, va_up_ne _ _ (by omega)])
  have hP2 : va_P D xcl (xW 1 (cB (s.heap.size + 180)) (fun _ => .inr (6, [.int 0, .null, .null, .null, .null, .int 0, .int 0, .int 0, .int 0, .int 0, .long 0, .int 0, .int 0, .int 0, .int 0, .int 0, .null, .null, .null, .null, .null, .null, .null, .null, .null, .null, .null, .null, .null, .int 0, .int 0, .int 0, .int 0, .int 0, .null, .null, .null, .null, .null, .null, .null]))) _ := xW_part (b := s.heap.size) (k := 180) hP (by omega) (fun i hi => by rw [show i = 0 by omega]; exact va_up_self _ _ _)
  refine lv_dup hx hb d_law_11 rfl ?_
  refine va_callv (va_runI (As := []) (rest := [.ref (s.heap.size + 180 + 0)]) ⟨hx, hb, hml, hown, hts⟩ (c_MO_init l D cm (s.heap.size + 180) (fun _ => .inr (6, [.int 0, .null, .null, .null, .null, .int 0, .int 0, .int 0, .int 0, .int 0, .long 0, .int 0, .int 0, .int 0, .int 0, .int 0, .null, .null, .null, .null, .null, .null, .null, .null, .null, .null, .null, .null, .null, .int 0, .int 0, .int 0, .int 0, .int 0, .null, .null, .null, .null, .null, .null, .null])) rfl) (cwI 0 hts (xT_I wd_665) rfl rfl rfl (hts _ wd_7) (hts _ wd_663) (hts _ wd_664) rfl (by decide +kernel) ⟨Nat.le_of_ble_eq_true rfl, Nat.le_of_ble_eq_true rfl⟩) ⟨fun a U g mk q => ⟨q.1, q.2.1, q.2.2.1, va_K.moved (u := U) (U := U.calling g mk a) (Vm.Alike.refl U.vm) q.2.2.2⟩, fun U hU hW => ⟨rfl, by rw [hU]; exact hz8, by rw [hU]; exact hP2, va_K.moved hW.alike hKm⟩⟩ rfl rfl hl.1 rfl (lv_room (Nat.le_of_ble_eq_true rfl)) d_law_12 ⟨by decide, by decide⟩) hS (fun _ _ h => Nat.le_trans (Nat.le_add_right _ _) h) (fun _ h => Nat.le_trans (Nat.le_add_right _ _) h) (fun u t H1 locs ht hvm hw hB hz1 hk1 hS => ?_)
  obtain ⟨hz3, hPm⟩ := hB
  rw [ht] at hz3 hPm
  have hPx : va_P D xcl (xW 180 (cB s.heap.size) (fun i => cC (cB s.heap.size) cA i)) H1 := hP1.hold (fun k q hq => by
    have w := (hP1 k q hq).lt
    obtain ⟨hk9, rfl⟩ := xW_get hq
    refine hk1 _ w (fun h => ?_)
    have h1 : s.heap.size + 180 ≤ s.heap.size + k := h
    omega)
  clear ht hvm hw hz1 hk1 hP1 hP2 hP hz8
  generalize H1 = H at hPx hPm hS hz3 ⊢
  refine lv_astore_n (lv' := [(2, .ref (s.heap.size + 180 + 0)), (1, .ref (s.heap.size + 0)), (0, .ref b)]) hx hb d_law_15 rfl hl (by decide) rfl (fun ls hl => ?_)
  refine lv_iconst (v := (1 : Int32)) hx hb d_law_16 (by decide) ?_
  have hP := xW_both hPx hPm
  refine va_newa (atype := .long) (N' := 1) (a0 := (1, .inr (.inl (fun _ => 0)))) hx hb (hts _ wd_108) rfl hK hP cD hS hA (fun _ => rfl) (by decide) (by decide +kernel) (by decide) (by decide) (by decide) d_law_17 (fun q c1 H hK1 hP hD hS => ?_)
  have e1 := tys_one hK1 1 rfl
  subst e1
  clear hK1
  refine W.size (fun hsz => ?_)
  have e1 := cNext hP hD (by omega)
  subst e1
  clear hD hsz
  have hO := hP 205 _ (by rw [List.getElem?_append_right (by simp [xW])]; simp [xW]; rfl)
  rw [cPush] at hP
  have hP1 : va_P D xcl (xw (cB s.heap.size) cA S0) _ := xW_part (b := s.heap.size) (k := 0) hP (by omega) (fun i hi => by rw [Nat.zero_add, va_up_ne _ _ (by omega)]; simp only [if_pos hi]; rfl)
  have hP2 : va_P D xcl (mw (cB (s.heap.size + 180)) cm M0) _ := xW_part (b := s.heap.size) (k := 180) hP (by omega) (fun i hi => by rw [va_up_ne _ _ (by omega)]; simp only [if_neg (show ¬ 180 + i < 180 by omega), Nat.add_sub_cancel_left])
  refine lv_astore_n (lv' := [(3, .ref (s.heap.size + 205)), (2, .ref (s.heap.size + 180 + 0)), (1, .ref (s.heap.size + 0)), (0, .ref b)]) hx hb d_law_19 rfl hl (by decide) rfl (fun ls hl => ?_)
  refine lv_iconst (v := (0 : Int32)) hx hb d_law_20 (by decide) ?_
  refine lv_istore (lv' := [(4, .int 0), (3, .ref (s.heap.size + 205)), (2, .ref (s.heap.size + 180 + 0)), (1, .ref (s.heap.size + 0)), (0, .ref b)]) hx hb d_law_21 hl (by decide) rfl (fun ls hl => ?_)
  refine W.widen (k := 300 + 0) (n := 20000 + 6 * 0) (by decide) (by decide) ?_
  exact law_loop hL hq C0 hF hKm (L + 2) 0 S0 M0 (fun _ => 0) _ _ ls (by omega) (by omega) r_start ⟨hP1, hP2, hO⟩ hS (lv_sub hl [4, 3, 2, 1, 0] rfl)
