/-! errors { KIND : ACTION ; .. } -/
theorem xT2_as {α β γ : Type} (o : Option ((α × XS) ⊕ XS)) (k : α → XS → Option ((β × XS) ⊕ XS)) (K : β → XS → Option ((γ × XS) ⊕ XS)) : (o.bind (xT2 k)).bind (xT2 K) = o.bind (xT2 fun a S => (k a S).bind (xT2 K)) := by
  rcases o with _ | ⟨a, S⟩ | S <;> rfl
theorem ite_b {α β : Type} {c : Prop} [Decidable c] (A B : Option α) (F : α → Option β) : (if c then A else B).bind F = if c then A.bind F else B.bind F := by split <;> rfl
theorem none_b {α β : Type} (F : α → Option β) : (Option.none : Option α).bind F = none := rfl
theorem inl_b {α β : Type} (a : α) (S : XS) (K : α → XS → Option ((β × XS) ⊕ XS)) : (some (.inl (a, S)) : Option ((α × XS) ⊕ XS)).bind (xT2 K) = K a S := rfl
theorem FS.cpi {S S' : XS} {i j : Nat} {x : Int32} (h : FS S S') (hi : ¬ i = 2) : FS (xpi S i j x) (xpi S' i j x) := by
  refine ⟨fun a b q => ?_, fun a b q => h.2.1 a b q, ?_, ?_, ?_⟩
  · rw [gii, gii, h.1 a b q]
  · rw [gii, gii, if_neg (by omega), if_neg (by omega)]; exact h.2.2.1
  · rw [gii, gii, if_neg (by omega), if_neg (by omega)]; exact h.2.2.2.1
  · rw [gii, gii, if_neg (by omega), if_neg (by omega)]; exact h.2.2.2.2
theorem kix_or (v : Int64) : ∀ (l : List Int64) (i : Nat), kix l v i = -1 ∨ ∃ k, i ≤ k ∧ k < i + l.length ∧ kix l v i = nI k := by
  intro l
  induction l with
  | nil => intro i; exact Or.inl rfl
  | cons c l ih =>
    intro i
    rw [kix]
    by_cases h : c = v
    · rw [if_pos h]
      exact Or.inr ⟨i, Nat.le_refl _, by rw [List.length_cons]; omega, rfl⟩
    · rw [if_neg h]
      rcases ih (i + 1) with e | ⟨k, e1, e2, e3⟩
      · exact Or.inl e
      · exact Or.inr ⟨k, by omega, by rw [List.length_cons]; omega, e3⟩
theorem act_kw : ∀ w, w < 23 → kix mactions (kwc w) 0 = -1 := by decide +kernel
theorem act_nokw {v : Int64} (h : ¬ kix mwords v 0 = -1) : kix mactions v 0 = -1 := by
  rcases kix_or v mwords 0 with e | ⟨k, -, e2, e3⟩
  · exact absurd e h
  · have hk : k < 23 := by
      have : mwords.length = 23 := rfl
      omega
    rw [(kw_iff hk).mp e3]
    exact act_kw k hk
section Er
variable {T : Nat → Int32} {E t0 t κ : Nat} {w : Int64} {p n ex : Nat} {c so ix : Nat → Nat} {S M S' M' : XS}
theorem kind_2 (hM : KM T E M) (f : Bool) (hf : if f = true then (xgi M 0 8 = 1 ∨ xgi M 0 8 = 2) else ¬ (xgi M 0 8 = 1 ∨ xgi M 0 8 = 2)) : ∀ (d i m : Nat), 4 - i = d → i ≤ 4 → d < m → f_MO_kindHere_2 m M (nI i) = some (if f = true then kix (mkinds.drop i) (xgl M 0 10) i else -1) := by
  intro d
  induction d with
  | zero =>
    intro i m h1 h2 h3
    obtain ⟨m, rfl⟩ : ∃ k, m = k + 1 := ⟨m - 1, by omega⟩
    rw [show i = 4 by omega]
    cases f <;> rfl
  | succ d ih =>
    intro i m h1 h2 h3
    obtain ⟨m, rfl⟩ : ∃ k, m = k + 1 := ⟨m - 1, by omega⟩
    have hi : i < mkinds.length := by show i < 4; omega
    have e9 : mkinds.getD i 0 = mkinds[i] := by rw [List.getD_eq_getElem?_getD, List.getElem?_eq_getElem hi, Option.getD_some]
    unfold f_MO_kindHere_2
    rw [if_neg (by rw [ge_lit (x := 4) (n := 4) (by omega) (by omega) rfl]; omega), if_pos (nI_in (by omega) (by omega)), nI_clamp (by omega), nI_1, ih (i + 1) m (by omega) (by omega) (by omega), hM.2.2.2.1, e9]
    simp only [cmp0]
    cases f with
    | true =>
      simp only [if_true] at hf ⊢
      have hi' : mkinds.drop i = mkinds[i] :: mkinds.drop (i + 1) := List.drop_eq_getElem_cons hi
      rw [hi', kix]
      rcases hf with hf | hf
      · rw [if_pos hf]
        split <;> rfl
      · rw [hf, if_neg (by decide), if_pos rfl]
        split <;> rfl
    | false =>
      simp only [Bool.false_eq_true, if_false] at hf ⊢
      rw [if_neg (fun e => hf (Or.inl e)), if_neg (fun e => hf (Or.inr e))]
theorem action_2 (hM : KM T E M) (f : Bool) (hf : if f = true then xgi M 0 8 = 1 else ¬ xgi M 0 8 = 1) : ∀ (d i m : Nat), 7 - i = d → i ≤ 7 → d < m → f_MO_actionHere_2 m M (nI i) = some (if f = true then kix (mactions.drop i) (xgl M 0 10) i else -1) := by
  intro d
  induction d with
  | zero =>
    intro i m h1 h2 h3
    obtain ⟨m, rfl⟩ : ∃ k, m = k + 1 := ⟨m - 1, by omega⟩
    rw [show i = 7 by omega]
    cases f <;> rfl
  | succ d ih =>
    intro i m h1 h2 h3
    obtain ⟨m, rfl⟩ : ∃ k, m = k + 1 := ⟨m - 1, by omega⟩
    have hi : i < mactions.length := by show i < 7; omega
    have e9 : mactions.getD i 0 = mactions[i] := by rw [List.getD_eq_getElem?_getD, List.getElem?_eq_getElem hi, Option.getD_some]
    unfold f_MO_actionHere_2
    rw [if_neg (by rw [ge_lit (x := 7) (n := 7) (by omega) (by omega) rfl]; omega), if_pos (nI_in (by omega) (by omega)), nI_clamp (by omega), nI_1, ih (i + 1) m (by omega) (by omega) (by omega), hM.2.2.2.2, e9]
    simp only [cmp0]
    cases f with
    | true =>
      simp only [if_true] at hf ⊢
      have hi' : mactions.drop i = mactions[i] :: mactions.drop (i + 1) := List.drop_eq_getElem_cons hi
      rw [hi', kix, if_pos hf]
      split <;> rfl
    | false =>
      simp only [Bool.false_eq_true, if_false] at hf ⊢
      rw [if_neg hf]
theorem al_kind (h : AL T E t κ w S M) : f_MO_kindHere M = some (if κ = 1 then kix mkinds w 0 else -1) := by
  have hk := tkn_k (v := w) (al_k h)
  by_cases h1 : κ = 1
  · have := kind_2 h.2.2.2.1 true (by
      rw [if_pos rfl, al_tk h, hk.1, hk.2.1]
      by_cases e : kix mwords w 0 = -1
      · exact Or.inl ⟨h1, e⟩
      · exact Or.inr ⟨h1, e⟩) 4 0 4096 rfl (by omega) (by omega)
    rw [if_pos rfl, al_v h (by omega)] at this
    rw [if_pos h1]
    exact this
  · have := kind_2 h.2.2.2.1 false (by
      rw [if_neg (by decide), al_tk h, hk.1, hk.2.1]
      rintro (e | e)
      · exact h1 e.1
      · exact h1 e.1) 4 0 4096 rfl (by omega) (by omega)
    rw [if_neg h1]
    exact this
theorem al_action (h : AL T E t κ w S M) : f_MO_actionHere M = some (if κ = 1 then kix mactions w 0 else -1) := by
  have hk := tkn_k (v := w) (al_k h)
  by_cases h1 : κ = 1 ∧ kix mwords w 0 = -1
  · have := action_2 h.2.2.2.1 true (by
      rw [if_pos rfl, al_tk h, hk.1]
      exact h1) 7 0 4096 rfl (by omega) (by omega)
    rw [if_pos rfl, al_v h (by omega)] at this
    rw [if_pos h1.1]
    exact this
  · have := action_2 h.2.2.2.1 false (by
      rw [if_neg (by decide), al_tk h, hk.1]
      exact h1) 7 0 4096 rfl (by omega) (by omega)
    rw [if_neg (by decide)] at this
    refine this.trans ?_
    by_cases h2 : κ = 1
    · rw [if_pos h2, act_nokw (fun e => h1 ⟨h2, e⟩)]
    · rw [if_neg h2]
theorem d_action (h : XX T E S M) : OK (f_MO_actionHere M) (fun q => xgi M 0 8 = 5 → q = -1) := by
  by_cases h1 : xgi M 0 8 = 1
  · exact ⟨_, action_2 h.2.1 true (by rw [if_pos rfl]; exact h1) 7 0 4096 rfl (by omega) (by omega), fun e => by rw [h1] at e; exact absurd e (by decide)⟩
  · exact ⟨_, action_2 h.2.1 false (by rw [if_neg (by decide)]; exact h1) 7 0 4096 rfl (by omega) (by omega), fun e => if_neg (by decide)⟩
theorem d_kind (h : XX T E S M) (h5 : xgi M 0 8 = 5) : f_MO_kindHere M = some (-1) := by
  have := kind_2 h.2.1 false (by
    rw [if_neg (by decide), h5]
    rintro (e | e)
    · exact absurd e (by decide)
    · exact absurd e (by decide)) 4 0 4096 rfl (by omega) (by omega)
  exact this
/-! writes of a partition's errors -/
theorem IP.set (h : IP p n c so ix ex S M) {i j i' j' : Nat} {a a' : Int32} (hi : (i = 6 + 21 * p ∧ i' = 9 ∧ j < 4 ∧ j' = 4 * p + j ∧ a = a') ∨ (i = 179 ∧ ((j = 3 ∧ i' = 8) ∨ (j = 2 ∧ i' = 11)) ∧ j' = p ∧ a = a')) : IP p n c so ix ex (xpi S i j a) (xpi M i' j' a') := by
  obtain ⟨h1, h2, h3, h4, h5, h6, h7, h8, h9⟩ := h
  refine ⟨h1, h2.cg (fun k hk => SA.pi (by omega)) (fun k hk => MA.pi (by omega) (by omega) (by omega) (by omega) (by omega)), ⟨h3.1, ?_, fun b hb => ?_⟩, ?_, ?_, ?_, ?_, ?_, ?_⟩
  · rw [gii, if_neg (by omega), gii, if_neg (by omega)]; exact h3.2.1
  · rw [gii, gii]
    by_cases e : i = 6 + 21 * p ∧ b = j
    · rw [if_pos (by omega), if_pos (by omega)]
      rcases hi with q | q
      · exact q.2.2.2.2
      · omega
    · rw [if_neg (by omega), if_neg (by omega)]
      exact h3.2.2 b hb
  · obtain ⟨m1, m2, m3, m4, m5, m6, m7⟩ := h4
    refine ⟨fun s' hs' => ?_, m2, ?_, fun q hq => ?_, fun q hq hq2 v hv => ?_, m6, m7⟩
    · rw [gii, if_neg (by omega), gii, if_neg (by omega)]; exact m1 s' hs'
    · rw [gii, if_neg (by omega)]; exact m3
    · have := m4 q hq
      rw [gii, if_neg (by omega), gii, if_neg (by omega)]; exact this
    · rw [gii, if_neg (by omega), gii, if_neg (by omega)]; exact m5 q hq hq2 v hv
  · unfold CR
    rw [gii, if_neg (by omega), gii, if_neg (by omega), gii, if_neg (by omega), gii, if_neg (by omega), gii, if_neg (by omega)]
    refine ⟨h5.1, ?_⟩
    rw [gii, if_neg (by omega), gii, if_neg (by omega), gii, if_neg (by omega), gii, if_neg (by omega), gii, if_neg (by omega)]
    exact h5.2
  · rw [gii, if_neg (by omega)]; exact h6
  · rw [gii, if_neg (by omega)]; exact h7
  · rw [gii, gii]
    by_cases e : i = 179 ∧ j = 2
    · rw [if_pos (by omega), if_pos (by omega)]
      rcases hi with q | q
      · omega
      · exact q.2.2.2
    · rw [if_neg (by omega), if_neg (by omega)]; exact h8
  · rw [gii, gii]
    by_cases e : i = 179 ∧ j = 3
    · rw [if_pos (by omega), if_pos (by omega)]
      rcases hi with q | q
      · omega
      · exact q.2.2.2
    · rw [if_neg (by omega), if_neg (by omega)]; exact h9
theorem IP.told (h : IP p n c so ix ex S M) {j : Nat} {a : Int32} : IP p n c so ix ex S (xpi M 12 j a) := by
  obtain ⟨h1, h2, h3, h4, h5, h6, h7, h8, h9⟩ := h
  have hMA : ∀ k, MA k M (xpi M 12 j a) := fun k => MA.pi (by omega) (by omega) (by omega) (by omega) (by omega)
  exact ⟨h1, h2.cg (fun k _ => SA.rf) (fun k _ => hMA k), h3.cg SA.rf (hMA p), h4.cg SA.rf (hMA p), h5, h6, h7, h8, h9⟩
theorem IM.set (h : IM p S M) {i j i' j' : Nat} {a a' : Int32} (hi : ¬ i = 5 + 21 * p) (hi' : ¬ i' = 6) : IM p (xpi S i j a) (xpi M i' j' a') := by
  unfold IM
  rw [gii, if_neg (by omega), gii, if_neg (by omega)]
  exact h
theorem IM.wM' (h : IM p S M) {i' j' : Nat} {a' : Int32} (hi' : ¬ i' = 6) : IM p S (xpi M i' j' a') := by
  unfold IM
  rw [gii, if_neg (by omega)]
  exact h
end Er
