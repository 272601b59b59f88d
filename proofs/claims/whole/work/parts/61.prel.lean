/-! the reference clears a partition -/
theorem nb0 : vp_nar .boolean 0 = 0 := rfl
theorem nb1 : vp_nar .boolean 1 = 1 := rfl
theorem mo_54 {k : Nat} (hk : k < 8) : ∀ (d a n : Nat) (M : XS), 6 - a = d → a ≤ 6 → d < n → ∃ M', f_MO_clear_54 n M (nI k) (nI a) = some M' ∧ (∀ i j, xgi M' i j = if i = 10 ∧ 6 * k + a ≤ j ∧ j < 6 * k + 6 then 0 else xgi M i j) ∧ (∀ i j, xgl M' i j = xgl M i j) := by
  intro d
  induction d with
  | zero =>
    intro a n M hd ha hn
    obtain ⟨n, rfl⟩ : ∃ k, n = k + 1 := ⟨n - 1, by omega⟩
    refine ⟨M, ?_, fun i j => by rw [if_neg (by omega)], fun _ _ => rfl⟩
    unfold f_MO_clear_54
    rw [if_pos (by rw [ge_lit (x := 6) (n := 6) (by omega) (by omega) rfl]; omega)]
  | succ d ih =>
    intro a n M hd ha hn
    obtain ⟨n, rfl⟩ : ∃ k, n = k + 1 := ⟨n - 1, by omega⟩
    unfold f_MO_clear_54
    rw [if_neg (by rw [ge_lit (x := 6) (n := 6) (by omega) (by omega) rfl]; omega), show (6 : Int32) = nI 6 from rfl, pk_mul, nI_add, if_pos (nI_in (by omega) (by omega)), nI_clamp (by omega), nI_1]
    obtain ⟨M', e1, e2, e3⟩ := ih (a + 1) n (xpi M 10 (6 * k + a) 0) (by omega) (by omega) (by omega)
    refine ⟨M', e1, fun i j => ?_, fun i j => e3 i j⟩
    rw [e2, gii]
    by_cases h1 : i = 10 ∧ 6 * k + a ≤ j ∧ j < 6 * k + 6
    · rw [if_pos h1]
      by_cases h2 : j = 6 * k + a
      · rw [if_neg (by omega), if_pos ⟨h1.1, h2⟩]
      · rw [if_pos (by omega)]
    · rw [if_neg h1, if_neg (by omega), if_neg (by omega)]
theorem mo_30 {k : Nat} (hk : k < 8) : ∀ (d a n : Nat) (M : XS), 4 - a = d → a ≤ 4 → d < n → ∃ M', f_MO_clear_30 n M (nI k) (nI a) = some M' ∧ (∀ i j, xgi M' i j = if i = 10 ∧ 6 * k ≤ j ∧ j < 6 * k + 6 then 0 else if i = 9 ∧ 4 * k + a ≤ j ∧ j < 4 * k + 4 then 0 else xgi M i j) ∧ (∀ i j, xgl M' i j = xgl M i j) := by
  intro d
  induction d with
  | zero =>
    intro a n M hd ha hn
    obtain ⟨n, rfl⟩ : ∃ k, n = k + 1 := ⟨n - 1, by omega⟩
    unfold f_MO_clear_30
    rw [if_pos (by rw [ge_lit (x := 4) (n := 4) (by omega) (by omega) rfl]; omega)]
    obtain ⟨M', e1, e2, e3⟩ := mo_54 hk 6 0 4096 M rfl (by omega) (by omega)
    refine ⟨M', e1, fun i j => ?_, e3⟩
    rw [e2, Nat.add_zero, if_neg (c := i = 9 ∧ _) (by omega)]
  | succ d ih =>
    intro a n M hd ha hn
    obtain ⟨n, rfl⟩ : ∃ k, n = k + 1 := ⟨n - 1, by omega⟩
    unfold f_MO_clear_30
    rw [if_neg (by rw [ge_lit (x := 4) (n := 4) (by omega) (by omega) rfl]; omega), show (4 : Int32) = nI 4 from rfl, pk_mul, nI_add, if_pos (nI_in (by omega) (by omega)), nI_clamp (by omega), nI_1]
    obtain ⟨M', e1, e2, e3⟩ := ih (a + 1) n (xpi M 9 (4 * k + a) 0) (by omega) (by omega) (by omega)
    refine ⟨M', e1, fun i j => ?_, fun i j => e3 i j⟩
    rw [e2, gii]
    by_cases h0 : i = 10 ∧ 6 * k ≤ j ∧ j < 6 * k + 6
    · rw [if_pos h0, if_pos h0]
    · rw [if_neg h0, if_neg h0]
      by_cases h1 : i = 9 ∧ 4 * k + a ≤ j ∧ j < 4 * k + 4
      · rw [if_pos h1]
        by_cases h2 : j = 4 * k + a
        · rw [if_neg (by omega), if_pos ⟨h1.1, h2⟩]
        · rw [if_pos (by omega)]
      · rw [if_neg h1, if_neg (by omega), if_neg (by omega)]
theorem mo_clear {M : XS} {k : Nat} (hk : k < 8) : ∃ M', f_MO_clear M (nI k) = some M' ∧ (∀ i j, xgi M' i j = if i = 10 ∧ 6 * k ≤ j ∧ j < 6 * k + 6 then 0 else if i = 9 ∧ 4 * k ≤ j ∧ j < 4 * k + 4 then 0 else if i = 13 ∧ j = k then 0 else if i = 11 ∧ j = k then 0 else if i = 8 ∧ j = k then -1 else if i = 7 ∧ j = k then -1 else xgi M i j) ∧ (∀ i j, xgl M' i j = xgl M i j) := by
  unfold f_MO_clear
  rw [if_pos (nI_in hk (by omega)), if_pos (nI_in hk (by omega)), if_pos (nI_in hk (by omega)), if_pos (nI_in hk (by omega)), nI_clamp (by omega), nb0]
  obtain ⟨M', e1, e2, e3⟩ := mo_30 hk 4 0 4096 (xpi (xpi (xpi (xpi M 7 k (-1)) 8 k (-1)) 11 k 0) 13 k 0) rfl (by omega) (by omega)
  exact ⟨M', e1, fun i j => by rw [e2, gii, gii, gii, gii]; rfl, fun i j => e3 i j⟩
/-! one partition on both sides: its things -/
def TH (k n : Nat) (c so ix : Nat → Nat) (ex : Nat) (S M : XS) : Prop :=
  (∀ s, s < 6 → c s ≤ ms s ∧ xgi S (8 + 21 * k + 3 * s) 4 = nI (c s) ∧ xgi M 10 (6 * k + s) = nI (c s)) ∧
  n = c 0 + c 1 + c 2 + c 3 + c 4 + c 5 ∧ xgi M 13 k = nI n ∧
  (∀ q, q < n → so q < 6 ∧ ix q < c (so q) ∧ xgi M 14 (40 * k + q) = nI (so q) ∧ xgi M 15 (40 * k + q) = nI (ix q) ∧ xgl S (8 + 21 * k + 3 * so q + 1) (ix q) = xgl M 17 (40 * k + q)) ∧
  (∀ q, q < n → q ≠ ex → ∀ v, v < wd (so q) → xgi S (8 + 21 * k + 3 * so q + 2) (ix q * wd (so q) + v) = xgi M 16 (5 * (40 * k + q) + v)) ∧
  (∀ s i, s < 6 → i < c s → ∃ q, q < n ∧ so q = s ∧ ix q = i) ∧
  (∀ q q', q < n → q' < n → xgl M 17 (40 * k + q) = xgl M 17 (40 * k + q') → q = q')
def PB (k : Nat) (S M : XS) : Prop := xgl S (5 + 21 * k) 0 = xgl M 5 k ∧ xgi S (5 + 21 * k) 2 = xgi M 7 k ∧ (∀ j, j < 4 → xgi S (6 + 21 * k) j = xgi M 9 (4 * k + j))
def SA (k : Nat) (S S' : XS) : Prop := ∀ i, 5 + 21 * k ≤ i → i < 26 + 21 * k → ∀ j, xgi S' i j = xgi S i j ∧ xgl S' i j = xgl S i j
def MA (k : Nat) (M M' : XS) : Prop := (∀ s, s < 6 → xgi M' 10 (6 * k + s) = xgi M 10 (6 * k + s)) ∧ xgi M' 13 k = xgi M 13 k ∧ (∀ q, q < 40 → xgi M' 14 (40 * k + q) = xgi M 14 (40 * k + q) ∧ xgi M' 15 (40 * k + q) = xgi M 15 (40 * k + q) ∧ xgl M' 17 (40 * k + q) = xgl M 17 (40 * k + q)) ∧ (∀ j, 200 * k ≤ j → j < 200 * k + 200 → xgi M' 16 j = xgi M 16 j) ∧ xgl M' 5 k = xgl M 5 k ∧ xgi M' 7 k = xgi M 7 k ∧ xgi M' 6 k = xgi M 6 k ∧ (∀ j, j < 4 → xgi M' 9 (4 * k + j) = xgi M 9 (4 * k + j))
section Th
variable {k n ex : Nat} {c so ix : Nat → Nat} {S M S' M' : XS}
theorem TH.n_le (h : TH k n c so ix ex S M) : n ≤ 32 := by
  have h0 := (h.1 0 (by decide)).1
  have h1 := (h.1 1 (by decide)).1
  have h2 := (h.1 2 (by decide)).1
  have h3 := (h.1 3 (by decide)).1
  have h4 := (h.1 4 (by decide)).1
  have h5 := (h.1 5 (by decide)).1
  have e := h.2.1
  simp only [ms, List.getD_cons_zero, List.getD_cons_succ] at h0 h1 h2 h3 h4 h5
  omega
theorem wd_le : ∀ s, wd s ≤ 5 := by
  intro s
  by_cases h : s < 6
  · exact (ms_le s h).2.2
  · unfold wd
    rw [List.getD_eq_getElem?_getD, List.getElem?_eq_none (by show 6 ≤ s; omega)]
    decide
theorem TH.cg (h : TH k n c so ix ex S M) (hs : SA k S S') (hm : MA k M M') : TH k n c so ix ex S' M' := by
  have hn := h.n_le
  obtain ⟨h1, h2, h3, h4, h5, h6, h7⟩ := h
  obtain ⟨m1, m2, m3, m4, m5, m6, m7, m8⟩ := hm
  refine ⟨fun s hs6 => ?_, h2, by rw [m2]; exact h3, fun q hq => ?_, fun q hq hne v hv => ?_, h6, fun q q' hq hq' e => ?_⟩
  · rw [(hs (8 + 21 * k + 3 * s) (by omega) (by omega) 4).1, m1 s hs6]
    exact h1 s hs6
  · obtain ⟨g1, g2, g3, g4, g5⟩ := h4 q hq
    rw [(m3 q (by omega)).1, (m3 q (by omega)).2.1, (m3 q (by omega)).2.2, (hs (8 + 21 * k + 3 * so q + 1) (by omega) (by omega) (ix q)).2]
    exact ⟨g1, g2, g3, g4, g5⟩
  · have hso := (h4 q hq).1
    have := wd_le (so q)
    rw [(hs (8 + 21 * k + 3 * so q + 2) (by omega) (by omega) _).1, m4 _ (by omega) (by omega)]
    exact h5 q hq hne v hv
  · rw [(m3 q (by omega)).2.2, (m3 q' (by omega)).2.2] at e
    exact h7 q q' hq hq' e
theorem PB.cg (h : PB k S M) (hs : SA k S S') (hm : MA k M M') : PB k S' M' := by
  obtain ⟨m1, m2, m3, m4, m5, m6, m7, m8⟩ := hm
  refine ⟨?_, ?_, fun j hj => ?_⟩
  · rw [(hs (5 + 21 * k) (by omega) (by omega) 0).2, m5]; exact h.1
  · rw [(hs (5 + 21 * k) (by omega) (by omega) 2).1, m6]; exact h.2.1
  · rw [(hs (6 + 21 * k) (by omega) (by omega) j).1, m8 j hj]; exact h.2.2 j hj
theorem SA.fs (h : FS S S') : SA k S S' := fun i h1 _ j => ⟨h.1 i j (by omega), h.2.1 i j (by omega)⟩
theorem SA.rf : SA k S S := fun _ _ _ _ => ⟨rfl, rfl⟩
theorem MA.rf : MA k M M := ⟨fun _ _ => rfl, rfl, fun _ _ => ⟨rfl, rfl, rfl⟩, fun _ _ _ => rfl, rfl, rfl, rfl, fun _ _ => rfl⟩
theorem MA.fm (h : FM M M') : MA k M M' := ⟨fun s _ => h.1 10 _ (by decide), h.1 13 _ (by decide), fun q _ => ⟨h.1 14 _ (by decide), h.1 15 _ (by decide), h.2.2 17 _ (by decide)⟩, fun j _ _ => h.1 16 _ (by decide), h.2.2 5 _ (by decide), h.1 7 _ (by decide), h.1 6 _ (by decide), fun j _ => h.1 9 _ (by decide)⟩
/-- a write of the class outside the partition -/
theorem SA.pi {i j : Nat} {x : Int32} (hi : i < 5 + 21 * k ∨ 26 + 21 * k ≤ i) : SA k S (xpi S i j x) := fun a h1 h2 b => ⟨by rw [gii, if_neg (by omega)], rfl⟩
theorem SA.pl {i j : Nat} {x : Int64} (hi : i < 5 + 21 * k ∨ 26 + 21 * k ≤ i) : SA k S (xpl S i j x) := fun a h1 h2 b => ⟨rfl, by rw [gll, if_neg (by omega)]⟩
theorem SA.tr {S1 : XS} (h : SA k S S1) (h2 : SA k S1 S') : SA k S S' := fun i a b j => ⟨((h2 i a b j).1).trans (h i a b j).1, ((h2 i a b j).2).trans (h i a b j).2⟩
theorem MA.tr {M1 : XS} (h : MA k M M1) (h2 : MA k M1 M') : MA k M M' := by
  obtain ⟨m1, m2, m3, m4, m5, m6, m7, m8⟩ := h
  obtain ⟨n1, n2, n3, n4, n5, n6, n7, n8⟩ := h2
  exact ⟨fun s hs => (n1 s hs).trans (m1 s hs), n2.trans m2, fun q hq => ⟨(n3 q hq).1.trans (m3 q hq).1, (n3 q hq).2.1.trans (m3 q hq).2.1, (n3 q hq).2.2.trans (m3 q hq).2.2⟩, fun j a b => (n4 j a b).trans (m4 j a b), n5.trans m5, n6.trans m6, n7.trans m7, fun j hj => (n8 j hj).trans (m8 j hj)⟩
/-- a write of the reference at a place that is none of the partition's -/
theorem MA.pi {i j : Nat} {x : Int32} (h10 : i = 10 → j < 6 * k ∨ 6 * k + 6 ≤ j) (h1 : i = 13 ∨ i = 7 ∨ i = 6 → ¬ j = k) (h2 : i = 14 ∨ i = 15 → j < 40 * k ∨ 40 * k + 40 ≤ j) (h3 : i = 16 → j < 200 * k ∨ 200 * k + 200 ≤ j) (h4 : i = 9 → j < 4 * k ∨ 4 * k + 4 ≤ j) : MA k M (xpi M i j x) :=
  ⟨fun s _ => by rw [gii, if_neg (by omega)], by rw [gii, if_neg (by omega)], fun q _ => ⟨by rw [gii, if_neg (by omega)], by rw [gii, if_neg (by omega)], rfl⟩, fun j _ _ => by rw [gii, if_neg (by omega)], rfl, by rw [gii, if_neg (by omega)], by rw [gii, if_neg (by omega)], fun j _ => by rw [gii, if_neg (by omega)]⟩
theorem MA.pl {i j : Nat} {x : Int64} (h1 : i = 5 → ¬ j = k) (h2 : i = 17 → j < 40 * k ∨ 40 * k + 40 ≤ j) : MA k M (xpl M i j x) :=
  ⟨fun s _ => rfl, rfl, fun q _ => ⟨rfl, rfl, by rw [gll, if_neg (by omega)]⟩, fun j _ _ => rfl, by rw [gll, if_neg (by omega)], rfl, rfl, fun j _ => rfl⟩
theorem TH.ixne (h : TH k n c so ix ex S M) {q q' : Nat} (hq : q < n) (hq' : q' < n) (hne : q ≠ q') (hs : so q = so q') : ix q ≠ ix q' := by
  intro e
  obtain ⟨-, -, -, h4, -, -, h7⟩ := h
  have a1 := (h4 q hq).2.2.2.2
  have a2 := (h4 q' hq').2.2.2.2
  rw [hs, e] at a1
  exact hne (h7 q q' hq hq' (a1.symm.trans a2))
theorem TH.opn (h : TH k n c so ix 1000 S M) (ex : Nat) : TH k n c so ix ex S M := by
  have hn := h.n_le
  obtain ⟨h1, h2, h3, h4, h5, h6, h7⟩ := h
  exact ⟨h1, h2, h3, h4, fun q hq _ v hv => h5 q hq (by omega) v hv, h6, h7⟩
theorem TH.close (h : TH k n c so ix ex S M) (hv : ∀ v, v < wd (so ex) → xgi S (8 + 21 * k + 3 * so ex + 2) (ix ex * wd (so ex) + v) = xgi M 16 (5 * (40 * k + ex) + v)) : TH k n c so ix 1000 S M := by
  obtain ⟨h1, h2, h3, h4, h5, h6, h7⟩ := h
  refine ⟨h1, h2, h3, h4, fun q hq _ v hv2 => ?_, h6, h7⟩
  by_cases e : q = ex
  · subst e; exact hv v hv2
  · exact h5 q hq e v hv2
theorem cell_ne {a b v v' w : Nat} (hv : v < w) (hv' : v' < w) (h : a ≠ b) : a * w + v ≠ b * w + v' := by
  intro e
  rcases Nat.lt_or_gt_of_ne h with h1 | h1
  · have := Nat.mul_le_mul_right w (show a + 1 ≤ b by omega)
    rw [Nat.add_mul, Nat.one_mul] at this
    omega
  · have := Nat.mul_le_mul_right w (show b + 1 ≤ a by omega)
    rw [Nat.add_mul, Nat.one_mul] at this
    omega
theorem TH.exS (h : TH k n c so ix ex S M) (hex : ex < n) {v : Nat} (hv : v < wd (so ex)) (x : Int32) : TH k n c so ix ex (xpi S (8 + 21 * k + 3 * so ex + 2) (ix ex * wd (so ex) + v) x) M := by
  have hne := fun q hq hq2 => h.ixne (q := q) (q' := ex) hq hex hq2
  obtain ⟨h1, h2, h3, h4, h5, h6, h7⟩ := h
  have hso := (h4 ex hex).1
  refine ⟨fun s hs => ?_, h2, h3, fun q hq => h4 q hq, fun q hq hq2 v' hv' => ?_, h6, h7⟩
  · rw [gii, if_neg (by omega)]; exact h1 s hs
  · rw [gii, if_neg (fun e => ?_)]
    · exact h5 q hq hq2 v' hv'
    · have e1 : so q = so ex := by omega
      rw [e1] at hv' e
      exact cell_ne hv' hv (hne q hq hq2 e1) e.2
theorem TH.exM (h : TH k n c so ix ex S M) {v : Nat} (hv : v < 5) (x : Int32) : TH k n c so ix ex S (xpi M 16 (5 * (40 * k + ex) + v) x) := by
  obtain ⟨h1, h2, h3, h4, h5, h6, h7⟩ := h
  refine ⟨h1, h2, h3, h4, fun q hq hq2 v' hv' => ?_, h6, h7⟩
  have := wd_le (so q)
  rw [gii, if_neg (by omega)]
  exact h5 q hq hq2 v' hv'
end Th
