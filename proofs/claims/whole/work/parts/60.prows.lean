/-! rows and partitions of the class -/
def ms (s : Nat) : Nat := [8, 4, 4, 4, 4, 8].getD s 0
def wd (s : Nat) : Nat := [5, 2, 0, 1, 0, 3].getD s 0
theorem ms_le : ∀ s, s < 6 → 4 ≤ ms s ∧ ms s ≤ 8 ∧ wd s ≤ 5 := by decide
theorem rwR {k s : Nat} (hk : k < 8) (hs : s < 6) : xR (8 + 21 * k + 3 * s) := by
  refine Or.inr (Or.inr ⟨by omega, by omega, ?_⟩)
  rw [show 8 + 21 * k + 3 * s - 5 = (3 + 3 * s) + 21 * k by omega, Nat.add_mul_mod_self_left, Nat.mod_eq_of_lt (by omega)]
  omega
theorem rwQ {k s : Nat} (hk : k < 8) (hs : s < 6) : xMost (8 + 21 * k + 3 * s) = ms s ∧ xWid (8 + 21 * k + 3 * s) = wd s := by
  have e : ((8 + 21 * k + 3 * s - 5) % 21 - 3) / 3 = s := by
    rw [show 8 + 21 * k + 3 * s - 5 = (3 + 3 * s) + 21 * k by omega, Nat.add_mul_mod_self_left, Nat.mod_eq_of_lt (by omega)]
    omega
  unfold xMost xWid
  rw [if_neg (by omega), if_neg (by omega), if_neg (by omega), e]
  exact ⟨rfl, rfl⟩
theorem cpP {k : Nat} (hk : k < 8) : xP (5 + 21 * k) := by
  refine ⟨by omega, by omega, ?_⟩
  rw [show 5 + 21 * k - 5 = 0 + 21 * k by omega, Nat.add_mul_mod_self_left]
section Ro
variable {S : XS} {r c w m : Nat}
theorem ro_full (hr : xR r) (h0 : xgi S r 0 = nI m) (h4 : xgi S r 4 = nI c) (hm : m < 1000) (hc : c < 1000) : f_RO_isFull S r = some (if c < m then 0 else 1) := by
  unfold f_RO_isFull
  rw [if_pos hr, h0, h4]
  simp only [nI_ltI (show c < 2 ^ 31 by omega) (show m < 2 ^ 31 by omega)]
  split <;> rfl
theorem ro_add21 (hr : xR r) (hm : xMost r = m) (hw : xWid r = w) (h1 : xgi S r 1 = nI w) (hcm : c < m) (hmb : m < 1000) (hwb : w < 1000) (x : Int32) : ∀ (d a n : Nat) (S1 : XS), w - a = d → a ≤ w → d < n → xgi S1 r 4 = nI c → xgi S1 r 1 = nI w →
    ∃ S', f_RO_add_21 n S1 r x (nI a) = some S' ∧ (∀ i j, xgi S' i j = if i = r ∧ j = 4 then nI (c + 1) else if i = r + 2 ∧ c * w + a ≤ j ∧ j < c * w + w then x else xgi S1 i j) ∧ (∀ i j, xgl S' i j = xgl S1 i j) := by
  intro d
  have hcw : c * w + w ≤ m * w := by
    have := Nat.mul_le_mul_right w (show c + 1 ≤ m by omega)
    rw [Nat.add_mul, Nat.one_mul] at this
    exact this
  have hb : m * w < 1000000 := Nat.lt_of_lt_of_le (Nat.mul_lt_mul'' hmb hwb) (by decide)
  induction d with
  | zero =>
    intro a n S1 hd ha hn h4 h1
    obtain ⟨n, rfl⟩ : ∃ k, n = k + 1 := ⟨n - 1, by omega⟩
    unfold f_RO_add_21
    rw [if_pos hr, h1, h4, if_pos (nI_le (by omega) (by omega)), nI_1]
    refine ⟨_, rfl, fun i j => ?_, fun _ _ => rfl⟩
    rw [gii]
    by_cases h : i = r ∧ j = 4
    · rw [if_pos h, if_pos h]
    · rw [if_neg h, if_neg h, if_neg (by omega)]
  | succ d ih =>
    intro a n S1 hd ha hn h4 h1
    obtain ⟨n, rfl⟩ : ∃ k, n = k + 1 := ⟨n - 1, by omega⟩
    unfold f_RO_add_21
    rw [if_pos hr, h1, h4, if_neg (nI_ge (by omega) (by omega)), pk_mul, nI_add, hm, hw, if_pos (nI_in (by omega) (by omega)), nI_clamp (by omega), nI_1]
    obtain ⟨S', e1, e2, e3⟩ := ih (a + 1) n (xpi S1 (r + 2) (c * w + a) x) (by omega) (by omega) (by omega) (by rw [gii, if_neg (by omega)]; exact h4) (by rw [gii, if_neg (by omega)]; exact h1)
    refine ⟨S', e1, fun i j => ?_, fun i j => e3 i j⟩
    rw [e2, gii]
    by_cases h : i = r ∧ j = 4
    · rw [if_pos h, if_pos h]
    · rw [if_neg h, if_neg h]
      by_cases h2 : i = r + 2 ∧ c * w + a ≤ j ∧ j < c * w + w
      · rw [if_pos h2]
        by_cases h3 : j = c * w + a
        · rw [if_neg (by omega), if_pos ⟨h2.1, h3⟩]
        · rw [if_pos (by omega)]
      · rw [if_neg h2, if_neg (by omega), if_neg (by omega)]
theorem ro_add (hr : xR r) (hm : xMost r = m) (hw : xWid r = w) (h0 : xgi S r 0 = nI m) (h1 : xgi S r 1 = nI w) (h4 : xgi S r 4 = nI c) (hcm : c < m) (hmb : m < 1000) (hwb : w < 1000) (nm : Int64) (x : Int32) :
    ∃ S', f_RO_add S r nm x = some S' ∧ (∀ i j, xgi S' i j = if i = r ∧ j = 4 then nI (c + 1) else if i = r + 2 ∧ c * w ≤ j ∧ j < c * w + w then x else xgi S i j) ∧ (∀ i j, xgl S' i j = if i = r + 1 ∧ j = c then nm else xgl S i j) := by
  unfold f_RO_add
  rw [if_pos hr, ro_full hr h0 h4 hmb (by omega), if_pos hcm, Option.bind_some, if_pos rfl, h4, hm, if_pos (nI_in hcm (by omega)), nI_clamp (by omega)]
  obtain ⟨S', e1, e2, e3⟩ := ro_add21 (S := S) hr hm hw h1 hcm hmb hwb x w 0 4096 (xpl S (r + 1) c nm) rfl (by omega) (by omega) h4 h1
  exact ⟨S', e1, fun i j => e2 i j, fun i j => by rw [e3, gll]⟩
theorem ro_holds (hr : xR r) (h1 : xgi S r 1 = nI w) (h4 : xgi S r 4 = nI c) (hw : w < 1000) (hc : c < 1000) (a b : Int32) : (∃ i j, i < c ∧ j < w ∧ a = nI i ∧ b = nI j ∧ f_RO_holds S r a b = some 1) ∨ (f_RO_holds S r a b = some 0 ∧ (a < 0 ∨ nI c ≤ a ∨ b < 0 ∨ nI w ≤ b)) := by
  unfold f_RO_holds
  rw [if_pos hr, h1, h4]
  by_cases g1 : a < 0
  · rw [if_pos g1]
    exact Or.inr ⟨rfl, Or.inl g1⟩
  · rw [if_neg g1]
    by_cases g2 : nI c ≤ a
    · rw [if_pos g2]
      exact Or.inr ⟨rfl, Or.inr (Or.inl g2)⟩
    · rw [if_neg g2]
      by_cases g3 : b < 0
      · rw [if_pos g3]
        exact Or.inr ⟨rfl, Or.inr (Or.inr (Or.inl g3))⟩
      · rw [if_neg g3]
        by_cases g4 : nI w ≤ b
        · rw [if_pos g4]
          exact Or.inr ⟨rfl, Or.inr (Or.inr (Or.inr g4))⟩
        · rw [if_neg g4]
          obtain ⟨i, hi, rfl⟩ := nI_of g1
          obtain ⟨j, hj, rfl⟩ := nI_of g3
          rw [nI_leI (by omega) hi] at g2
          rw [nI_leI (by omega) hj] at g4
          exact Or.inl ⟨i, j, by omega, by omega, rfl, rfl, rfl⟩
theorem ro_ix {i j : Nat} (hi : i < m) (hj : j < w) (hmb : m < 1000) (hwb : w < 1000) : i * w + j < m * w ∧ m * w < 1000000 := by
  have h1 := Nat.mul_le_mul_right w (show i + 1 ≤ m by omega)
  rw [Nat.add_mul, Nat.one_mul] at h1
  exact ⟨by omega, Nat.lt_of_lt_of_le (Nat.mul_lt_mul'' hmb hwb) (by decide)⟩
theorem ro_get (hr : xR r) (hm : xMost r = m) (hw : xWid r = w) (h1 : xgi S r 1 = nI w) (h4 : xgi S r 4 = nI c) (hcm : c ≤ m) (hmb : m < 1000) (hwb : w < 1000) (a b : Int32) : (∃ i j, i < c ∧ j < w ∧ a = nI i ∧ b = nI j ∧ f_RO_get S r a b = some (xgi S (r + 2) (i * w + j))) ∨ (f_RO_get S r a b = some (-1) ∧ (a < 0 ∨ nI c ≤ a ∨ b < 0 ∨ nI w ≤ b)) := by
  unfold f_RO_get
  rw [if_pos hr]
  rcases ro_holds hr h1 h4 hwb (by omega) a b with ⟨i, j, hi, hj, rfl, rfl, e⟩ | ⟨e, h9⟩
  · obtain ⟨g1, g2⟩ := ro_ix (m := m) (w := w) (i := i) (j := j) (by omega) hj hmb hwb
    refine Or.inl ⟨i, j, hi, hj, rfl, rfl, ?_⟩
    rw [e, Option.bind_some, if_neg (by decide), h1, pk_mul, nI_add, hm, hw, if_pos (nI_in (by omega) (by omega)), nI_clamp (by omega)]
  · refine Or.inr ⟨?_, h9⟩
    rw [e, Option.bind_some, if_pos rfl]
theorem ro_set {i j : Nat} (hr : xR r) (hm : xMost r = m) (hw : xWid r = w) (h1 : xgi S r 1 = nI w) (h4 : xgi S r 4 = nI c) (hcm : c ≤ m) (hmb : m < 1000) (hwb : w < 1000) (hi : i < c) (hj : j < w) (x : Int32) : f_RO_set S r (nI i) (nI j) x = some (xpi S (r + 2) (i * w + j) x) := by
  unfold f_RO_set
  rw [if_pos hr]
  obtain ⟨g1, g2⟩ := ro_ix (m := m) (w := w) (i := i) (j := j) (by omega) hj hmb hwb
  rcases ro_holds hr h1 h4 hwb (by omega) (nI i) (nI j) with ⟨i', j', hi', hj', e1, e2, e⟩ | ⟨e, h9⟩
  · rw [e, Option.bind_some, if_neg (by decide), h1, pk_mul, nI_add, hm, hw, if_pos (nI_in (by omega) (by omega)), nI_clamp (by omega)]
  · exfalso
    rcases h9 with h9 | h9 | h9 | h9
    · exact nI_pos (by omega) h9
    · rw [nI_leI (by omega) (by omega)] at h9; omega
    · exact nI_pos (by omega) h9
    · rw [nI_leI (by omega) (by omega)] at h9; omega
theorem ro_last {j : Nat} (hr : xR r) (hm : xMost r = m) (hw : xWid r = w) (h1 : xgi S r 1 = nI w) (h4 : xgi S r 4 = nI (c + 1)) (hcm : c < m) (hmb : m < 1000) (hwb : w < 1000) (hj : j < w) {y : Int32} (hy : y = nI j) (x : Int32) : f_RO_setLast S r y x = some (xpi S (r + 2) (c * w + j) x) := by
  unfold f_RO_setLast
  rw [if_pos hr, h4, nI_pred, hy, ro_set hr hm hw h1 h4 (by omega) hmb hwb (by omega) hj, Option.bind_some]
theorem ro_find (hr : xR r) (hm : xMost r = m) (h4 : xgi S r 4 = nI c) (hcm : c ≤ m) (hmb : m < 1000) (nm : Int64) : ∀ (d a n : Nat), c - a = d → a ≤ c → d < n → (f_RO_find_2 n S r nm (nI a) = some (-1) ∧ ∀ i, a ≤ i → i < c → ¬ xgl S (r + 1) i = nm) ∨ (∃ i, a ≤ i ∧ i < c ∧ f_RO_find_2 n S r nm (nI a) = some (nI i) ∧ xgl S (r + 1) i = nm) := by
  intro d
  induction d with
  | zero =>
    intro a n hd ha hn
    obtain ⟨n, rfl⟩ : ∃ k, n = k + 1 := ⟨n - 1, by omega⟩
    refine Or.inl ⟨?_, fun i h1 h2 => by omega⟩
    unfold f_RO_find_2
    rw [if_pos hr, h4, if_pos (nI_le (by omega) (by omega))]
  | succ d ih =>
    intro a n hd ha hn
    obtain ⟨n, rfl⟩ : ∃ k, n = k + 1 := ⟨n - 1, by omega⟩
    unfold f_RO_find_2
    rw [if_pos hr, h4, if_neg (nI_ge (by omega) (by omega)), hm, if_pos (nI_in (by omega) (by omega)), nI_clamp (by omega), nI_1]
    simp only [cmp0]
    by_cases h : xgl S (r + 1) a = nm
    · rw [if_pos h]
      exact Or.inr ⟨a, Nat.le_refl _, by omega, rfl, h⟩
    · rw [if_neg h]
      rcases ih (a + 1) n (by omega) (by omega) (by omega) with ⟨g1, g2⟩ | ⟨i, g1, g2, g3, g4⟩
      · refine Or.inl ⟨g1, fun i h1 h2 => ?_⟩
        by_cases h3 : i = a
        · rw [h3]; exact h
        · exact g2 i (by omega) h2
      · exact Or.inr ⟨i, by omega, g2, g3, g4⟩
end Ro
/-! a partition begins anew -/
theorem rw_eq (k s : Nat) : 5 + 21 * k + 2 + 1 + 3 * s = 8 + 21 * k + 3 * s := by omega
theorem pa_37 {k : Nat} (hk : k < 8) : ∀ (d a n : Nat) (S : XS), 6 - a = d → a ≤ 6 → d < n → ∃ S', f_PA_begin_37 n S (5 + 21 * k) (nI a) = some S' ∧ (∀ i j, (∀ s, a ≤ s → s < 6 → i = 8 + 21 * k + 3 * s → j = 4 → xgi S' i j = 0)) ∧ (∀ i j, (∀ s, a ≤ s → s < 6 → ¬ (i = 8 + 21 * k + 3 * s ∧ j = 4)) → xgi S' i j = xgi S i j) ∧ (∀ i j, xgl S' i j = xgl S i j) := by
  intro d
  induction d with
  | zero =>
    intro a n S hd ha hn
    obtain ⟨n, rfl⟩ : ∃ k, n = k + 1 := ⟨n - 1, by omega⟩
    refine ⟨S, ?_, fun i j s h1 h2 => by omega, fun _ _ _ => rfl, fun _ _ => rfl⟩
    unfold f_PA_begin_37
    rw [if_pos (by rw [ge_lit (x := 6) (n := 6) (by omega) (by omega) rfl]; omega)]
  | succ d ih =>
    intro a n S hd ha hn
    obtain ⟨n, rfl⟩ : ∃ k, n = k + 1 := ⟨n - 1, by omega⟩
    unfold f_PA_begin_37
    rw [if_neg (by rw [ge_lit (x := 6) (n := 6) (by omega) (by omega) rfl]; omega), if_pos (cpP hk), if_pos (nI_in (by omega) (by omega)), nI_clamp (by omega), rw_eq, if_pos (rwR hk (by omega)), nI_1]
    unfold f_RO_clear
    rw [if_pos (rwR hk (by omega)), Option.bind_some]
    obtain ⟨S', e1, e2, e3, e4⟩ := ih (a + 1) n (xpi S (8 + 21 * k + 3 * a) 4 0) (by omega) (by omega) (by omega)
    refine ⟨S', e1, fun i j s h1 h2 h3 h4 => ?_, fun i j h => ?_, fun i j => e4 i j⟩
    · by_cases h5 : s = a
      · rw [e3 i j (fun s' g1 g2 g3 => by omega), gii, if_pos (by omega)]
      · exact e2 i j s (by omega) h2 h3 h4
    · rw [e3 i j (fun s' g1 g2 g3 => h s' (by omega) g2 g3), gii, if_neg (h a (by omega) (by omega))]
theorem pa_17 {k : Nat} (hk : k < 8) : ∀ (d a n : Nat) (S : XS), 4 - a = d → a ≤ 4 → d < n → ∃ S', f_PA_begin_17 n S (5 + 21 * k) (nI a) = some S' ∧ (∀ s, s < 6 → xgi S' (8 + 21 * k + 3 * s) 4 = 0) ∧ (∀ j, a ≤ j → j < 4 → xgi S' (6 + 21 * k) j = 0) ∧ (∀ i j, (∀ s, s < 6 → ¬ (i = 8 + 21 * k + 3 * s ∧ j = 4)) → ¬ (i = 6 + 21 * k ∧ a ≤ j ∧ j < 4) → xgi S' i j = xgi S i j) ∧ (∀ i j, xgl S' i j = xgl S i j) := by
  intro d
  induction d with
  | zero =>
    intro a n S hd ha hn
    obtain ⟨n, rfl⟩ : ∃ k, n = k + 1 := ⟨n - 1, by omega⟩
    unfold f_PA_begin_17
    rw [if_pos (by rw [ge_lit (x := 4) (n := 4) (by omega) (by omega) rfl]; omega)]
    obtain ⟨S', e1, e2, e3, e4⟩ := pa_37 hk 6 0 4096 S rfl (by omega) (by omega)
    exact ⟨S', e1, fun s hs => e2 _ _ s (by omega) hs rfl rfl, fun j h1 h2 => by omega, fun i j h1 h2 => e3 i j (fun s _ hs => h1 s hs), e4⟩
  | succ d ih =>
    intro a n S hd ha hn
    obtain ⟨n, rfl⟩ : ∃ k, n = k + 1 := ⟨n - 1, by omega⟩
    unfold f_PA_begin_17
    rw [if_neg (by rw [ge_lit (x := 4) (n := 4) (by omega) (by omega) rfl]; omega), if_pos (cpP hk), if_pos (nI_in (by omega) (by omega)), nI_clamp (by omega), nI_1]
    obtain ⟨S', e1, e2, e3, e4, e5⟩ := ih (a + 1) n (xpi S (5 + 21 * k + 1) a 0) (by omega) (by omega) (by omega)
    refine ⟨S', e1, e2, fun j h1 h2 => ?_, fun i j h1 h2 => ?_, fun i j => e5 i j⟩
    · by_cases h5 : j = a
      · rw [e4 _ _ (fun s hs => by omega) (by omega), gii, if_pos (by omega)]
      · exact e3 j (by omega) h2
    · rw [e4 i j h1 (by omega), gii, if_neg (by omega)]
theorem pa_begin {S : XS} {k : Nat} (hk : k < 8) (nm : Int64) : ∃ S', f_PA_begin S (5 + 21 * k) nm = some S' ∧ (∀ s, s < 6 → xgi S' (8 + 21 * k + 3 * s) 4 = 0) ∧ (∀ j, j < 4 → xgi S' (6 + 21 * k) j = 0) ∧ xgi S' (5 + 21 * k) 1 = 0 ∧ xgi S' (5 + 21 * k) 2 = -1 ∧ xgl S' (5 + 21 * k) 0 = nm ∧ (∀ i j, (∀ s, s < 6 → ¬ (i = 8 + 21 * k + 3 * s ∧ j = 4)) → ¬ (i = 6 + 21 * k ∧ j < 4) → ¬ (i = 5 + 21 * k ∧ (j = 1 ∨ j = 2)) → xgi S' i j = xgi S i j) ∧ (∀ i j, ¬ (i = 5 + 21 * k ∧ j = 0) → xgl S' i j = xgl S i j) := by
  unfold f_PA_begin
  rw [if_pos (cpP hk)]
  obtain ⟨S', e1, e2, e3, e4, e5⟩ := pa_17 hk 4 0 4096 (xpi (xpi (xpl S (5 + 21 * k) 0 nm) (5 + 21 * k) 1 0) (5 + 21 * k) 2 (-1)) rfl (by omega) (by omega)
  refine ⟨S', e1, e2, fun j h => e3 j (by omega) h, ?_, ?_, ?_, fun i j h1 h2 h3 => ?_, fun i j h => ?_⟩
  · rw [e4 _ _ (fun s hs => by omega) (by omega), gii, if_neg (by omega), gii, if_pos ⟨rfl, rfl⟩]
  · rw [e4 _ _ (fun s hs => by omega) (by omega), gii, if_pos ⟨rfl, rfl⟩]
  · rw [e5, gli, gli, gll, if_pos ⟨rfl, rfl⟩]
  · rw [e4 i j h1 (by omega), gii, if_neg (by omega), gii, if_neg (by omega)]
    rfl
  · rw [e5, gli, gli, gll, if_neg h]
theorem pa_has {S : XS} {k : Nat} (hk : k < 8) {c : Nat → Nat} (hc : ∀ s, s < 6 → c s ≤ ms s ∧ xgi S (8 + 21 * k + 3 * s) 4 = nI (c s)) (nm : Int64) : ∀ (d a n : Nat), 6 - a = d → a ≤ 6 → d < n → (f_PA_hasThing_2 n S (5 + 21 * k) nm (nI a) = some 0 ∧ ∀ s i, a ≤ s → s < 6 → i < c s → ¬ xgl S (8 + 21 * k + 3 * s + 1) i = nm) ∨ (f_PA_hasThing_2 n S (5 + 21 * k) nm (nI a) = some 1 ∧ ∃ s i, s < 6 ∧ i < c s ∧ xgl S (8 + 21 * k + 3 * s + 1) i = nm) := by
  intro d
  induction d with
  | zero =>
    intro a n hd ha hn
    obtain ⟨n, rfl⟩ : ∃ k, n = k + 1 := ⟨n - 1, by omega⟩
    refine Or.inl ⟨?_, fun s i h1 h2 => by omega⟩
    unfold f_PA_hasThing_2
    rw [if_pos (by rw [ge_lit (x := 6) (n := 6) (by omega) (by omega) rfl]; omega)]
  | succ d ih =>
    intro a n hd ha hn
    obtain ⟨n, rfl⟩ : ∃ k, n = k + 1 := ⟨n - 1, by omega⟩
    have ha6 : a < 6 := by omega
    unfold f_PA_hasThing_2
    rw [if_neg (by rw [ge_lit (x := 6) (n := 6) (by omega) (by omega) rfl]; omega), if_pos (cpP hk), if_pos (nI_in (by omega) (by omega)), nI_clamp (by omega), rw_eq, if_pos (rwR hk (by omega)), nI_1]
    have hms := ms_le a ha6
    rcases ro_find (rwR hk ha6) (rwQ hk ha6).1 (hc a ha6).2 (hc a ha6).1 (by omega) nm (c a) 0 4096 rfl (by omega) (by have := (hc a ha6).1; omega) with ⟨g1, g2⟩ | ⟨i, g1, g2, g3, g4⟩
    · unfold f_RO_find
      rw [show (0 : Int32) = nI 0 from rfl, g1, Option.bind_some, if_pos rfl]
      rcases ih (a + 1) n (by omega) (by omega) (by omega) with ⟨k1, k2⟩ | ⟨k1, k2⟩
      · refine Or.inl ⟨k1, fun s i h1 h2 h3 => ?_⟩
        by_cases h5 : s = a
        · subst h5; exact g2 i (by omega) h3
        · exact k2 s i (by omega) h2 h3
      · exact Or.inr ⟨k1, k2⟩
    · unfold f_RO_find
      have hci := (hc a ha6).1
      rw [show (0 : Int32) = nI 0 from rfl, g3, Option.bind_some, if_neg (fun e => nI_pos (n := i) (by omega) (by rw [e]; decide))]
      exact Or.inr ⟨rfl, a, i, ha6, g2, g4⟩
/-! the reference's rows -/
theorem mo_find {M : XS} {k n : Nat} (hk : k < 8) (hn : n ≤ 40) (h13 : xgi M 13 k = nI n) (nm : Int64) : ∀ (d a m : Nat), n - a = d → a ≤ n → d < m → (f_MO_find_6 m M (nI k) nm (nI (40 * k + a)) = some (-1) ∧ ∀ q, a ≤ q → q < n → ¬ xgl M 17 (40 * k + q) = nm) ∨ (∃ q, a ≤ q ∧ q < n ∧ f_MO_find_6 m M (nI k) nm (nI (40 * k + a)) = some (nI (40 * k + q)) ∧ xgl M 17 (40 * k + q) = nm) := by
  intro d
  induction d with
  | zero =>
    intro a m hd ha hm
    obtain ⟨m, rfl⟩ : ∃ k, m = k + 1 := ⟨m - 1, by omega⟩
    refine Or.inl ⟨?_, fun q h1 h2 => by omega⟩
    unfold f_MO_find_6
    rw [if_pos (nI_in hk (by omega)), nI_clamp (by omega), h13, show (40 : Int32) = nI 40 from rfl, pk_mul, nI_add, if_pos (nI_le (by omega) (by omega))]
  | succ d ih =>
    intro a m hd ha hm
    obtain ⟨m, rfl⟩ : ∃ k, m = k + 1 := ⟨m - 1, by omega⟩
    unfold f_MO_find_6
    rw [if_pos (nI_in hk (by omega)), nI_clamp (n := k) (by omega), h13, show (40 : Int32) = nI 40 from rfl, pk_mul, nI_add, if_neg (nI_ge (by omega) (by omega)), if_pos (nI_in (by omega) (by omega)), nI_clamp (by omega), nI_1]
    simp only [cmp0]
    by_cases h : xgl M 17 (40 * k + a) = nm
    · rw [if_pos h]
      exact Or.inr ⟨a, Nat.le_refl _, by omega, rfl, h⟩
    · rw [if_neg h]
      rcases ih (a + 1) m (by omega) (by omega) (by omega) with ⟨g1, g2⟩ | ⟨i, g1, g2, g3, g4⟩
      · refine Or.inl ⟨g1, fun i h1 h2 => ?_⟩
        by_cases h3 : i = a
        · rw [h3]; exact h
        · exact g2 i (by omega) h2
      · exact Or.inr ⟨i, by omega, g2, g3, g4⟩
