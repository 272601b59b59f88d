/-! words of the text: names and numbers -/
def TK (T : Nat → Int32) (f t : Nat) : List Int32 := (List.range' f (t - f)).map T
theorem TK_s {T : Nat → Int32} {f t : Nat} (h : f ≤ t) : TK T f (t + 1) = TK T f t ++ [T t] := by
  unfold TK
  rw [show t + 1 - f = (t - f) + 1 by omega, List.range'_concat, List.map_append]
  simp [show f + (t - f) = t by omega]
theorem TK_0 {T : Nat → Int32} {f : Nat} : TK T f f = [] := by simp [TK]
theorem TK_len {T : Nat → Int32} {f t : Nat} : (TK T f t).length = t - f := by simp [TK]
def chv (c : Int32) : Int64 := if 97 ≤ c then ((c - 97) + 1).toInt64 else ((c - 48) + 27).toInt64
def cod (l : List Int32) : Int64 := l.foldl (fun a c => a * 37 + chv c) 0
theorem cod_s (l : List Int32) (c : Int32) : cod (l ++ [c]) = cod l * 37 + chv c := by simp [cod]
def AN (c : Int32) : Prop := ∃ u : Nat, c = nI u ∧ ((97 ≤ u ∧ u ≤ 122) ∨ (48 ≤ u ∧ u ≤ 57))
def kix : List Int64 → Int64 → Nat → Int32
  | [], _, _ => -1
  | c :: l, v, i => if c = v then nI i else kix l v (i + 1)
theorem le_lit {k n : Nat} (h : k < 2 ^ 31) (hn : n < 2 ^ 31) {x : Int32} (hx : x = nI n) : (nI k ≤ x) = (k ≤ n) := by subst hx; exact propext (nI_leI h hn)
theorem ge_lit {k n : Nat} (h : k < 2 ^ 31) (hn : n < 2 ^ 31) {x : Int32} (hx : x = nI n) : (x ≤ nI k) = (n ≤ k) := by subst hx; exact propext (nI_leI hn h)
theorem lt_lit {k n : Nat} (h : k < 2 ^ 31) (hn : n < 2 ^ 31) {x : Int32} (hx : x = nI n) : (nI k < x) = (k < n) := by subst hx; exact propext (nI_ltI h hn)
theorem gt_lit {k n : Nat} (h : k < 2 ^ 31) (hn : n < 2 ^ 31) {x : Int32} (hx : x = nI n) : (x < nI k) = (n < k) := by subst hx; exact propext (nI_ltI hn h)
theorem eq_lit {k n : Nat} (h : k < 2 ^ 31) (hn : n < 2 ^ 31) {x : Int32} (hx : x = nI n) : (nI k = x) = (k = n) := by subst hx; exact propext (nI_eq h hn)
theorem cmp0 (x y : Int64) : (lg_cmp x y = 0) = (x = y) := by
  apply propext
  unfold lg_cmp
  constructor
  · intro h
    by_cases h1 : x > y
    · rw [if_pos h1] at h; exact absurd h (by decide)
    · rw [if_neg h1] at h
      by_cases h2 : x = y
      · exact h2
      · rw [if_neg h2] at h; exact absurd h (by decide)
  · intro h
    subst h
    rw [if_neg (by simp [Int64.lt_iff_toInt_lt]), if_pos rfl]
theorem see_in {T : Nat → Int32} {E t : Nat} {M : XS} (hM : KM T E M) (hE : E ≤ 2000) (h : t < E) : f_MO_see M (nI t) = some (T t &&& 255) := by
  unfold f_MO_see
  rw [hM.2.1, if_neg (by rw [nI_leI (by omega) (by omega)]; omega), if_pos (nI_in (by omega) (by omega)), nI_clamp (by omega), hM.1]
theorem see_out {T : Nat → Int32} {E t : Nat} {M : XS} (hM : KM T E M) (hE : E ≤ 2000) (h : E ≤ t) (ht : t < 2 ^ 31) : f_MO_see M (nI t) = some (-1) := by
  unfold f_MO_see
  rw [hM.2.1, if_pos (by rw [nI_leI (by omega) (by omega)]; omega)]
theorem word_of {M : XS} (hM : ∀ j, xgl M 1 j = mwords.getD j 0) (v : Int64) : ∀ (d i n : Nat), 23 - i = d → i ≤ 23 → d < n → f_MO_wordOf_2 n M v (nI i) = some (kix (mwords.drop i) v i) := by
  intro d
  induction d with
  | zero =>
    intro i n h1 h2 h3
    obtain ⟨n, rfl⟩ : ∃ k, n = k + 1 := ⟨n - 1, by omega⟩
    rw [show i = 23 by omega]
    rfl
  | succ d ih =>
    intro i n h1 h2 h3
    obtain ⟨n, rfl⟩ : ∃ k, n = k + 1 := ⟨n - 1, by omega⟩
    have hi : i < mwords.length := by show i < 23; omega
    rw [List.drop_eq_getElem_cons hi]
    unfold f_MO_wordOf_2 kix
    rw [if_neg (by rw [ge_lit (x := 23) (n := 23) (by omega) (by omega) rfl]; omega), if_pos (nI_in (by omega) (by omega)), nI_clamp (by omega), hM, nI_1, ih (i + 1) n (by omega) (by omega) (by omega)]
    simp only [cmp0]
    rw [List.getD_eq_getElem?_getD, List.getElem?_eq_getElem hi]
    simp only [Option.getD_some]
    split <;> rfl
def tk1 (v : Int64) : Int32 := if kix mwords v 0 = -1 then 1 else 2
theorem m_nend {T : Nat → Int32} {E f t : Nat} {M : XS} {q : Int32} {m : Nat} (hM : KM T E M) (ht : t < 2 ^ 31) (hf : f ≤ t) (h7 : xgi M 0 7 = nI t) (h6 : xgi M 0 6 = nI f) (hs : f_MO_see M (nI t) = some q) (hl : f_MO_isLetter M q = some 0) (hd : f_MO_isDigit M q = some 0) :
    f_MO_readName_5 (m + 1) M = some (if t - f ≤ 12 then xpi (xpi M 0 9 (kix mwords (xgl M 0 10) 0)) 0 8 (tk1 (xgl M 0 10)) else xpi (xpi M 0 9 (-1)) 0 8 5) := by
  unfold f_MO_readName_5
  rw [h7, hs]
  simp only [Option.bind_some, hl, hd, h6, pk_sub hf, if_true]
  simp only [le_lit (k := t - f) (x := 12) (n := 12) (by omega) (by omega) rfl]
  by_cases h : t - f ≤ 12
  · rw [if_pos h, if_pos h]
    have := word_of hM.2.2.1 (xgl M 0 10) 23 0 4096 rfl (by omega) (by omega)
    rw [show f_MO_wordOf M (xgl M 0 10) = some (kix mwords (xgl M 0 10) 0) from this]
    simp only [Option.bind_some, f_MO_readName_140, gii, and_self, if_true, Nat.reduceEqDiff, and_false, if_false, h7, h6, pk_sub hf]
    simp only [le_lit (k := t - f) (x := 12) (n := 12) (by omega) (by omega) rfl]
    rw [if_pos h]
    unfold tk1
    split <;> rfl
  · rw [if_neg h, if_neg h]
    simp only [Option.bind_some, f_MO_readName_140, gii, and_self, if_true, Nat.reduceEqDiff, and_false, if_false, h7, h6, pk_sub hf]
    simp only [le_lit (k := t - f) (x := 12) (n := 12) (by omega) (by omega) rfl]
    rw [if_neg h]
theorem let_y {M : XS} {u : Nat} (h : 97 ≤ u ∧ u ≤ 122) : f_MO_isLetter M (nI u) = some 1 := by
  unfold f_MO_isLetter
  rw [if_neg (by rw [nn97 u (by omega)]; omega), if_neg (by rw [nn122 u (by omega)]; omega)]
theorem let_n {M : XS} {u : Nat} (hu : u < 256) (h : ¬ (97 ≤ u ∧ u ≤ 122)) : f_MO_isLetter M (nI u) = some 0 := by
  unfold f_MO_isLetter
  by_cases h1 : u < 97
  · rw [if_pos ((nn97 u hu).mpr h1)]
  · rw [if_neg (by rw [nn97 u hu]; omega), if_pos (by rw [nn122 u hu]; omega)]
theorem dig_y {M : XS} {u : Nat} (h : 48 ≤ u ∧ u ≤ 57) : f_MO_isDigit M (nI u) = some 1 := by
  unfold f_MO_isDigit
  rw [if_neg (by rw [nn48 u (by omega)]; omega), if_neg (by rw [nn57 u (by omega)]; omega)]
theorem dig_n {M : XS} {u : Nat} (hu : u < 256) (h : ¬ (48 ≤ u ∧ u ≤ 57)) : f_MO_isDigit M (nI u) = some 0 := by
  unfold f_MO_isDigit
  by_cases h1 : u < 48
  · rw [if_pos ((nn48 u hu).mpr h1)]
  · rw [if_neg (by rw [nn48 u hu]; omega), if_pos (by rw [nn57 u hu]; omega)]
/-- the reference goes on over a letter or a digit -/
theorem m_nstep {f t u : Nat} {M : XS} {m : Nat} (ht : t < 2 ^ 31) (hf : f ≤ t) (h7 : xgi M 0 7 = nI t) (h6 : xgi M 0 6 = nI f) (hs : f_MO_see M (nI t) = some (nI u)) (hu : u < 256) (ha : (97 ≤ u ∧ u ≤ 122) ∨ (48 ≤ u ∧ u ≤ 57)) :
    f_MO_readName_5 (m + 1) M = f_MO_readName_5 m (xpi (xpl M 0 10 (if t - f < 12 then xgl M 0 10 * 37 + chv (nI u) else xgl M 0 10)) 0 7 (nI (t + 1))) := by
  conv => lhs; unfold f_MO_readName_5
  rw [h7, hs]
  simp only [Option.bind_some, h6, pk_sub hf, gil, h7, nI_1]
  simp only [ge_lit (x := 12) (n := 12) (k := t - f) (by omega) (by omega) rfl]
  rcases ha with h | h
  · rw [let_y h]
    simp only [Option.bind_some]
    rw [if_neg (by decide)]
    by_cases h9 : t - f < 12
    · rw [if_neg (by omega), if_neg (by decide), if_pos h9, Int64.mul_comm]
      unfold chv
      rw [if_pos (by rw [ge_lit (x := 97) (n := 97) (by omega) (by omega) rfl]; omega)]
    · rw [if_pos (by omega), if_neg h9]
  · rw [let_n hu (by omega)]
    simp only [Option.bind_some, if_true]
    rw [dig_y h]
    simp only [Option.bind_some]
    rw [if_neg (by decide)]
    by_cases h9 : t - f < 12
    · rw [if_neg (by omega), if_pos h9, Int64.mul_comm]
      unfold chv
      rw [if_neg (by rw [ge_lit (x := 97) (n := 97) (by omega) (by omega) rfl]; omega)]
    · rw [if_pos (by omega), if_neg h9]
/-- the class goes on over a letter or a digit -/
theorem c_nstep {E t u : Nat} {S : XS} {n : Nat} (hE : E ≤ 2000) (ht : t < E) (h1 : xgi S 2 1 = nI E) (h3 : xgi S 2 3 = nI t) (hs : xgi S 1 t = nI u) (ha : (97 ≤ u ∧ u ≤ 122) ∨ (48 ≤ u ∧ u ≤ 57)) :
    f_WO_spell_5 (n + 1) S = f_WO_spell_5 n (xpi (xpl S 2 6 (xgl S 2 6 * 37 + chv (nI u))) 2 3 (nI (t + 1))) := by
  conv => lhs; unfold f_WO_spell_5
  rw [h1, h3, if_neg (by rw [nI_leI (by omega) (by omega)]; omega), if_pos (nI_in (by omega) (by omega)), nI_clamp (by omega), hs]
  simp only [gil, h3, nI_1]
  rcases ha with h | h
  · rw [if_neg (by rw [lt_lit (x := 97) (n := 97) (by omega) (by omega) rfl]; omega), if_neg (by rw [gt_lit (x := 122) (n := 122) (by omega) (by omega) rfl]; omega)]
    unfold chv
    rw [if_pos (by rw [ge_lit (x := 97) (n := 97) (by omega) (by omega) rfl]; omega)]
  · rw [if_pos (by rw [lt_lit (x := 97) (n := 97) (by omega) (by omega) rfl]; omega), if_neg (by rw [lt_lit (x := 48) (n := 48) (by omega) (by omega) rfl]; omega), if_neg (by rw [gt_lit (x := 57) (n := 57) (by omega) (by omega) rfl]; omega)]
    unfold chv
    rw [if_neg (by rw [ge_lit (x := 97) (n := 97) (by omega) (by omega) rfl]; omega)]
theorem c_nend {E t u : Nat} {S : XS} {n : Nat} (hE : E ≤ 2000) (ht : t < E) (h1 : xgi S 2 1 = nI E) (h3 : xgi S 2 3 = nI t) (hs : xgi S 1 t = (nI u).toInt8.toInt32) (hu : u < 256) (ha : ¬ ((97 ≤ u ∧ u ≤ 122) ∨ (48 ≤ u ∧ u ≤ 57))) : f_WO_spell_5 (n + 1) S = some S := by
  unfold f_WO_spell_5
  rw [h1, h3, if_neg (by rw [nI_leI (by omega) (by omega)]; omega), if_pos (nI_in (by omega) (by omega)), nI_clamp (by omega), hs]
  simp only [bb97 u hu, bb122 u hu, bb48 u hu, bb57 u hu]
  by_cases h2 : u < 97 ∨ 128 ≤ u
  · rw [if_pos h2]
    by_cases h4 : u < 48 ∨ 128 ≤ u
    · rw [if_pos h4]
    · rw [if_neg h4, if_pos (by omega)]
  · rw [if_neg h2, if_pos (by omega), if_neg (by omega), if_pos (by omega)]
theorem l_name {T : Nat → Int32} (hb : BY T) {E f : Nat} (hE : E ≤ 2000) : ∀ (d t n m : Nat) (S M : XS), E - t = d → d < n → d < m → f ≤ t → t ≤ E →
    (∀ j, xgi S 1 j = T j) → xgi S 2 1 = nI E → xgi S 2 3 = nI t → KM T E M → xgi M 0 7 = nI t → xgi M 0 6 = nI f →
    (∀ c ∈ TK T f t, AN c) → (t - f ≤ 12 → xgl S 2 6 = cod (TK T f t) ∧ xgl M 0 10 = cod (TK T f t)) →
    ∃ t' S' M', t ≤ t' ∧ t' ≤ E ∧ f_WO_spell_5 n S = some S' ∧ f_MO_readName_5 m M = some M' ∧ FS S S' ∧ FM M M' ∧ xgi S' 2 2 = xgi S 2 2 ∧ xgi S' 2 4 = xgi S 2 4 ∧ xgi S' 2 3 = nI t' ∧ xgi M' 0 7 = nI t' ∧ xgi M' 0 6 = nI f ∧ (∀ c ∈ TK T f t', AN c) ∧ (t < E → AN (T t) → t < t') ∧
      ((t' - f ≤ 12 ∧ xgl S' 2 6 = cod (TK T f t') ∧ xgl M' 0 10 = cod (TK T f t') ∧ xgi M' 0 9 = kix mwords (cod (TK T f t')) 0 ∧ xgi M' 0 8 = tk1 (cod (TK T f t'))) ∨ (12 < t' - f ∧ xgi M' 0 8 = 5)) := by
  intro d
  induction d with
  | zero =>
    intro t n m S M hd hn hm hf ht hT h1 h3 hM h7 h6 hA hc
    obtain ⟨n, rfl⟩ : ∃ k, n = k + 1 := ⟨n - 1, by omega⟩
    obtain ⟨m, rfl⟩ : ∃ k, m = k + 1 := ⟨m - 1, by omega⟩
    have e : t = E := by omega
    have e1 : f_WO_spell_5 (n + 1) S = some S := by
      unfold f_WO_spell_5
      rw [h1, h3, if_pos (by rw [nI_leI (by omega) (by omega)]; omega)]
    have e2 := m_nend (m := m) hM (by omega : t < 2 ^ 31) hf h7 h6 (see_out hM hE (by omega) (by omega)) (by rfl) (by rfl)
    by_cases h9 : t - f ≤ 12
    · rw [if_pos h9] at e2
      obtain ⟨c1, c2⟩ := hc h9
      refine ⟨t, S, _, Nat.le_refl _, ht, e1, e2, FS.rf, (FM.pi (by decide) (by decide)).tr (FM.pi (by decide) (by decide)), rfl, rfl, h3, h7, h6, hA, fun h => by omega, Or.inl ⟨h9, c1, c2, ?_, ?_⟩⟩
      · rw [c2]; rfl
      · rw [c2]; rfl
    · rw [if_neg h9] at e2
      exact ⟨t, S, _, Nat.le_refl _, ht, e1, e2, FS.rf, (FM.pi (by decide) (by decide)).tr (FM.pi (by decide) (by decide)), rfl, rfl, h3, h7, h6, hA, fun h => by omega, Or.inr ⟨by omega, rfl⟩⟩
  | succ d ih =>
    intro t n m S M hd hn hm hf ht hT h1 h3 hM h7 h6 hA hc
    obtain ⟨n, rfl⟩ : ∃ k, n = k + 1 := ⟨n - 1, by omega⟩
    obtain ⟨m, rfl⟩ : ∃ k, m = k + 1 := ⟨m - 1, by omega⟩
    obtain ⟨u, hu, eu⟩ := hb t
    have hs := see_in hM hE (show t < E by omega)
    rw [eu, sc_k8 u hu] at hs
    by_cases ha : (97 ≤ u ∧ u ≤ 122) ∨ (48 ≤ u ∧ u ≤ 57)
    · have en : T t = nI u := by rw [eu, bbn u (by omega)]
      rw [c_nstep hE (by omega) h1 h3 ((hT t).trans en) ha, m_nstep (by omega) hf h7 h6 hs hu ha]
      have hTK : TK T f (t + 1) = TK T f t ++ [nI u] := by rw [TK_s hf, en]
      obtain ⟨t', S', M', g1, g2, g3, g4, g5, g6, g7, g8, g9, g10, g11, g12, g13, g14⟩ := ih (t + 1) n m (xpi (xpl S 2 6 (xgl S 2 6 * 37 + chv (nI u))) 2 3 (nI (t + 1))) (xpi (xpl M 0 10 (if t - f < 12 then xgl M 0 10 * 37 + chv (nI u) else xgl M 0 10)) 0 7 (nI (t + 1))) (by omega) (by omega) (by omega) (by omega) (by omega) (fun j => hT j) h1 rfl (hM.fm (FM.pl.tr (FM.pi (by decide) (by decide)))) rfl h6 (by
          intro c hc9
          rw [hTK, List.mem_append] at hc9
          rcases hc9 with h | h
          · exact hA c h
          · rw [List.mem_singleton] at h
            exact ⟨u, h, ha⟩) (by
          intro h9
          obtain ⟨c1, c2⟩ := hc (by omega)
          rw [hTK, cod_s]
          constructor
          · rw [gli, gll, if_pos ⟨rfl, rfl⟩, c1]
          · rw [gli, gll, if_pos ⟨rfl, rfl⟩, if_pos (by omega), c2])
      exact ⟨t', S', M', by omega, g2, g3, g4, (FS.pl.tr (FS.pi (by decide) (by decide))).tr g5, (FM.pl.tr (FM.pi (by decide) (by decide))).tr g6, g7, g8, g9, g10, g11, g12, fun _ _ => by omega, g14⟩
    · have e1 : f_WO_spell_5 (n + 1) S = some S := c_nend hE (by omega) h1 h3 ((hT t).trans eu) hu ha
      have e2 := m_nend (m := m) hM (by omega : t < 2 ^ 31) hf h7 h6 hs (let_n hu (by omega)) (dig_n hu (by omega))
      have hna : AN (T t) → t < t := by
        rintro ⟨w, e9, hw⟩
        exfalso
        rw [eu] at e9
        have e8 := congrArg (· &&& (255 : Int32)) e9
        simp only [sc_k8 u hu] at e8
        rw [← bbn w (by omega)] at e8
        rw [sc_k8 w (by omega)] at e8
        rw [nI_eq (by omega) (by omega)] at e8
        omega
      by_cases h9 : t - f ≤ 12
      · rw [if_pos h9] at e2
        obtain ⟨c1, c2⟩ := hc h9
        refine ⟨t, S, _, Nat.le_refl _, ht, e1, e2, FS.rf, (FM.pi (by decide) (by decide)).tr (FM.pi (by decide) (by decide)), rfl, rfl, h3, h7, h6, hA, fun _ => hna, Or.inl ⟨h9, c1, c2, ?_, ?_⟩⟩
        · rw [c2]; rfl
        · rw [c2]; rfl
      · rw [if_neg h9] at e2
        exact ⟨t, S, _, Nat.le_refl _, ht, e1, e2, FS.rf, (FM.pi (by decide) (by decide)).tr (FM.pi (by decide) (by decide)), rfl, rfl, h3, h7, h6, hA, fun _ => hna, Or.inr ⟨by omega, rfl⟩⟩
