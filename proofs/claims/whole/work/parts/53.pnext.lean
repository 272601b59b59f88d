/-! numbers; the next word -/
theorem nI_inn {c N : Nat} (h : c < N) (hN : N < 2 ^ 31) : ¬ (nI c < 0 ∨ N ≤ c) := by
  rintro (h1 | h1)
  · exact nI_pos (by omega) h1
  · omega
def NVk (S M : XS) (e : Nat) : Prop := ∃ k, k < 10 ^ e ∧ xgi S 2 5 = nI k ∧ xgl M 0 10 = lN k
theorem m_dend {f t : Nat} {M : XS} {q : Int32} {m : Nat} (ht : t < 2 ^ 31) (hf : f ≤ t) (h7 : xgi M 0 7 = nI t) (h6 : xgi M 0 6 = nI f) (hs : f_MO_see M (nI t) = some q) (hd : f_MO_isDigit M q = some 0) :
    f_MO_readNumber_5 (m + 1) M = some (if t - f ≤ 6 then xpi M 0 8 3 else xpi M 0 8 5) := by
  unfold f_MO_readNumber_5
  rw [h7, hs]
  simp only [Option.bind_some, hd, h6, pk_sub hf, if_true, le_lit (k := t - f) (x := 6) (n := 6) (by omega) (by omega) rfl]
  split <;> rfl
theorem m_dstep {f t u : Nat} {M : XS} {m : Nat} (ht : t < 2 ^ 31) (hf : f ≤ t) (h7 : xgi M 0 7 = nI t) (h6 : xgi M 0 6 = nI f) (hs : f_MO_see M (nI t) = some (nI u)) (ha : 48 ≤ u ∧ u ≤ 57) :
    f_MO_readNumber_5 (m + 1) M = f_MO_readNumber_5 m (xpi (xpl M 0 10 (if t - f < 6 then 10 * xgl M 0 10 + (nI u).toInt64 - 48 else xgl M 0 10)) 0 7 (nI (t + 1))) := by
  conv => lhs; unfold f_MO_readNumber_5
  rw [h7, hs]
  simp only [Option.bind_some, h6, pk_sub hf, gil, h7, nI_1, dig_y ha, ge_lit (x := 6) (n := 6) (k := t - f) (by omega) (by omega) rfl]
  rw [if_neg (by decide)]
  by_cases h9 : t - f < 6
  · rw [if_neg (by omega), if_pos h9]
  · rw [if_pos (by omega), if_neg h9]
theorem c_dstep {E t u : Nat} {S : XS} {n : Nat} (hE : E ≤ 2000) (ht : t < E) (h1 : xgi S 2 1 = nI E) (h3 : xgi S 2 3 = nI t) (hs : xgi S 1 t = nI u) (ha : 48 ≤ u ∧ u ≤ 57) :
    f_WO_reckon_5 (n + 1) S = f_WO_reckon_5 n (xpi (xpi S 2 5 (xgi S 2 5 * 10 + (nI u - 48))) 2 3 (nI (t + 1))) := by
  conv => lhs; unfold f_WO_reckon_5
  rw [h1, h3, if_neg (by rw [nI_leI (by omega) (by omega)]; omega), if_pos (nI_in (by omega) (by omega)), nI_clamp (by omega), hs, if_neg (by rw [lt_lit (x := 48) (n := 48) (by omega) (by omega) rfl]; omega), if_pos (nI_inn (by omega) (by omega)), if_neg (by rw [gt_lit (x := 57) (n := 57) (by omega) (by omega) rfl]; omega), if_pos (nI_inn (by omega) (by omega))]
  simp only [gii, Nat.reduceEqDiff, and_false, if_false, h3, nI_1]
theorem c_dend {E t u : Nat} {S : XS} {n : Nat} (hE : E ≤ 2000) (ht : t < E) (h1 : xgi S 2 1 = nI E) (h3 : xgi S 2 3 = nI t) (hs : xgi S 1 t = (nI u).toInt8.toInt32) (hu : u < 256) (ha : ¬ (48 ≤ u ∧ u ≤ 57)) : f_WO_reckon_5 (n + 1) S = some S := by
  unfold f_WO_reckon_5
  rw [h1, h3, if_neg (by rw [nI_leI (by omega) (by omega)]; omega), if_pos (nI_in (by omega) (by omega)), nI_clamp (by omega), hs]
  simp only [bb48 u hu, bb57 u hu]
  by_cases h4 : u < 48 ∨ 128 ≤ u
  · rw [if_pos h4]
  · rw [if_neg h4, if_pos (nI_inn (by omega) (by omega)), if_pos (by omega)]
theorem l_num {T : Nat → Int32} (hb : BY T) {E f : Nat} (hE : E ≤ 2000) : ∀ (d t n m : Nat) (S M : XS), E - t = d → d < n → d < m → f ≤ t → t ≤ E →
    (∀ j, xgi S 1 j = T j) → xgi S 2 1 = nI E → xgi S 2 3 = nI t → KM T E M → xgi M 0 7 = nI t → xgi M 0 6 = nI f →
    (t - f ≤ 6 → NVk S M (t - f)) →
    ∃ t' S' M', t ≤ t' ∧ t' ≤ E ∧ f_WO_reckon_5 n S = some S' ∧ f_MO_readNumber_5 m M = some M' ∧ FS S S' ∧ FM M M' ∧ xgi S' 2 2 = xgi S 2 2 ∧ xgi S' 2 4 = xgi S 2 4 ∧ xgi S' 2 3 = nI t' ∧ xgi M' 0 7 = nI t' ∧ xgi M' 0 6 = nI f ∧ xgi M' 0 9 = xgi M 0 9 ∧ (∀ u, t < E → T t = nI u → 48 ≤ u ∧ u ≤ 57 → t < t') ∧
      ((t' - f ≤ 6 ∧ NVk S' M' (t' - f) ∧ xgi M' 0 8 = 3) ∨ (6 < t' - f ∧ xgi M' 0 8 = 5)) := by
  intro d
  induction d with
  | zero =>
    intro t n m S M hd hn hm hf ht hT h1 h3 hM h7 h6 hc
    obtain ⟨n, rfl⟩ : ∃ k, n = k + 1 := ⟨n - 1, by omega⟩
    obtain ⟨m, rfl⟩ : ∃ k, m = k + 1 := ⟨m - 1, by omega⟩
    have e : t = E := by omega
    have e1 : f_WO_reckon_5 (n + 1) S = some S := by
      unfold f_WO_reckon_5
      rw [h1, h3, if_pos (by rw [nI_leI (by omega) (by omega)]; omega)]
    have e2 := m_dend (m := m) (by omega : t < 2 ^ 31) hf h7 h6 (see_out hM hE (by omega) (by omega)) (by rfl)
    by_cases h9 : t - f ≤ 6
    · rw [if_pos h9] at e2
      exact ⟨t, S, _, Nat.le_refl _, ht, e1, e2, FS.rf, FM.pi (by decide) (by decide), rfl, rfl, h3, h7, h6, rfl, fun u h => by omega, Or.inl ⟨h9, hc h9, rfl⟩⟩
    · rw [if_neg h9] at e2
      exact ⟨t, S, _, Nat.le_refl _, ht, e1, e2, FS.rf, FM.pi (by decide) (by decide), rfl, rfl, h3, h7, h6, rfl, fun u h => by omega, Or.inr ⟨by omega, rfl⟩⟩
  | succ d ih =>
    intro t n m S M hd hn hm hf ht hT h1 h3 hM h7 h6 hc
    obtain ⟨n, rfl⟩ : ∃ k, n = k + 1 := ⟨n - 1, by omega⟩
    obtain ⟨m, rfl⟩ : ∃ k, m = k + 1 := ⟨m - 1, by omega⟩
    obtain ⟨u, hu, eu⟩ := hb t
    have hs := see_in hM hE (show t < E by omega)
    rw [eu, sc_k8 u hu] at hs
    by_cases ha : 48 ≤ u ∧ u ≤ 57
    · have en : T t = nI u := by rw [eu, bbn u (by omega)]
      rw [c_dstep hE (by omega) h1 h3 ((hT t).trans en) ha, m_dstep (by omega) hf h7 h6 hs ha]
      obtain ⟨t', S', M', g1, g2, g3, g4, g5, g6, g7, g8, g9, g10, g11, g12, g13, g14⟩ := ih (t + 1) n m (xpi (xpi S 2 5 (xgi S 2 5 * 10 + (nI u - 48))) 2 3 (nI (t + 1))) (xpi (xpl M 0 10 (if t - f < 6 then 10 * xgl M 0 10 + (nI u).toInt64 - 48 else xgl M 0 10)) 0 7 (nI (t + 1))) (by omega) (by omega) (by omega) (by omega) (by omega) (fun j => hT j) h1 rfl (hM.fm (FM.pl.tr (FM.pi (by decide) (by decide)))) rfl h6 (by
          intro h9
          obtain ⟨k, k1, k2, k3⟩ := hc (by omega)
          refine ⟨k * 10 + (u - 48), ?_, ?_, ?_⟩
          · rw [show t + 1 - f = (t - f) + 1 by omega, Nat.pow_succ]
            omega
          · show xgi S 2 5 * 10 + (nI u - 48) = _
            rw [k2, show (10 : Int32) = nI 10 from rfl, show (48 : Int32) = nI 48 from rfl, pk_mul, pk_sub ha.1, nI_add]
          · rw [gli, gll, if_pos ⟨rfl, rfl⟩, if_pos (by omega), k3, nI_l (by omega), show (10 : Int64) = lN 10 from rfl, show (48 : Int64) = lN 48 from rfl, lN_mul, lN_add, lN_sub (by omega)]
            congr 1
            omega)
      exact ⟨t', S', M', by omega, g2, g3, g4, ((FS.pi (by decide) (by decide)).tr (FS.pi (by decide) (by decide))).tr g5, (FM.pl.tr (FM.pi (by decide) (by decide))).tr g6, g7, g8, g9, g10, g11, g12, fun _ _ _ _ => by omega, g14⟩
    · have e1 : f_WO_reckon_5 (n + 1) S = some S := c_dend hE (by omega) h1 h3 ((hT t).trans eu) hu ha
      have e2 := m_dend (m := m) (by omega : t < 2 ^ 31) hf h7 h6 hs (dig_n hu (by omega))
      have hna : ∀ w, t < E → T t = nI w → 48 ≤ w ∧ w ≤ 57 → t < t := by
        intro w _ e9 hw
        exfalso
        rw [eu] at e9
        have e8 := congrArg (· &&& (255 : Int32)) e9
        simp only [sc_k8 u hu] at e8
        rw [← bbn w (by omega)] at e8
        rw [sc_k8 w (by omega)] at e8
        rw [nI_eq (by omega) (by omega)] at e8
        omega
      by_cases h9 : t - f ≤ 6
      · rw [if_pos h9] at e2
        exact ⟨t, S, _, Nat.le_refl _, ht, e1, e2, FS.rf, FM.pi (by decide) (by decide), rfl, rfl, h3, h7, h6, rfl, hna, Or.inl ⟨h9, hc h9, rfl⟩⟩
      · rw [if_neg h9] at e2
        exact ⟨t, S, _, Nat.le_refl _, ht, e1, e2, FS.rf, FM.pi (by decide) (by decide), rfl, rfl, h3, h7, h6, rfl, hna, Or.inr ⟨by omega, rfl⟩⟩
/-! the sort of a word by its first byte -/
def SG : List Nat := [123, 125, 59, 58, 46, 44, 62]
def cix : List Int32 → Int32 → Nat → Int32
  | [], _, _ => -1
  | c :: l, v, i => if c = v then nI i else cix l v (i + 1)
def SGB : List Int32 := [123, 125, 59, 58, 46, 44, 62]
theorem ix_c {S : XS} (c : Int32) : ∀ (d i n : Nat), 7 - i = d → i ≤ 7 → d < n → f_JL_indexOfChar_7 n S 0 7 c (nI i) = some (cix (SGB.drop i) c i) := by
  intro d
  induction d with
  | zero =>
    intro i n h1 h2 h3
    obtain ⟨n, rfl⟩ : ∃ k, n = k + 1 := ⟨n - 1, by omega⟩
    rw [show i = 7 by omega]
    rfl
  | succ d ih =>
    intro i n h1 h2 h3
    obtain ⟨n, rfl⟩ : ∃ k, n = k + 1 := ⟨n - 1, by omega⟩
    have hi : i < SGB.length := by show i < 7; omega
    rw [List.drop_eq_getElem_cons hi]
    unfold f_JL_indexOfChar_7 cix
    rw [if_neg (by rw [ge_lit (x := 7) (n := 7) (by omega) (by omega) rfl]; omega), if_pos (by decide), if_pos (by show ¬ (nI i < 0 ∨ 7 ≤ (nI i).toNatClampNeg); exact nI_in (by omega) (by omega)), nI_clamp (by omega), nI_1, ih (i + 1) n (by omega) (by omega) (by omega)]
    have e : (xbyt.getD 0 []).getD i 0 = SGB[i] := by
      show SGB.getD i 0 = _
      rw [List.getD_eq_getElem?_getD, List.getElem?_eq_getElem hi, Option.getD_some]
    rw [e]
    split <;> rfl
theorem cix_SG : ∀ u, u < 256 → (cix SGB (nI u).toInt8.toInt32 0 < 0 ↔ ¬ u ∈ SG) := by decide +kernel
theorem ix_of {S : XS} {u : Nat} (hu : u < 256) : f_JS_indexOf1 S 0 (nI u) = some (cix SGB (nI u).toInt8.toInt32 0) := by
  have h := ix_c (S := S) (nI u).toInt8.toInt32 7 0 4096 rfl (by omega) (by omega)
  unfold f_JS_indexOf1 f_JS_indexOf0
  rw [if_pos (by decide), if_pos (by decide)]
  show ((((f_JL_indexOf S 0 (nI u) 0 7).bind fun q9 => some q9)).bind fun q3 => some q3) = _
  rw [xb_id, xb_id]
  unfold f_JL_indexOf f_JL_canEncode
  rw [if_neg (nI_pos (by omega)), if_neg (by rw [gt_lit (x := 255) (n := 255) (by omega) (by omega) rfl]; omega)]
  show (f_JL_indexOfChar_7 4096 S 0 7 (nI u).toInt8.toInt32 0).bind (fun q5 => some q5) = _
  rw [xb_id]
  exact h
theorem kind_of {S : XS} {u : Nat} (hu : u < 256) : f_WO_kindOf S (nI u).toInt8.toInt32 = some (if 97 ≤ u ∧ u ≤ 122 then 1 else if 48 ≤ u ∧ u ≤ 57 then 2 else if u ∈ SG then 3 else 4) := by
  have h28 : f_WO_kindOf_28 S (nI u).toInt8.toInt32 = some (if u ∈ SG then 3 else 4) := by
    unfold f_WO_kindOf_28
    rw [sc_c2, sc_k8 u hu, ix_of hu]
    simp only [Option.bind_some, cix_SG u hu]
    by_cases h : u ∈ SG
    · rw [if_neg (by simpa using h), if_pos h]
    · rw [if_pos h, if_neg h]
  have h14 : ¬ (97 ≤ u ∧ u ≤ 122) → f_WO_kindOf_14 S (nI u).toInt8.toInt32 = some (if 48 ≤ u ∧ u ≤ 57 then 2 else if u ∈ SG then 3 else 4) := by
    intro h0
    unfold f_WO_kindOf_14
    simp only [bb48 u hu, bb57 u hu, h28]
    by_cases h : 48 ≤ u ∧ u ≤ 57
    · rw [if_neg (by omega), if_neg (by omega), if_pos h]
    · rw [if_neg h]
      by_cases h2 : u < 48 ∨ 128 ≤ u
      · rw [if_pos h2]
      · rw [if_neg h2]
        by_cases h3 : 57 < u ∧ u < 128
        · rw [if_pos h3]
        · omega
  unfold f_WO_kindOf
  simp only [bb97 u hu, bb122 u hu]
  by_cases h : 97 ≤ u ∧ u ≤ 122
  · rw [if_neg (by omega), if_neg (by omega), if_pos h]
  · rw [if_neg h]
    by_cases h2 : u < 97 ∨ 128 ≤ u
    · rw [if_pos h2, h14 h]
    · rw [if_neg h2, if_pos (by omega), h14 h]
