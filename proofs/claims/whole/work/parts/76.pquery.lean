/-! channels and windows; the start -/
section Qv
variable {S M : XS}
theorem neg_lt {b : Int32} (h : b < 0) (n : Nat) (hn : n < 2 ^ 31) {x : Int32} (hx : x = nI n) : b < x ∧ ¬ b = x := by
  subst hx
  refine ⟨?_, fun e => nI_pos hn (by rw [← e]; exact h)⟩
  have := nI_toInt hn
  rw [Int32.lt_iff_toInt_lt] at h ⊢
  have h0 : (0 : Int32).toInt = 0 := by decide
  omega
theorem r_channel (h : RL S M) (a b : Int32) : ∃ r M', f_CT_channel S a b = some r ∧ f_MO_channel M a b = some (r, M') ∧ RL S M' := by
  have key : ∃ r, f_CT_channel S a b = some r ∧ f_MO_channel M a b = some (r, xpi M 0 0 0) := by
    have e29 : xgi (xpi M 0 0 0) 0 29 = xgi M 0 29 := rfl
    have em : ∀ i j, ¬ i = 0 → xgi (xpi M 0 0 0) i j = xgi M i j := fun i j q => by rw [gii, if_neg (by omega)]
    unfold f_CT_channel f_MO_channel
    rw [e29]
    simp only [em 18 _ (by decide), em 19 _ (by decide), em 20 _ (by decide), em 21 _ (by decide), em 22 _ (by decide)]
    rcases h.two with ⟨q0, -, q29, -⟩ | ⟨q0, np, nc, nw, hP⟩
    · rw [if_pos q0, q29]
      refine ⟨-1, rfl, ?_⟩
      by_cases h0 : a < 0
      · rw [if_pos h0]
      · rw [if_neg h0, if_neg h0]
    · rw [if_neg (by rw [q0]; decide), xb_id]
      have hnc := hP.2.2.2.2.1
      have hrow := h.row 173 (Or.inl rfl)
      rw [hP.2.2.2.2.2.2.2.1]
      rcases ro_get (S := S) (r := 173) (m := 16) (w := 8) (c := nc) (Or.inl rfl) rfl rfl hrow.2 hP.2.2.2.2.2.2.1 hnc (by decide) (by decide) a b with ⟨i, j, y1, y2, rfl, rfl, y5⟩ | ⟨y1, y2⟩
      · rw [y5, if_neg (nI_pos (by omega)), if_pos (nI_lt y1 (by omega))]
        refine ⟨_, rfl, ?_⟩
        obtain ⟨c1, c2, c3, g, c4, c5, c6, c7⟩ := hP.2.2.2.2.2.1 i y1
        have z0 : (nI j = 0) = (j = 0) := eq_lit (by omega) (by omega) rfl
        have z1 : (nI j = 1) = (j = 1) := eq_lit (by omega) (by omega) rfl
        have z2 : (nI j = 2) = (j = 2) := eq_lit (by omega) (by omega) rfl
        have z3 : (nI j = 3) = (j = 3) := eq_lit (by omega) (by omega) rfl
        have l4 : (nI j < 4) = (j < 4) := lt_lit (by omega) (by omega) rfl
        simp only [z0, z1, z2, z3, l4, if_pos (nI_inn (show i < 16 by omega) (show 16 < 2 ^ 31 by omega)), nI_clamp (show i < 2 ^ 31 by omega)]
        by_cases j0 : j = 0
        · rw [if_pos j0, j0, Nat.mul_comm i 8]
          exact congrArg (fun y => some (y, xpi M 0 0 0)) c1.symm
        · by_cases j1 : j = 1
          · rw [if_neg j0, if_pos j1, j1, Nat.mul_comm i 8]
            exact congrArg (fun y => some (y, xpi M 0 0 0)) c2.symm
          · by_cases j2 : j = 2
            · rw [if_neg j0, if_neg j1, if_pos j2, j2, Nat.mul_comm i 8]
              exact congrArg (fun y => some (y, xpi M 0 0 0)) c3.symm
            · by_cases j3 : j = 3
              · rw [if_neg j0, if_neg j1, if_neg j2, if_pos j3, j3, Nat.mul_comm i 8]
                exact congrArg (fun y => some (y, xpi M 0 0 0)) (c6.trans c5.symm)
              · have e4 : nI j - 4 = nI (j - 4) := by rw [show (4 : Int32) = nI 4 from rfl, pk_sub (by omega)]
                rw [if_neg j0, if_neg j1, if_neg j2, if_neg j3, if_neg (by omega), e4, c6]
                have lg : (nI (j - 4) < nI g) = (j - 4 < g) := propext (nI_ltI (by omega) (by omega))
                have c7' := c7 (j - 4) (by omega)
                rw [show 8 * i + 4 + (j - 4) = i * 8 + j by omega] at c7'
                rw [show xgi S (173 + 2) (i * 8 + j) = _ from c7']
                by_cases hg : j - 4 < g
                · rw [if_pos (lg.mpr hg), if_pos hg, show (4 : Int32) = nI 4 from rfl, pk_mul, nI_add, pk_sub (by omega), if_pos (nI_in (by omega) (by omega)), nI_clamp (by omega), show 4 * i + j - 4 = 4 * i + (j - 4) by omega]
                · rw [if_neg (by rw [lg]; exact hg), if_neg hg]
      · rw [y1]
        refine ⟨-1, rfl, ?_⟩
        by_cases h0 : a < 0
        · rw [if_pos h0]
        · rw [if_neg h0]
          by_cases h1 : a < nI nc
          · rw [if_pos h1]
            obtain ⟨i, hi, rfl⟩ := nI_of h0
            rw [nI_ltI hi (by omega)] at h1
            obtain ⟨c1, c2, c3, g, c4, c5, c6, c7⟩ := hP.2.2.2.2.2.1 i h1
            simp only [if_pos (nI_inn (show i < 16 by omega) (show 16 < 2 ^ 31 by omega)), nI_clamp (show i < 2 ^ 31 by omega)]
            have hb : b < 0 ∨ nI 8 ≤ b := by
              rcases y2 with y2 | y2 | y2 | y2
              · exact absurd y2 h0
              · rw [nI_leI (by omega) (by omega)] at y2; omega
              · exact Or.inl y2
              · exact Or.inr y2
            rcases hb with hb | hb
            · rw [if_neg (neg_lt hb 0 (by omega) (x := 0) rfl).2, if_neg (neg_lt hb 1 (by omega) (x := 1) rfl).2, if_neg (neg_lt hb 2 (by omega) (x := 2) rfl).2, if_neg (neg_lt hb 3 (by omega) (x := 3) rfl).2, if_pos (neg_lt hb 4 (by omega) (x := 4) rfl).1]
            · have hb0 : ¬ b < 0 := fun hb0 => by
                have := (neg_lt hb0 8 (by omega) (x := nI 8) rfl).1
                exact absurd hb (Int32.not_le.mpr this)
              obtain ⟨z, hz, rfl⟩ := nI_of hb0
              rw [nI_leI (by omega) hz] at hb
              have e4 : nI z - 4 = nI (z - 4) := by rw [show (4 : Int32) = nI 4 from rfl, pk_sub (by omega)]
              rw [if_neg (by rw [eq_lit (x := 0) (n := 0) hz (by omega) rfl]; omega), if_neg (by rw [eq_lit (x := 1) (n := 1) hz (by omega) rfl]; omega), if_neg (by rw [eq_lit (x := 2) (n := 2) hz (by omega) rfl]; omega), if_neg (by rw [eq_lit (x := 3) (n := 3) hz (by omega) rfl]; omega), if_neg (by rw [lt_lit (x := 4) (n := 4) hz (by omega) rfl]; omega), e4, c6, if_neg (nI_nlt (by omega) (by omega))]
          · rw [if_neg h1]
  obtain ⟨r, e1, e2⟩ := key
  exact ⟨r, _, e1, e2, h.m00⟩
theorem r_window (h : RL S M) (a b : Int32) : ∃ r M', f_CT_window S a b = some r ∧ f_MO_window M a b = some (r, M') ∧ RL S M' := by
  have key : ∃ r, f_CT_window S a b = some r ∧ f_MO_window M a b = some (r, xpi M 0 0 0) := by
    have e30 : xgi (xpi M 0 0 0) 0 30 = xgi M 0 30 := rfl
    have em : ∀ i j, ¬ i = 0 → xgi (xpi M 0 0 0) i j = xgi M i j := fun i j q => by rw [gii, if_neg (by omega)]
    unfold f_CT_window f_MO_window
    rw [e30]
    simp only [em 23 _ (by decide), em 24 _ (by decide)]
    rcases h.two with ⟨q0, -, -, q30, -⟩ | ⟨q0, np, nc, nw, hP⟩
    · rw [if_pos q0, q30]
      refine ⟨-1, rfl, ?_⟩
      by_cases h0 : a < 0
      · rw [if_pos h0]
      · rw [if_neg h0, if_neg h0]
    · rw [if_neg (by rw [q0]; decide), xb_id]
      obtain ⟨h1, h2, h3, h4, h5, h6, h7, h8, h9, h10, h11, h12, h13, h14, h15⟩ := hP
      have hrow := h.row 176 (Or.inr (Or.inl rfl))
      rw [h13]
      rcases ro_get (S := S) (r := 176) (m := 16) (w := 2) (c := nw) (Or.inr (Or.inl rfl)) rfl rfl hrow.2 h12 h11 (by decide) (by decide) a b with ⟨i, j, y1, y2, rfl, rfl, y5⟩ | ⟨y1, y2⟩
      · rw [y5, if_neg (nI_pos (by omega)), if_pos (nI_lt y1 (by omega))]
        refine ⟨_, rfl, ?_⟩
        obtain ⟨c1, c2⟩ := h15 i y1
        have z0 : (nI j = 0) = (j = 0) := eq_lit (by omega) (by omega) rfl
        have z1 : (nI j = 1) = (j = 1) := eq_lit (by omega) (by omega) rfl
        simp only [z0, z1, if_pos (nI_inn (show i < 16 by omega) (show 16 < 2 ^ 31 by omega)), nI_clamp (show i < 2 ^ 31 by omega)]
        by_cases j0 : j = 0
        · rw [if_pos j0, j0, Nat.mul_comm i 2]
          exact congrArg (fun y => some (y, xpi M 0 0 0)) c1.symm
        · have j1 : j = 1 := by omega
          rw [if_neg j0, if_pos j1, j1, Nat.mul_comm i 2]
          exact congrArg (fun y => some (y, xpi M 0 0 0)) c2.symm
      · rw [y1]
        refine ⟨-1, rfl, ?_⟩
        by_cases h0 : a < 0
        · rw [if_pos h0]
        · rw [if_neg h0]
          by_cases hw : a < nI nw
          · rw [if_pos hw]
            obtain ⟨i, hi, rfl⟩ := nI_of h0
            rw [nI_ltI hi (by omega)] at hw
            have hb : b < 0 ∨ nI 2 ≤ b := by
              rcases y2 with y2 | y2 | y2 | y2
              · exact absurd y2 h0
              · rw [nI_leI (by omega) (by omega)] at y2; omega
              · exact Or.inl y2
              · exact Or.inr y2
            rcases hb with hb | hb
            · rw [if_neg (neg_lt hb 0 (by omega) (x := 0) rfl).2, if_neg (neg_lt hb 1 (by omega) (x := 1) rfl).2]
            · have hb0 : ¬ b < 0 := fun hb0 => by
                have := (neg_lt hb0 2 (by omega) (x := nI 2) rfl).1
                exact absurd hb (Int32.not_le.mpr this)
              obtain ⟨z, hz, rfl⟩ := nI_of hb0
              rw [nI_leI (by omega) hz] at hb
              rw [if_neg (by rw [eq_lit (x := 0) (n := 0) hz (by omega) rfl]; omega), if_neg (by rw [eq_lit (x := 1) (n := 1) hz (by omega) rfl]; omega)]
          · rw [if_neg hw]
  obtain ⟨r, e1, e2⟩ := key
  exact ⟨r, _, e1, e2, h.m00⟩
theorem r_load (h : RL S M) : ∃ q b M', f_CT_load S = some q ∧ f_MO_load M = some (b, M') ∧ ((∃ S', q = .inl (b, S') ∧ xgi M' 0 0 = 0 ∧ RL S' M') ∨ (∃ S', q = .inr S' ∧ xgi M' 0 0 = 1 ∧ RL S' M')) := by
  obtain ⟨⟨b, M'⟩, e1, ⟨a, S', e2, e3, e4, e5⟩ | ⟨S', e2, e3, e4⟩⟩ := s_load h
  · exact ⟨_, b, M', e2, e1, Or.inl ⟨S', by rw [show b = a from e3], e4, e5⟩⟩
  · exact ⟨_, b, M', e2, e1, Or.inr ⟨S', rfl, e3, e4⟩⟩
theorem r_start : RL S0 M0 := by
  refine ⟨fun _ => 0, fun j => ⟨0, by omega, by show (0 : Int32) = _; decide⟩, fun j => rfl, fun j => rfl, fun i hi => ⟨?_, ?_⟩, ⟨fun j => rfl, fun j => rfl, fun j => rfl⟩, ⟨0, by omega, rfl, rfl⟩, rfl, rfl, Or.inl ⟨rfl, rfl, rfl, rfl, rfl, rfl, rfl⟩⟩
  · show z0 i 0 = _
    unfold z0
    rw [if_neg (by omega), if_neg (by omega), if_pos hi, if_pos rfl]
  · show z0 i 1 = _
    unfold z0
    rw [if_neg (by omega), if_neg (by omega), if_pos hi, if_neg (by omega), if_pos rfl]
end Qv
