/-! put and the questions -/
theorem by_of (z : Int32) : ∃ u : Nat, u < 256 ∧ z.toInt8.toInt32 = (nI u).toInt8.toInt32 := by
  have key : ∀ n, n < 256 → (Int8.ofNat n).toInt32 = (nI n).toInt8.toInt32 := by decide +kernel
  have e : z.toInt8 = Int8.ofNat z.toInt8.toBitVec.toNat := by
    rw [← Int8.toBitVec_inj]
    simp
  have hlt : z.toInt8.toBitVec.toNat < 256 := z.toInt8.toBitVec.isLt
  exact ⟨_, hlt, by rw [← key _ hlt, ← e]⟩
section Qu
variable {S M S' M' : XS}
theorem RL.m00 {a : Int32} (h : RL S M) : RL S (xpi M 0 0 a) := by
  obtain ⟨T, h1, h2, h3, h4, h5, ⟨L, h6⟩, h7, h8, h9⟩ := h
  refine ⟨T, h1, h2, h3, h4, h5, ⟨L, h6⟩, h7, h8, ?_⟩
  rcases h9 with q | ⟨q, np, nc, nw, hP⟩
  · exact Or.inl q
  · exact Or.inr ⟨q, np, nc, nw, hP.cg (fun _ _ _ => rfl) (fun _ _ _ => rfl) (fun i j hi => by rw [gii, if_neg (by omega)]) (fun j hj => by rw [gii, if_neg (by omega)]) (fun _ _ _ => rfl)⟩
theorem RL.put1 {L : Nat} {b : Int32} (h : RL S M) (hL : xgi S 0 1 = nI L) (hL2 : L < 2000) (hb : ∃ u : Nat, u < 256 ∧ b = (nI u).toInt8.toInt32) : RL (xpi (xpi S 1 L b) 0 1 (nI (L + 1))) (xpi (xpi M 4 L b) 0 5 (nI (L + 1))) := by
  obtain ⟨T, h1, h2, h3, h4, h5, ⟨L', h6⟩, h7, h8, h9⟩ := h
  refine ⟨fun j => if j = L then b else T j, fun j => ?_, fun j => ?_, fun j => ?_, fun i hi => ?_, h5, ⟨L + 1, by omega, rfl, rfl⟩, h7, h8, ?_⟩
  · by_cases e : j = L
    · simp only [if_pos e]; exact hb
    · simp only [if_neg e]; exact h1 j
  · rw [gii, if_neg (by omega), gii]
    show _ = if j = L then b else T j
    by_cases e : j = L
    · rw [if_pos ⟨rfl, e⟩, if_pos e]
    · rw [if_neg (by omega), if_neg e]; exact h2 j
  · rw [gii, if_neg (by omega), gii]
    show _ = if j = L then b else T j
    by_cases e : j = L
    · rw [if_pos ⟨rfl, e⟩, if_pos e]
    · rw [if_neg (by omega), if_neg e]; exact h3 j
  · rw [gii, if_neg (by omega), gii, if_neg (by omega), gii, if_neg (by omega), gii, if_neg (by omega)]
    exact h4 i hi
  · rcases h9 with ⟨q1, q2⟩ | ⟨q, np, nc, nw, hP⟩
    · exact Or.inl ⟨q1, q2⟩
    · exact Or.inr ⟨q, np, nc, nw, hP.cg (fun i j hi => by rw [gii, if_neg (by omega), gii, if_neg (by omega)]) (fun _ _ _ => rfl) (fun i j hi => by rw [gii, if_neg (by omega), gii, if_neg (by omega)]) (fun j hj => by rw [gii, if_neg (by omega), gii, if_neg (by omega)]) (fun _ _ _ => rfl)⟩
theorem put_l (v : Int64) : ∀ (k n m L : Nat) (S M : XS), k < n → k < m → L + k ≤ 2000 → xgi S 0 1 = nI L → RL S M → ∃ S' M', f_CT_put_29 n S v (nI k - 1) = some (1, S') ∧ f_MO_put_34 m M v (nI k - 1) = some (1, M') ∧ RL S' M' := by
  intro k
  induction k with
  | zero =>
    intro n m L S M hn hm hL h1 h
    obtain ⟨n, rfl⟩ : ∃ k, n = k + 1 := ⟨n - 1, by omega⟩
    obtain ⟨m, rfl⟩ : ∃ k, m = k + 1 := ⟨m - 1, by omega⟩
    refine ⟨S, M, ?_, ?_, h⟩
    · unfold f_CT_put_29
      rw [if_pos (by decide)]
    · unfold f_MO_put_34
      rw [if_pos (by decide)]
  | succ k ih =>
    intro n m L S M hn hm hL h1 h
    obtain ⟨n, rfl⟩ : ∃ k, n = k + 1 := ⟨n - 1, by omega⟩
    obtain ⟨m, rfl⟩ : ∃ k, m = k + 1 := ⟨m - 1, by omega⟩
    have h5 : xgi M 0 5 = nI L := by
      obtain ⟨T, -, -, -, -, -, ⟨L', q1, q2, q3⟩, -⟩ := h
      rw [h1] at q2
      rw [q3, ← q2]
    have hk : k < 2 ^ 31 := by omega
    unfold f_CT_put_29 f_MO_put_34
    rw [nI_pred, if_neg (nI_pos hk), if_neg (nI_pos hk), h1, h5, if_pos (nI_in (by omega) (by omega)), if_pos (nI_in (by omega) (by omega)), nI_clamp (by omega), pk_vb]
    have e1 : xgi (xpi S 1 L ((v >>> (((8 : Int32) * nI k).toInt64 &&& 63)).toInt32.toInt8.toInt32)) 0 1 = nI L := h1
    have e5 : xgi (xpi M 4 L ((v >>> (((8 : Int32) * nI k).toInt64 &&& 63)).toInt32.toInt8.toInt32)) 0 5 = nI L := h5
    rw [e1, e5, nI_1, show nI k + (-1) = nI k - 1 from (Int32.sub_eq_add_neg ..).symm]
    exact ih n m (L + 1) _ _ (by omega) (by omega) (by omega) rfl (h.put1 h1 (by omega) (by_of _))
theorem r_put (h : RL S M) (v : Int64) (n : Int32) : ∃ r S' M', f_CT_put S v n = some (r, S') ∧ f_MO_put M v n = some (r, M') ∧ RL S' M' := by
  obtain ⟨L, hL, q2, q3⟩ : ∃ L, L ≤ 2000 ∧ xgi S 0 1 = nI L ∧ xgi M 0 5 = nI L := by
    obtain ⟨T, -, -, -, -, -, q, -⟩ := h
    exact q
  unfold f_CT_put f_MO_put
  have e5 : xgi (xpi M 0 0 0) 0 5 = nI L := q3
  rw [q2, e5]
  by_cases h1 : n < 0
  · rw [if_pos h1, if_pos h1]
    exact ⟨0, S, _, rfl, rfl, h.m00⟩
  · rw [if_neg h1, if_neg h1]
    obtain ⟨j, hj, rfl⟩ := nI_of h1
    by_cases h2 : (8 : Int32) < nI j
    · rw [if_pos h2, if_pos h2]
      exact ⟨0, S, _, rfl, rfl, h.m00⟩
    · rw [if_neg h2, if_neg h2]
      rw [gt_lit (x := 8) (n := 8) hj (by omega) rfl] at h2
      have q9 : (nI L + nI j ≤ 2000) = (L + j ≤ 2000) := by rw [nI_add]; exact le_lit (by omega) (by omega) rfl
      by_cases h3 : L + j ≤ 2000
      · rw [if_pos (q9.mpr h3), if_pos (q9.mpr h3)]
        obtain ⟨S', M', e1, e2, e3⟩ := put_l v j 4096 4096 L S (xpi M 0 0 0) (by omega) (by omega) h3 q2 h.m00
        exact ⟨1, S', M', e1, e2, e3⟩
      · rw [if_neg (by rw [q9]; exact h3), if_neg (by rw [q9]; exact h3)]
        exact ⟨0, S, _, rfl, rfl, h.m00⟩
theorem r_fault (h : RL S M) (a : Int32) : ∃ r M', f_CT_fault S a = some r ∧ f_MO_fault M a = some (r, M') ∧ RL S M' := by
  have h7 : xgi S 2 7 = xgi M 0 13 := by obtain ⟨T, -, -, -, -, -, -, q, -⟩ := h; exact q
  have h8 : xgi S 2 8 = xgi M 0 14 := by obtain ⟨T, -, -, -, -, -, -, -, q, -⟩ := h; exact q
  unfold f_CT_fault f_MO_fault
  by_cases h0 : a = 0
  · rw [if_pos h0, if_pos h0]
    exact ⟨_, _, rfl, by rw [h7]; rfl, h.m00⟩
  · rw [if_neg h0, if_neg h0]
    by_cases h1 : a = 1
    · rw [if_pos h1, if_pos h1]
      exact ⟨_, _, rfl, by rw [h8]; rfl, h.m00⟩
    · rw [if_neg h1, if_neg h1]
      exact ⟨_, _, rfl, rfl, h.m00⟩
theorem RL.two (h : RL S M) : (xgi S 0 5 = 0 ∧ xgi M 0 15 = 0 ∧ xgi M 0 29 = 0 ∧ xgi M 0 30 = 0 ∧ xgi M 0 31 = 0 ∧ xgi M 0 32 = 0 ∧ xgi M 0 33 = 0) ∨ (xgi S 0 5 = 1 ∧ ∃ np nc nw, P3 np nc nw S M) := by
  obtain ⟨T, -, -, -, -, -, -, -, -, q⟩ := h
  exact q
theorem RL.row (h : RL S M) : ∀ i, xR i → xgi S i 0 = nI (xMost i) ∧ xgi S i 1 = nI (xWid i) := by
  obtain ⟨T, -, -, -, q, -⟩ := h
  exact q
theorem r_size (h : RL S M) (a : Int32) : ∃ r M', f_CT_size S a = some r ∧ f_MO_size M a = some (r, M') ∧ RL S M' := by
  have key : ∃ r, f_CT_size S a = some r ∧ f_MO_size M a = some (r, xpi M 0 0 0) := by
    unfold f_CT_size f_MO_size
    by_cases h0 : a < 0
    · have n0 : ¬ a = 0 := fun e => by rw [e] at h0; exact absurd h0 (by decide)
      have n1 : ¬ a = 1 := fun e => by rw [e] at h0; exact absurd h0 (by decide)
      have n2 : ¬ a = 2 := fun e => by rw [e] at h0; exact absurd h0 (by decide)
      have n3 : ¬ a = 3 := fun e => by rw [e] at h0; exact absurd h0 (by decide)
      have n4 : ¬ a = 4 := fun e => by rw [e] at h0; exact absurd h0 (by decide)
      have n5 : ¬ a = 5 := fun e => by rw [e] at h0; exact absurd h0 (by decide)
      rw [if_pos h0, if_neg n0, if_neg n1, if_neg n2, if_neg n3, if_neg n4, if_neg n5]
      exact ⟨_, rfl, rfl⟩
    · rw [if_neg h0]
      obtain ⟨z, hz, rfl⟩ := nI_of h0
      have l5 : (nI z ≤ 5) = (z ≤ 5) := le_lit hz (by omega) rfl
      have z0 : (nI z = 0) = (z = 0) := eq_lit hz (by omega) rfl
      have z1 : (nI z = 1) = (z = 1) := eq_lit hz (by omega) rfl
      have z2 : (nI z = 2) = (z = 2) := eq_lit hz (by omega) rfl
      have z3 : (nI z = 3) = (z = 3) := eq_lit hz (by omega) rfl
      have z4 : (nI z = 4) = (z = 4) := eq_lit hz (by omega) rfl
      have z5 : (nI z = 5) = (z = 5) := eq_lit hz (by omega) rfl
      simp only [l5, z0, z1, z2, z3, z4, z5]
      by_cases h5 : z ≤ 5
      · rw [if_pos h5]
        rcases h.two with ⟨q0, q15, q29, q30, q31, q32, q33⟩ | ⟨q0, np, nc, nw, hP⟩
        · rw [if_pos q0]
          refine ⟨0, rfl, ?_⟩
          have : z = 0 ∨ z = 1 ∨ z = 2 ∨ z = 3 ∨ z = 4 ∨ z = 5 := by omega
          rcases this with rfl | rfl | rfl | rfl | rfl | rfl
          · exact congrArg (fun y => some (y, xpi M 0 0 0)) q15
          · exact congrArg (fun y => some (y, xpi M 0 0 0)) q29
          · exact congrArg (fun y => some (y, xpi M 0 0 0)) q30
          · exact congrArg (fun y => some (y, xpi M 0 0 0)) q32
          · exact congrArg (fun y => some (y, xpi M 0 0 0)) q33
          · exact congrArg (fun y => some (y, xpi M 0 0 0)) q31
        · rw [if_neg (by rw [q0]; decide), xb_id]
          obtain ⟨h1, h2, h3, h4, h5', h6, h7, h8, h9, h10, h11, h12, h13, h14, h15⟩ := hP
          have : z = 0 ∨ z = 1 ∨ z = 2 ∨ z = 3 ∨ z = 4 ∨ z = 5 := by omega
          rcases this with rfl | rfl | rfl | rfl | rfl | rfl
          · exact ⟨_, rfl, congrArg (fun y => some (y, xpi M 0 0 0)) (h4.trans h3.symm)⟩
          · exact ⟨_, rfl, congrArg (fun y => some (y, xpi M 0 0 0)) (h8.trans h7.symm)⟩
          · exact ⟨_, rfl, congrArg (fun y => some (y, xpi M 0 0 0)) (h13.trans h12.symm)⟩
          · exact ⟨_, rfl, congrArg (fun y => some (y, xpi M 0 0 0)) h9.symm⟩
          · exact ⟨_, rfl, congrArg (fun y => some (y, xpi M 0 0 0)) h10.symm⟩
          · exact ⟨_, rfl, congrArg (fun y => some (y, xpi M 0 0 0)) h14.symm⟩
      · rw [if_neg h5, if_neg (by omega), if_neg (by omega), if_neg (by omega), if_neg (by omega), if_neg (by omega), if_neg (by omega)]
        exact ⟨_, rfl, rfl⟩
  obtain ⟨r, e1, e2⟩ := key
  exact ⟨r, _, e1, e2, h.m00⟩
/-- the partition that is asked for -/
theorem pa_at (h : RL S M) (a : Int32) : (f_CT_partitionAt S a = some none ∧ (a < 0 ∨ xgi M 0 15 ≤ a)) ∨ (∃ k, k < 8 ∧ a = nI k ∧ f_CT_partitionAt S a = some (some (5 + 21 * k)) ∧ PF k S M ∧ ¬ xgi M 0 15 ≤ a) := by
  unfold f_CT_partitionAt f_CF_partitionAt
  rcases h.two with ⟨q0, q15, -⟩ | ⟨q0, np, nc, nw, hP⟩
  · rw [if_pos q0, q15]
    refine Or.inl ⟨rfl, ?_⟩
    by_cases h1 : a < 0
    · exact Or.inl h1
    · exact Or.inr (Int32.not_lt.mp h1)
  · rw [if_neg (by rw [q0]; decide), hP.2.2.1, hP.2.2.2.1]
    by_cases h1 : a < 0
    · rw [if_pos h1]
      exact Or.inl ⟨rfl, Or.inl h1⟩
    · rw [if_neg h1]
      by_cases h2 : nI np ≤ a
      · rw [if_pos h2]
        exact Or.inl ⟨rfl, Or.inr h2⟩
      · rw [if_neg h2]
        obtain ⟨k, hk, rfl⟩ := nI_of h1
        have hnp := hP.1
        rw [nI_leI (by omega) hk] at h2
        rw [if_pos (nI_in (by omega) (by omega)), nI_clamp (by omega)]
        exact Or.inr ⟨k, by omega, rfl, rfl, hP.2.1 k (by omega), nI_ge (by omega) (by omega)⟩
theorem r_partition (h : RL S M) (a b : Int32) : ∃ r M', f_CT_partition S a b = some r ∧ f_MO_partition M a b = some (r, M') ∧ RL S M' := by
  have key : ∃ r, f_CT_partition S a b = some r ∧ f_MO_partition M a b = some (r, xpi M 0 0 0) := by
    have e15 : xgi (xpi M 0 0 0) 0 15 = xgi M 0 15 := rfl
    unfold f_CT_partition f_MO_partition
    rw [e15]
    rcases pa_at h a with ⟨e1, e2⟩ | ⟨k, hk, rfl, e1, hF, e2⟩
    · rw [e1]
      refine ⟨-1, rfl, ?_⟩
      rcases e2 with e2 | e2
      · rw [if_pos e2]
      · by_cases a0 : a < 0
        · rw [if_pos a0]
        · rw [if_neg a0, if_pos e2]
    · rw [e1, Option.bind_some, if_neg (nI_pos (by omega)), if_neg e2]
      show ∃ r, (if xP (5 + 21 * k) then _ else _) = some r ∧ _
      rw [if_pos (cpP hk), xb_id]
      obtain ⟨hB, hM, n, c, so, ix, hT⟩ := hF
      unfold f_PA_get f_PA_get_32
      simp only [if_pos (cpP hk)]
      by_cases h0 : b < 0
      · have n0 : ¬ b = 0 := fun e => by rw [e] at h0; exact absurd h0 (by decide)
        have n1 : b < 1 := by
          rw [Int32.lt_iff_toInt_lt] at h0 ⊢
          have : (1 : Int32).toInt = 1 := by decide
          have : (0 : Int32).toInt = 0 := by decide
          omega
        have n7 : ¬ b = 7 := fun e => by rw [e] at h0; exact absurd h0 (by decide)
        have n8 : b < 8 := by
          rw [Int32.lt_iff_toInt_lt] at h0 ⊢
          have : (8 : Int32).toInt = 8 := by decide
          have : (0 : Int32).toInt = 0 := by decide
          omega
        rw [if_neg n0, if_pos n1, if_neg n7, if_pos n8, if_pos h0]
        exact ⟨_, rfl, rfl⟩
      · obtain ⟨z, hz, rfl⟩ := nI_of h0
        rw [if_neg h0]
        have l11 : (nI z ≤ 11) = (z ≤ 11) := le_lit hz (by omega) rfl
        have l12 : ((12 : Int32) ≤ nI z) = (12 ≤ z) := ge_lit hz (by omega) rfl
        have l7 : ((7 : Int32) ≤ nI z) = (7 ≤ z) := ge_lit hz (by omega) rfl
        have l1 : (nI z < 1) = (z < 1) := lt_lit hz (by omega) rfl
        have l8 : (nI z < 8) = (z < 8) := lt_lit hz (by omega) rfl
        have l6 : ((6 : Int32) < nI z) = (6 < z) := gt_lit hz (by omega) rfl
        have z0 : (nI z = 0) = (z = 0) := eq_lit hz (by omega) rfl
        have z7 : (nI z = 7) = (z = 7) := eq_lit hz (by omega) rfl
        simp only [l11, l12, l7, l1, l8, l6, z0, z7]
        by_cases h11 : z ≤ 11
        · rw [if_pos h11]
          by_cases hz0 : z = 0
          · rw [if_pos hz0, if_pos hz0, if_pos (nI_in hk (by omega)), nI_clamp (by omega)]
            exact ⟨_, rfl, by rw [hM]; rfl⟩
          · rw [if_neg hz0, if_neg hz0, if_neg (c := z < 1) (by omega)]
            by_cases hz6 : z ≤ 6
            · have e1' : nI z - 1 = nI (z - 1) := by rw [show (1 : Int32) = nI 1 from rfl, pk_sub (by omega)]
              rw [if_neg (c := 6 < z) (by omega), e1', if_pos (nI_in (by omega) (by omega)), nI_clamp (by omega), rw_eq, if_pos (rwR hk (by omega)), if_neg (c := 7 ≤ z) (by omega), show (6 : Int32) = nI 6 from rfl, pk_mul, nI_add, show (1 : Int32) = nI 1 from rfl, pk_sub (by omega), if_pos (nI_in (by omega) (by omega)), nI_clamp (by omega)]
              refine ⟨_, rfl, ?_⟩
              have := hT.1 (z - 1) (by omega)
              rw [this.2.1]
              have e9 : xgi (xpi M 0 0 0) 10 (6 * k + z - 1) = nI (c (z - 1)) := by
                rw [gii, if_neg (by omega), show 6 * k + z - 1 = 6 * k + (z - 1) by omega]
                exact this.2.2
              rw [e9]
            · rw [if_pos (c := 6 < z) (by omega), if_pos (c := 7 ≤ z) (by omega)]
              by_cases hz7 : z = 7
              · rw [if_pos hz7, if_pos hz7, if_pos (nI_in hk (by omega)), nI_clamp (by omega)]
                exact ⟨_, rfl, by rw [hB.2.1]; rfl⟩
              · have e8 : nI z - 8 = nI (z - 8) := by rw [show (8 : Int32) = nI 8 from rfl, pk_sub (by omega)]
                rw [if_neg hz7, if_neg hz7, if_neg (c := z < 8) (by omega), if_neg (c := 12 ≤ z) (by omega), e8, if_pos (nI_in (by omega) (by omega)), nI_clamp (by omega), show (4 : Int32) = nI 4 from rfl, pk_mul, nI_add, show (8 : Int32) = nI 8 from rfl, pk_sub (by omega), if_pos (nI_in (by omega) (by omega)), nI_clamp (by omega)]
                refine ⟨_, rfl, ?_⟩
                have e9 : xgi (xpi M 0 0 0) 9 (4 * k + z - 8) = xgi S (5 + 21 * k + 1) (z - 8) := by
                  rw [gii, if_neg (by omega), show 4 * k + z - 8 = 4 * k + (z - 8) by omega, ← hB.2.2 (z - 8) (by omega), show 5 + 21 * k + 1 = 6 + 21 * k by omega]
                rw [e9]
        · rw [if_neg h11, if_neg (c := z = 0) (by omega), if_neg (c := z < 1) (by omega), if_pos (c := 6 < z) (by omega), if_neg (c := z = 7) (by omega), if_neg (c := z < 8) (by omega), if_pos (c := 12 ≤ z) (by omega)]
          exact ⟨_, rfl, rfl⟩
  obtain ⟨r, e1, e2⟩ := key
  exact ⟨r, _, e1, e2, h.m00⟩
/-- the reference's search for a thing -/
theorem mo_val {k n : Nat} {c so ix : Nat → Nat} (hk : k < 8) (hT : TH k n c so ix 1000 S M) {s v : Nat} (hs : s < 6) (hv : v < wd s) (num : Int32) : ∀ (d a m : Nat), n - a = d → a ≤ n → d < m → (f_MO_valueOf_32 m M (nI k) (nI s) num (nI v) (nI (40 * k + a)) = some (-1) ∧ ∀ q, a ≤ q → q < n → ¬ (so q = s ∧ nI (ix q) = num)) ∨ (∃ q, q < n ∧ so q = s ∧ nI (ix q) = num ∧ f_MO_valueOf_32 m M (nI k) (nI s) num (nI v) (nI (40 * k + a)) = some (xgi M 16 (5 * (40 * k + q) + v))) := by
  have hn := hT.n_le
  have hw := wd_le s
  intro d
  induction d with
  | zero =>
    intro a m hd ha hm
    obtain ⟨m, rfl⟩ : ∃ k, m = k + 1 := ⟨m - 1, by omega⟩
    refine Or.inl ⟨?_, fun q h1 h2 => by omega⟩
    unfold f_MO_valueOf_32
    rw [if_pos (nI_in hk (by omega)), nI_clamp (by omega), hT.2.2.1, show (40 : Int32) = nI 40 from rfl, pk_mul, nI_add, if_pos (nI_le (by omega) (by omega))]
  | succ d ih =>
    intro a m hd ha hm
    obtain ⟨m, rfl⟩ : ∃ k, m = k + 1 := ⟨m - 1, by omega⟩
    obtain ⟨t1, t2, t3, t4, t5⟩ := hT.2.2.2.1 a (by omega)
    unfold f_MO_valueOf_32
    rw [if_pos (nI_in hk (by omega)), nI_clamp (n := k) (by omega), hT.2.2.1, show (40 : Int32) = nI 40 from rfl, pk_mul, nI_add, if_neg (nI_ge (by omega) (by omega)), if_pos (nI_in (by omega) (by omega)), nI_clamp (n := 40 * k + a) (by omega), t3, t4, nI_1, if_pos (nI_inn (by omega) (by omega)), show (5 : Int32) = nI 5 from rfl, pk_mul, nI_add, if_pos (nI_in (by omega) (by omega)), nI_clamp (n := 5 * (40 * k + a) + v) (by omega)]
    have next := ih (a + 1) m (by omega) (by omega) (by omega)
    rw [show 40 * k + (a + 1) = 40 * k + a + 1 by omega] at next
    have go : ¬ (so a = s ∧ nI (ix a) = num) → (f_MO_valueOf_32 m M (nI k) (nI s) num (nI v) (nI (40 * k + a + 1)) = some (-1) ∧ ∀ q, a ≤ q → q < n → ¬ (so q = s ∧ nI (ix q) = num)) ∨ (∃ q, q < n ∧ so q = s ∧ nI (ix q) = num ∧ f_MO_valueOf_32 m M (nI k) (nI s) num (nI v) (nI (40 * k + a + 1)) = some (xgi M 16 (5 * (40 * k + q) + v))) := by
      intro hno
      rcases next with ⟨g1, g2⟩ | g
      · refine Or.inl ⟨g1, fun q h1 h2 => ?_⟩
        by_cases e : q = a
        · rw [e]; exact hno
        · exact g2 q (by omega) h2
      · exact Or.inr g
    by_cases e1 : so a = s
    · rw [if_pos (by rw [e1])]
      by_cases e2 : nI (ix a) = num
      · rw [if_pos e2]
        exact Or.inr ⟨a, by omega, e1, e2, rfl⟩
      · rw [if_neg e2]
        exact go (fun q => e2 q.2)
    · rw [if_neg (by rw [nI_eq (by omega) (by omega)]; exact e1)]
      exact go (fun q => e1 q.1)
theorem r_num (h : RL S M) {s : Nat} (hs : s < 6) {z z' many : Int32} (hz : z = nI s) (hz' : z' = nI s) (hm : many = nI (wd s)) (a b d : Int32) : ∃ r, f_CT_numberOf S a z b d = some r ∧ f_MO_valueOf (xpi M 0 0 0) a z' b d many = some r := by
  have h' : RL S (xpi M 0 0 0) := h.m00
  subst hz hz' hm
  unfold f_CT_numberOf f_MO_valueOf
  have hw := wd_le s
  rcases pa_at h' a with ⟨e1, e2⟩ | ⟨k, hk, rfl, e1, hF, e2⟩
  · rw [e1]
    refine ⟨-1, rfl, ?_⟩
    rcases e2 with e2 | e2
    · rw [if_pos e2]
    · by_cases a0 : a < 0
      · rw [if_pos a0]
      · rw [if_neg a0, if_pos e2]
  · rw [e1, Option.bind_some, if_neg (nI_pos (by omega)), if_neg e2]
    show ∃ r, (if xP (5 + 21 * k) then _ else _) = some r ∧ _
    rw [if_pos (cpP hk), if_pos (nI_in (by omega) (by omega)), nI_clamp (by omega), rw_eq, if_pos (rwR hk hs), xb_id]
    obtain ⟨-, -, n, c, so, ix, hT⟩ := hF
    have hrow := h.row _ (rwR hk hs)
    rw [(rwQ hk hs).1, (rwQ hk hs).2] at hrow
    have hc := hT.1 s hs
    have hms := ms_le s hs
    have hn := hT.n_le
    rcases ro_get (S := S) (rwR hk hs) (rwQ hk hs).1 (rwQ hk hs).2 hrow.2 hc.2.1 hc.1 (by omega) (by omega) b d with ⟨i, j, y1, y2, rfl, rfl, y5⟩ | ⟨y1, y2⟩
    · rw [y5, if_neg (nI_pos (by omega)), if_pos (nI_lt y2 (by omega)), show (40 : Int32) = nI 40 from rfl, pk_mul]
      have hmv := mo_val hk hT hs y2 (nI i) n 0 4096 rfl (by omega) (by omega)
      rw [Nat.add_zero] at hmv
      rcases hmv with ⟨g1, g2⟩ | ⟨q, g1, g2, g3, g4⟩
      · exfalso
        obtain ⟨q, q1, q2, q3⟩ := hT.2.2.2.2.2.1 s i hs y1
        exact g2 q (by omega) q1 ⟨q2, by rw [q3]⟩
      · have hq := (hT.2.2.2.1 q g1).2.1
        rw [g2] at hq
        rw [nI_eq (by omega) (by omega)] at g3
        refine ⟨_, rfl, ?_⟩
        rw [g4, ← hT.2.2.2.2.1 q g1 (by omega) j (by rw [g2]; exact y2), g2, g3]
    · rw [y1]
      refine ⟨-1, rfl, ?_⟩
      by_cases d0 : d < 0
      · rw [if_pos d0]
      · rw [if_neg d0]
        by_cases d1 : d < nI (wd s)
        · rw [if_pos d1, show (40 : Int32) = nI 40 from rfl, pk_mul]
          obtain ⟨j, hj, rfl⟩ := nI_of d0
          rw [nI_ltI hj (by omega)] at d1
          have hmv := mo_val hk hT hs d1 b n 0 4096 rfl (by omega) (by omega)
          rw [Nat.add_zero] at hmv
          rcases hmv with ⟨g1, g2⟩ | ⟨q, g1, g2, g3, g4⟩
          · exact g1
          · exfalso
            have hq := (hT.2.2.2.1 q g1).2.1
            rw [g2] at hq
            subst g3
            rcases y2 with y2 | y2 | y2 | y2
            · exact nI_pos (by omega) y2
            · rw [nI_leI (by omega) (by omega)] at y2; omega
            · exact nI_pos (by omega) y2
            · rw [nI_leI (by omega) (by omega)] at y2; omega
        · rw [if_neg d1]
theorem r_process (h : RL S M) (a b d : Int32) : ∃ r M', f_CT_process S a b d = some r ∧ f_MO_process M a b d = some (r, M') ∧ RL S M' := by
  obtain ⟨r, e1, e2⟩ := r_num h (s := 0) (z := 0) (z' := 0) (many := 5) (by decide) rfl rfl rfl a b d
  unfold f_CT_process f_MO_process
  rw [e1, e2]
  exact ⟨r, _, rfl, rfl, h.m00⟩
theorem r_thing (h : RL S M) (a s b d : Int32) : ∃ r M', f_CT_thing S a s b d = some r ∧ f_MO_thing M a s b d = some (r, M') ∧ RL S M' := by
  unfold f_CT_thing f_MO_thing
  by_cases h0 : s = 0
  · rw [if_pos h0, if_pos h0]
    obtain ⟨r, e1, e2⟩ := r_num h (s := 1) (z := 1) (z' := 1) (many := 2) (by decide) rfl rfl rfl a b d
    rw [e1, e2]
    exact ⟨r, _, rfl, rfl, h.m00⟩
  · rw [if_neg h0, if_neg h0]
    by_cases h1 : s = 1
    · rw [if_pos h1, if_pos h1]
      obtain ⟨r, e1, e2⟩ := r_num h (s := 3) (z := 3) (z' := 3) (many := 1) (by decide) rfl rfl rfl a b d
      rw [e1, e2]
      exact ⟨r, _, rfl, rfl, h.m00⟩
    · rw [if_neg h1, if_neg h1]
      by_cases h2 : s = 2
      · rw [if_pos h2, if_pos h2]
        obtain ⟨r, e1, e2⟩ := r_num h (s := 5) (z := 5) (z' := 5) (many := 3) (by decide) rfl rfl rfl a b d
        rw [e1, e2]
        exact ⟨r, _, rfl, rfl, h.m00⟩
      · rw [if_neg h2, if_neg h2]
        exact ⟨_, _, rfl, rfl, h.m00⟩
end Qu
