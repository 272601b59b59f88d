/-! processes -/
section Pr
variable {T : Nat → Int32} {E t0 t κ : Nat} {w : Int64} {p i ex N : Nat} {c so ix : Nat → Nat} {x : Nat → Int32} {S M : XS}
theorem HA.qg (h : HA p 0 i ex N c so ix x x S M) (hA : AL T E t κ w S M) (ht : t0 < t) (hm : IM p S M) : QG T E t0 p S M := ⟨⟨t, κ, w, ht, hA⟩, ⟨N, c, so, ix, h.done (fun _ _ => rfl)⟩, hm⟩
theorem s_159 (h : AL T E t κ w S M) (ht : t0 < t) (hH : HA p 0 i ex N c so ix x x S M) (hm : IM p S M) : SM (f_RD_readProcess_159 S (8 + 21 * p + 3 * 0)) (f_MO_readProcess_172 M (nI (40 * p + ex))) (fun _ S' M' => QG T E t0 p S' M') (XX T E) := by
  have hp := hH.1.1
  have hn := hH.1.2.2.2.1.n_le
  have hex := hH.2.1
  unfold f_RD_readProcess_159 f_MO_readProcess_172
  rw [al_is_k h (a := 14) (w := 8) (by decide +kernel), al_acc h (w := 8) (c := 8) (by decide) rfl, Option.bind_some]
  by_cases hk : κ = 1 ∧ w = kwc 8
  · obtain ⟨q1, q2⟩ := m5 (K := 40 * p + ex) (z := 4) (v := 4) (by omega) (by decide) rfl
    rw [if_pos hk, if_pos hk, if_neg (by decide), if_pos (rwR hp (by decide)), hH.last h (v := 4) (z := 4) (by decide) rfl, Option.bind_some, Option.bind_assoc]
    refine (s_nx (hH.aS h (v := 4) 1)).bind (fun _ S1 M1 k1 => ?_) (fun S' M1 k => ?_)
    · obtain ⟨a1, a2, t1, κ1, v1, a3, a4, a5⟩ := k1
      rw [Option.bind_some, if_neg (show ¬ (1 : Int32) = 0 by decide), if_pos q1, q2]
      have hH1 := ((hH.wS (v := 4) (by decide) 1).fs a1 a2).wM (v := 4) (by decide) 1
      have hm1 : IM p S1 (xpi M1 16 (5 * (40 * p + ex) + 4) 1) := IM.wM ((hm.wS (by omega)).fs a1 a2)
      refine (s_sign (HA.aM a5 1) (a := 6) (u := 59) (by decide +kernel) rfl).bind (fun _ S2 M2 k2 => ?_) (fun S' M2 k => ?_)
      · obtain ⟨b1, b2, t2, κ2, v2, b3, b4, b5⟩ := k2
        rw [xb_id]
        refine ((s_sign b5 (a := 7) (u := 125) (by decide +kernel) rfl).imp (fun _ S3 M3 k3 => ?_) (fun _ _ k => k)).idl
        obtain ⟨d1, d2, t3, κ3, v3, d3, d4, d5⟩ := k3
        exact HA.qg ((hH1.fs b1 b2).fs d1 d2) d5 (by omega) ((hm1.fs b1 b2).fs d1 d2)
      · rw [xb_id]
        exact (d_sign k 125).imp (fun _ g => g.1)
    · rw [Option.bind_some, if_neg (show ¬ (1 : Int32) = 0 by decide), if_pos q1]
      exact (d_sign (k.mi (by decide) (by decide)) 59).bind (fun M2 g => by rw [xb_id]; exact (d_sign g.1 125).imp (fun _ g => g.1))
  · rw [if_neg hk, if_neg hk, if_pos rfl, Option.bind_some, if_pos rfl, xb_id]
    refine ((s_sign h (a := 7) (u := 125) (by decide +kernel) rfl).imp (fun _ S3 M3 k3 => ?_) (fun _ _ k => k)).idl
    obtain ⟨d1, d2, t3, κ3, v3, d3, d4, d5⟩ := k3
    exact HA.qg (hH.fs d1 d2) d5 (by omega) (hm.fs d1 d2)
theorem s_104 (h : AL T E t κ w S M) (ht : t0 < t) (hH : HA p 0 i ex N c so ix x x S M) (hm : IM p S M) : SM (f_RD_readProcess_104 S (5 + 21 * p) (8 + 21 * p + 3 * 0)) (f_MO_readProcess_119 M (nI p) (nI (40 * p + ex))) (fun _ S' M' => QG T E t0 p S' M') (XX T E) := by
  have hp := hH.1.1
  have hn := hH.1.2.2.2.1.n_le
  have hex := hH.2.1
  unfold f_RD_readProcess_104 f_MO_readProcess_119
  rw [al_is_k h (a := 13) (w := 7) (by decide +kernel), al_kw h (w := 7) (c := 7) (by decide) rfl, Option.bind_some, Option.bind_some]
  by_cases hk : κ = 1 ∧ w = kwc 7
  · rw [if_pos hk, if_neg (show ¬ (1 : Int32) = 0 by decide), if_neg (show ¬ (1 : Int32) = 0 by decide), if_pos (cpP hp), if_pos (nI_in hp (by omega)), nI_clamp (by omega), hH.1.2.2.1.2.1]
    by_cases hd : xgi M 7 p = -1
    · rw [if_pos hd, if_pos hd]
      unfold f_RD_readProcess_133 f_MO_readProcess_148
      have hc4 := (hH.1.2.2.2.1.1 0 (by decide)).2.1
      rw [hH.2.2.2.2.1] at hc4
      have h15 := (hH.1.2.2.2.1.2.2.2.1 ex hex).2.2.2.1
      rw [hH.2.2.2.1] at h15
      rw [if_pos (rwR hp (by decide)), if_pos (cpP hp), if_pos (nI_in (by omega) (by omega)), if_pos (nI_in hp (by omega)), nI_clamp (by omega), nI_clamp (by omega), hc4, nI_pred, h15]
      have hA' : AL T E t κ w (xpi S (5 + 21 * p) 2 (nI i)) (xpi M 7 p (nI i)) := (h.si (by omega) (fun _ => by omega)).mi (by decide) (by decide)
      have hm' : IM p (xpi S (5 + 21 * p) 2 (nI i)) (xpi M 7 p (nI i)) := by
        unfold IM
        rw [gii, if_neg (by omega)]
        exact hm
      rw [al_needY hA' (a := 7) (z := 7) (by decide) rfl hk]
      refine (s_nx hA').bind (fun _ S1 M1 k1 => ?_) (fun S' M1 k => (d_sign k 59).bind (fun M2 g => d_172 g.1))
      obtain ⟨a1, a2, t1, κ1, v1, a3, a4, a5⟩ := k1
      refine (s_sign a5 (a := 6) (u := 59) (by decide +kernel) rfl).bind (fun _ S2 M2 k2 => ?_) (fun S' M2 k => d_172 k)
      obtain ⟨b1, b2, t2, κ2, v2, b3, b4, b5⟩ := k2
      exact s_159 b5 (by omega) (((hH.hd (nI i)).fs a1 a2).fs b1 b2) ((hm'.fs a1 a2).fs b1 b2)
    · rw [if_neg hd, if_neg hd, fail_b, al_fail h, Option.bind_some]
      exact SM.thr (d_148 (al_xx h (by decide)) hp (by omega))
  · rw [if_neg hk, if_pos rfl, if_pos rfl]
    exact s_159 h ht hH hm
theorem s_77 (h : AL T E t κ w S M) (ht : t0 < t) (hH : HA p 0 i ex N c so ix x x S M) (hm : IM p S M) : SM (f_RD_readProcess_77 S (5 + 21 * p) (8 + 21 * p + 3 * 0)) (f_MO_readProcess_89 M (nI p) (nI (40 * p + ex))) (fun _ S' M' => QG T E t0 p S' M') (XX T E) := by
  have hp := hH.1.1
  have hn := hH.1.2.2.2.1.n_le
  have hex := hH.2.1
  unfold f_RD_readProcess_77 f_MO_readProcess_89
  rw [al_is_k h (a := 12) (w := 6) (by decide +kernel), al_kw h (w := 6) (c := 6) (by decide) rfl, Option.bind_some, Option.bind_some]
  by_cases hk : κ = 1 ∧ w = kwc 6
  · obtain ⟨q1, q2⟩ := m5 (K := 40 * p + ex) (z := 3) (v := 3) (by omega) (by decide) rfl
    rw [if_pos hk, if_neg (by decide), if_neg (by decide)]
    refine (s_part h (a := 12) (w := 6) (by decide +kernel) rfl (Or.inl rfl)).bind (fun r S1 b k1 => ?_) (fun S' b k => ?_)
    · obtain ⟨c1, ⟨a1, a2, t1, κ1, v1, a3, a4, a5⟩, -⟩ := k1
      have hH1 := hH.fs a1 a2
      rw [if_pos (rwR hp (by decide)), hH1.last a5 (v := 3) (z := 3) (by decide) rfl, Option.bind_some, if_pos q1, q2, c1]
      exact s_104 (HA.aM (hH1.aS a5 (v := 3) r) r) (by omega) ((hH1.wS (v := 3) (by decide) r).wM (v := 3) (by decide) r) (IM.wM ((hm.fs a1 a2).wS (by omega)))
    · rw [if_pos q1]
      exact d_119 (k.mi (by decide) (by decide))
  · rw [if_neg hk, if_pos rfl, if_pos rfl]
    exact s_104 h ht hH hm
theorem s_proc (h : AL T E t κ w S M) (hI : IPM p S M) : SM (f_RD_readProcess S (5 + 21 * p)) (f_MO_readProcess M (nI p)) (fun _ S' M' => QG T E t p S' M') (XX T E) := by
  obtain ⟨⟨n, c, so, ix, hI⟩, hm⟩ := hI
  have hp := hI.1
  unfold f_RD_readProcess f_MO_readProcess
  -- behind a fault
  have dT3 : ∀ (S' M1 : XS) (K : Nat), K < 320 → XX T E S' M1 → OK ((f_MO_isWord M1 (5 : Int32)).bind fun q13 => if q13 = 0 then (f_MO_readProcess_89 M1 (nI p) (nI K)) else ((f_MO_part M1 (5 : Int32) (1 : Int32) (100000 : Int32) (1 : Int32)).bind fun q15 => if ¬ ((((5 : Int32) * nI K) + (2 : Int32)) < 0 ∨ 1600 ≤ (((5 : Int32) * nI K) + (2 : Int32)).toNatClampNeg) then (f_MO_readProcess_89 (xpi q15.2 16 (((5 : Int32) * nI K) + (2 : Int32)).toNatClampNeg q15.1) (nI p) (nI K)) else none)) (XX T E S') := by
    intro S' M1 K hK k
    rw [d_isWord k, Option.bind_some, if_pos rfl]
    exact d_89 k
  have dT2 : ∀ (S' M1 : XS) (K : Nat), K < 320 → XX T E S' M1 → OK ((f_MO_part M1 (4 : Int32) (0 : Int32) (15 : Int32) (1 : Int32)).bind fun q10 => if ¬ ((((5 : Int32) * nI K) + (1 : Int32)) < 0 ∨ 1600 ≤ (((5 : Int32) * nI K) + (1 : Int32)).toNatClampNeg) then ((f_MO_isWord (xpi q10.2 16 (((5 : Int32) * nI K) + (1 : Int32)).toNatClampNeg q10.1) (5 : Int32)).bind fun q13 => if q13 = 0 then (f_MO_readProcess_89 (xpi q10.2 16 (((5 : Int32) * nI K) + (1 : Int32)).toNatClampNeg q10.1) (nI p) (nI K)) else ((f_MO_part (xpi q10.2 16 (((5 : Int32) * nI K) + (1 : Int32)).toNatClampNeg q10.1) (5 : Int32) (1 : Int32) (100000 : Int32) (1 : Int32)).bind fun q15 => if ¬ ((((5 : Int32) * nI K) + (2 : Int32)) < 0 ∨ 1600 ≤ (((5 : Int32) * nI K) + (2 : Int32)).toNatClampNeg) then (f_MO_readProcess_89 (xpi q15.2 16 (((5 : Int32) * nI K) + (2 : Int32)).toNatClampNeg q15.1) (nI p) (nI K)) else none)) else none) (XX T E S') := by
    intro S' M1 K hK k
    refine (d_part k 4 0 15 1).bind (fun q g => ?_)
    rw [if_pos (m5 (z := 1) (v := 1) hK (by decide) rfl).1]
    exact dT3 S' _ K hK (g.1.mi (by decide) (by decide))
  have dT1 : ∀ (S' M1 : XS) (K : Nat), K < 320 → XX T E S' M1 → OK (if ¬ ((nI p) < 0 ∨ 8 ≤ (nI p).toNatClampNeg) then ((f_MO_part M1 (3 : Int32) (0 : Int32) ((xgi M1 6 (nI p).toNatClampNeg) - (1 : Int32)) (4 : Int32)).bind fun q7 => if ¬ (((5 : Int32) * nI K) < 0 ∨ 1600 ≤ ((5 : Int32) * nI K).toNatClampNeg) then ((f_MO_part (xpi q7.2 16 ((5 : Int32) * nI K).toNatClampNeg q7.1) (4 : Int32) (0 : Int32) (15 : Int32) (1 : Int32)).bind fun q10 => if ¬ ((((5 : Int32) * nI K) + (1 : Int32)) < 0 ∨ 1600 ≤ (((5 : Int32) * nI K) + (1 : Int32)).toNatClampNeg) then ((f_MO_isWord (xpi q10.2 16 (((5 : Int32) * nI K) + (1 : Int32)).toNatClampNeg q10.1) (5 : Int32)).bind fun q13 => if q13 = 0 then (f_MO_readProcess_89 (xpi q10.2 16 (((5 : Int32) * nI K) + (1 : Int32)).toNatClampNeg q10.1) (nI p) (nI K)) else ((f_MO_part (xpi q10.2 16 (((5 : Int32) * nI K) + (1 : Int32)).toNatClampNeg q10.1) (5 : Int32) (1 : Int32) (100000 : Int32) (1 : Int32)).bind fun q15 => if ¬ ((((5 : Int32) * nI K) + (2 : Int32)) < 0 ∨ 1600 ≤ (((5 : Int32) * nI K) + (2 : Int32)).toNatClampNeg) then (f_MO_readProcess_89 (xpi q15.2 16 (((5 : Int32) * nI K) + (2 : Int32)).toNatClampNeg q15.1) (nI p) (nI K)) else none)) else none) else none) else none) (XX T E S') := by
    intro S' M1 K hK k
    rw [if_pos (nI_in hp (by omega))]
    refine (d_part k 3 0 _ 4).bind (fun q g => ?_)
    rw [if_pos (m50 hK).1]
    exact dT2 S' _ K hK (g.1.mi (by decide) (by decide))
  refine (s_new h hI (s := 0) (by decide)).bind (fun r S1 b k1 => ?_) (fun S' b k => ?_)
  · obtain ⟨e1, e2, k1⟩ := k1
    obtain ⟨t1, κ1, v1, g1, g2, g3, g4, g5⟩ := k1.ha (by decide) hm
    rw [e2, if_neg (nm1 (by omega)), e1]
    refine (s_sign g2 (a := 4) (u := 123) (by decide +kernel) rfl).bind (fun _ S2 M2 k2 => ?_) (fun S' M2 k => dT1 S' M2 _ (by omega) k)
    obtain ⟨a1, a2, t2, κ2, v2, a3, a4, a5⟩ := k2
    have g4' := g4.fs a1 a2
    rw [if_pos (cpP hp), if_pos (nI_in hp (by omega)), nI_clamp (n := p) (by omega), ← show xgi S2 (5 + 21 * p) 1 = xgi M2 6 p from g4']
    obtain ⟨q1, q2, -⟩ := m50 (K := 40 * p + n) (by omega)
    obtain ⟨u1, u2⟩ := m5 (K := 40 * p + n) (z := 1) (v := 1) (by omega) (by decide) rfl
    refine (s_part a5 (a := 9) (w := 3) (by decide +kernel) rfl (Or.inr (Or.inl rfl))).bind (fun r1 S3 b3 k3 => ?_) (fun S' b3 k => ?_)
    · obtain ⟨c1, ⟨b1, b2, t3, κ3, v3, b4, b5, b6⟩, -⟩ := k3
      have h3 := (g3.fs a1 a2).fs b1 b2
      rw [if_pos (rwR hp (by decide)), h3.last b6 (v := 0) (z := 0) (by decide) rfl, Option.bind_some, if_pos q1, q2, c1]
      have h3' := (h3.wS (v := 0) (by decide) r1).wM (v := 0) (by decide) r1
      have m3' : IM p _ _ := IM.wM (j := 5 * (40 * p + n) + 0) (a := r1) ((g4'.fs b1 b2).wS (i := 8 + 21 * p + 3 * 0 + 2) (j := c 0 * wd 0 + 0) (a := r1) (by omega))
      refine (s_part (HA.aM (h3.aS b6 (v := 0) r1) r1) (a := 10) (w := 4) (by decide +kernel) rfl (Or.inl rfl)).bind (fun r2 S4 b4 k4 => ?_) (fun S' b4 k => ?_)
      · obtain ⟨c2, ⟨d1, d2, t4, κ4, v4, d4, d5, d6⟩, -⟩ := k4
        have h4 := h3'.fs d1 d2
        rw [h4.last d6 (v := 1) (z := 1) (by decide) rfl, Option.bind_some, if_pos u1, u2, c2]
        have h4' := (h4.wS (v := 1) (by decide) r2).wM (v := 1) (by decide) r2
        have m4' : IM p _ _ := IM.wM (j := 5 * (40 * p + n) + 1) (a := r2) ((m3'.fs d1 d2).wS (i := 8 + 21 * p + 3 * 0 + 2) (j := c 0 * wd 0 + 1) (a := r2) (by omega))
        have hA4 := HA.aM (h4.aS d6 (v := 1) r2) r2 (j := 5 * (40 * p + n) + 1)
        rw [al_is_k hA4 (a := 11) (w := 5) (by decide +kernel), al_kw hA4 (w := 5) (c := 5) (by decide) rfl, Option.bind_some, Option.bind_some]
        by_cases hk : κ4 = 1 ∧ v4 = kwc 5
        · obtain ⟨x1, x2⟩ := m5 (K := 40 * p + n) (z := 2) (v := 2) (by omega) (by decide) rfl
          rw [if_pos hk, if_neg (by decide), if_neg (by decide)]
          refine (s_part hA4 (a := 11) (w := 5) (by decide +kernel) rfl (Or.inl rfl)).bind (fun r3 S5 b5 k5 => ?_) (fun S' b5 k => ?_)
          · obtain ⟨c3, ⟨f1, f2, t5, κ5, v5, f4, f5, f6⟩, -⟩ := k5
            have h5 := h4'.fs f1 f2
            rw [h5.last f6 (v := 2) (z := 2) (by decide) rfl, Option.bind_some, if_pos x1, x2, c3]
            exact s_77 (HA.aM (h5.aS f6 (v := 2) r3) r3) (by omega) ((h5.wS (v := 2) (by decide) r3).wM (v := 2) (by decide) r3) (IM.wM ((m4'.fs f1 f2).wS (by omega)))
          · rw [if_pos x1]
            exact d_89 (k.mi (by decide) (by decide))
        · rw [if_neg hk, if_pos rfl, if_pos rfl]
          exact s_77 hA4 (by omega) h4' m4'
      · rw [if_pos u1]
        exact dT3 S' _ _ (by omega) (k.mi (by decide) (by decide))
    · rw [if_pos q1]
      exact dT2 S' _ _ (by omega) (k.mi (by decide) (by decide))
  · rcases k.2 with e | ⟨e, hn⟩
    · rw [if_pos e]
      exact OK.mk k.1
    · rw [e, if_neg (nm1 (by omega))]
      exact (d_sign k.1 123).bind (fun M2 g => dT1 S' M2 _ (by omega) g.1)
end Pr
