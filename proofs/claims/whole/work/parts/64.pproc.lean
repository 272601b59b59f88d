/-! ports and processes -/
section Pp
variable {T : Nat → Int32} {E t κ : Nat} {w : Int64} {p s i ex N : Nat} {c so ix : Nat → Nat} {x y : Nat → Int32} {S M S' M' : XS}
abbrev kwl2 (a w0 w1 : Nat) : Prop := a < 28 ∧ w0 < 23 ∧ w1 < 23 ∧ lwd (spl (lit a)) ∧ (spl (lit a)).map cod = [kwc w0, kwc w1] ∧ kwc w0 ≠ kwc w1
theorem al_two (h : AL T E t κ w S M) {a w0 w1 : Nat} (hl : kwl2 a w0 w1) : (κ = 1 ∧ w = kwc w0 ∧ ¬ (κ = 1 ∧ w = kwc w1) ∧ f_WO_expectOneOf S a = some (.inl (0, S))) ∨ (κ = 1 ∧ w = kwc w1 ∧ ¬ (κ = 1 ∧ w = kwc w0) ∧ f_WO_expectOneOf S a = some (.inl (1, S))) ∨ (¬ (κ = 1 ∧ w = kwc w0) ∧ ¬ (κ = 1 ∧ w = kwc w1) ∧ f_WO_expectOneOf S a = some (.inr (xpi (xpi S 2 7 1) 2 8 (xgi S 2 2)))) := by
  obtain ⟨h1, h2, h3, h4, h5, h6⟩ := hl
  unfold f_WO_expectOneOf
  rw [al_which h h1 h4, h5, Option.bind_some, fail_b]
  by_cases hk : κ = 1
  · rw [if_pos hk, kix, kix, kix]
    by_cases e0 : kwc w0 = w
    · rw [if_pos e0, if_neg (by decide)]
      exact Or.inl ⟨hk, e0.symm, fun q => h6 (e0.trans q.2), rfl⟩
    · rw [if_neg e0]
      by_cases e1 : kwc w1 = w
      · rw [if_pos e1, if_neg (by decide)]
        exact Or.inr (Or.inl ⟨hk, e1.symm, fun q => e0 q.2.symm, rfl⟩)
      · rw [if_neg e1, if_pos rfl]
        exact Or.inr (Or.inr ⟨fun q => e0 q.2.symm, fun q => e1 q.2.symm, rfl⟩)
  · rw [if_neg hk, if_pos rfl]
    exact Or.inr (Or.inr ⟨fun q => hk q.1, fun q => hk q.1, rfl⟩)
theorem al_needN (h : AL T E t κ w S M) {a : Nat} (ha : a < 23) {z : Int32} (hz : z = nI a) (hk : ¬ (κ = 1 ∧ w = kwc a)) : f_MO_need M z = some (xpi (xpi M 0 11 1) 0 12 (xgi M 0 6)) := by
  unfold f_MO_need
  rw [al_kw h ha hz, if_neg hk, Option.bind_some, if_pos rfl, al_bad h, Option.bind_some]
theorem al_needY (h : AL T E t κ w S M) {a : Nat} (ha : a < 23) {z : Int32} (hz : z = nI a) (hk : κ = 1 ∧ w = kwc a) : f_MO_need M z = f_MO_next M := by
  unfold f_MO_need
  rw [al_kw h ha hz, if_pos hk, Option.bind_some, if_neg (by decide), xb_id]
theorem d_port51 {K : Nat} (h : XX T E S M) : OK (f_MO_port_51 M (nI K)) (XX T E S) := by
  unfold f_MO_port_51
  rw [d_accept h, Option.bind_some, if_pos rfl]
  exact (d_need h 18).bind (fun M1 g => (d_sign g.1 59).bind (fun M2 g2 => OK.mk g2.1))
theorem s_port (h : AL T E t κ w S M) (hI : IPM p S M) : SM (f_RD_readPort S (5 + 21 * p)) (f_MO_port M (nI p)) (fun _ S' M' => QG T E t p S' M') (XX T E) := by
  obtain ⟨⟨n, c, so, ix, hI⟩, hm⟩ := hI
  have hp := hI.1
  unfold f_RD_readPort f_MO_port
  refine (s_new h hI (s := 5) (by decide)).bind (fun r S1 b k1 => ?_) (fun S' b k => ?_)
  · obtain ⟨e1, e2, k1⟩ := k1
    obtain ⟨t1, κ1, v1, g1, g2, g3, g4, g5⟩ := k1.ha (by decide) hm
    obtain ⟨q1, q2⟩ := m5 (K := 40 * p + n) (z := 2) (v := 2) (by omega) (by decide) rfl
    rw [e2, if_neg (nm1 (by omega)), e1, if_pos q1, q2]
    have hA1 := HA.aM g2 (-1) (j := 5 * (40 * p + n) + 2)
    have g3a := g3.wM (v := 2) (by decide) (-1)
    have g4a : IM p S1 (xpi b.2 16 (5 * (40 * p + n) + 2) (-1)) := g4
    -- the second half: a mode, then ;
    have half : ∀ (t2 κ2 : Nat) (v2 : Int64) (S2 M2 : XS) (z : Int32), t < t2 → AL T E t2 κ2 v2 S2 M2 → HA p 5 (c 5) n (n + 1) (fun x => if x = 5 then c 5 + 1 else c x) (fun q => if q = n then 5 else so q) (fun q => if q = n then c 5 else ix q) (nup (fun _ => 0) 0 z) (nup (nup (fun _ => 0) 2 (-1)) 0 z) S2 M2 → IM p S2 M2 →
        SM ((f_WO_expectOneOf S2 17).bind (xT2 fun v21 S22 => (f_RO_setLast S22 (8 + 21 * p + 3 * 5) (1 : Int32) v21).bind fun q25 => (f_WO_next q25).bind (xT2 fun _ S29 => (f_RO_setLast S29 (8 + 21 * p + 3 * 5) (2 : Int32) (-1 : Int32)).bind fun q32 => (f_WO_expect q32 6).bind (xT2 fun _ S36 => some (.inl ((), S36)))))) (f_MO_port_51 M2 (nI (40 * p + n))) (fun _ S' M' => QG T E t p S' M') (XX T E) := by
      intro t2 κ2 v2 S2 M2 z ht hA hH hM
      have fin : ∀ (z2 : Int32) (t3 κ3 : Nat) (v3 : Int64) (S3 M3 : XS), t < t3 → AL T E t3 κ3 v3 S3 M3 → HA p 5 (c 5) n (n + 1) (fun x => if x = 5 then c 5 + 1 else c x) (fun q => if q = n then 5 else so q) (fun q => if q = n then c 5 else ix q) (nup (nup (fun _ => 0) 0 z) 1 z2) (nup (nup (nup (fun _ => 0) 2 (-1)) 0 z) 1 z2) S3 M3 → IM p S3 M3 →
          SM ((f_RO_setLast S3 (8 + 21 * p + 3 * 5) (2 : Int32) (-1 : Int32)).bind fun q32 => (f_WO_expect q32 6).bind (xT2 fun _ S36 => some (.inl ((), S36)))) (f_MO_sign M3 59) (fun _ S' M' => QG T E t p S' M') (XX T E) := by
        intro z2 t3 κ3 v3 S3 M3 ht hA hH hM
        rw [hH.last hA (v := 2) (z := 2) (by decide) rfl, Option.bind_some]
        refine ((s_sign (hH.aS hA (v := 2) (-1)) (a := 6) (u := 59) (by decide +kernel) rfl).imp (fun _ S4 M4 k4 => ?_) (fun _ _ k => k)).idl
        obtain ⟨a1, a2, t4, κ4, v4, a3, a4, a5⟩ := k4
        refine ⟨⟨t4, κ4, v4, by omega, a5⟩, ⟨_, _, _, _, ((hH.wS (v := 2) (by decide) (-1)).fs a1 a2).done (fun v hv => ?_)⟩, (hM.wS (by omega)).fs a1 a2⟩
        change v < 3 at hv
        have : v = 0 ∨ v = 1 ∨ v = 2 := by omega
        rcases this with rfl | rfl | rfl <;> rfl
      unfold f_MO_port_51
      rw [al_acc hA (w := 19) (c := 19) (by decide) rfl]
      rcases al_two hA (a := 17) (w0 := 18) (w1 := 19) (by decide +kernel) with ⟨k1, k2, k3, k4⟩ | ⟨k1, k2, k3, k4⟩ | ⟨k2, k3, k4⟩
      · rw [if_neg k3, k4, Option.bind_some, Option.bind_some, if_pos rfl, al_needY hA (a := 18) (z := 18) (by decide) rfl ⟨k1, k2⟩]
        show SM ((f_RO_setLast S2 _ _ _).bind _) _ _ _
        rw [hH.last hA (v := 1) (z := 1) (by decide) rfl, Option.bind_some]
        refine (s_nx (hH.aS hA (v := 1) 0)).bind (fun _ S3 M3 k5 => ?_) (fun S' M3 k => ?_)
        · obtain ⟨a1, a2, t3, κ3, v3, a3, a4, a5⟩ := k5
          rw [xb_id]
          have hH3 := (hH.wS (v := 1) (by decide) 0).fs a1 a2
          refine fin 0 t3 κ3 v3 S3 M3 (by omega) a5 ?_ ((hM.wS (by omega)).fs a1 a2)
          obtain ⟨j1, j2, j3, j4, j5, j6, j7, j8⟩ := hH3
          refine ⟨j1, j2, j3, j4, j5, j6, j7, fun v hv => ?_⟩
          rw [j8 v hv]
          have : v = 0 ∨ v = 1 ∨ v = 2 ∨ v = 3 ∨ v = 4 := by omega
          rcases this with rfl | rfl | rfl | rfl | rfl <;> rfl
        · rw [xb_id]
          exact (d_sign k 59).imp (fun _ g => g.1)
      · rw [if_pos ⟨k1, k2⟩, k4, Option.bind_some]
        show SM ((f_RO_setLast S2 _ _ _).bind _) _ _ _
        rw [hH.last hA (v := 1) (z := 1) (by decide) rfl, Option.bind_some, Option.bind_assoc]
        refine (s_nx (hH.aS hA (v := 1) 1)).bind (fun _ S3 M3 k5 => ?_) (fun S' M3 k => ?_)
        · obtain ⟨a1, a2, t3, κ3, v3, a3, a4, a5⟩ := k5
          obtain ⟨q1, q2⟩ := m5 (K := 40 * p + n) (z := 1) (v := 1) (by omega) (by decide) rfl
          rw [Option.bind_some, if_neg (show ¬ (1 : Int32) = 0 by decide), if_pos q1, q2, xb_id]
          have hH3 := ((hH.wS (v := 1) (by decide) 1).fs a1 a2).wM (v := 1) (by decide) 1
          exact fin 1 t3 κ3 v3 S3 _ (by omega) (HA.aM a5 1) hH3 (IM.wM ((hM.wS (by omega)).fs a1 a2))
        · obtain ⟨q1, q2⟩ := m5 (K := 40 * p + n) (z := 1) (v := 1) (by omega) (by decide) rfl
          rw [Option.bind_some, if_neg (show ¬ (1 : Int32) = 0 by decide), if_pos q1, xb_id]
          exact (d_sign (k.mi (by decide) (by decide)) 59).imp (fun _ g => g.1)
      · rw [if_neg k3, k4, Option.bind_some, Option.bind_some, if_pos rfl, al_needN hA (a := 18) (z := 18) (by decide) rfl k2, Option.bind_some, xb_id]
        exact SM.thr ((d_sign (al_xx hA (by decide)) 59).imp (fun _ g => g.1))
    rw [al_acc hA1 (w := 15) (c := 15) (by decide) rfl]
    rcases al_two g2 (a := 16) (w0 := 14) (w1 := 15) (by decide +kernel) with ⟨k1, k2, k3, k4⟩ | ⟨k1, k2, k3, k4⟩ | ⟨k2, k3, k4⟩
    · rw [if_neg k3, k4, Option.bind_some, Option.bind_some, if_pos rfl, al_needY hA1 (a := 14) (z := 14) (by decide) rfl ⟨k1, k2⟩]
      show SM (if xR (8 + 21 * p + 3 * 5) then _ else _) _ _ _
      rw [if_pos (rwR hp (by decide)), g3a.last hA1 (v := 0) (z := 0) (by decide) rfl, Option.bind_some]
      refine (s_nx (g3a.aS hA1 (v := 0) 0)).bind (fun _ S3 M3 k5 => ?_) (fun S' M3 k => d_port51 k)
      obtain ⟨a1, a2, t3, κ3, v3, a3, a4, a5⟩ := k5
      have hH3 := (g3a.wS (v := 0) (by decide) 0).fs a1 a2
      refine half t3 κ3 v3 S3 M3 0 (by omega) a5 ?_ ((g4a.wS (by omega)).fs a1 a2)
      obtain ⟨j1, j2, j3, j4, j5, j6, j7, j8⟩ := hH3
      refine ⟨j1, j2, j3, j4, j5, j6, j7, fun v hv => ?_⟩
      rw [j8 v hv]
      have : v = 0 ∨ v = 1 ∨ v = 2 ∨ v = 3 ∨ v = 4 := by omega
      rcases this with rfl | rfl | rfl | rfl | rfl <;> rfl
    · rw [if_pos ⟨k1, k2⟩, k4, Option.bind_some]
      show SM (if xR (8 + 21 * p + 3 * 5) then _ else _) _ _ _
      rw [if_pos (rwR hp (by decide)), g3a.last hA1 (v := 0) (z := 0) (by decide) rfl, Option.bind_some, Option.bind_assoc]
      obtain ⟨q1, q2, -⟩ := m50 (K := 40 * p + n) (by omega)
      refine (s_nx (g3a.aS hA1 (v := 0) 1)).bind (fun _ S3 M3 k5 => ?_) (fun S' M3 k => ?_)
      · obtain ⟨a1, a2, t3, κ3, v3, a3, a4, a5⟩ := k5
        rw [Option.bind_some, if_neg (show ¬ (1 : Int32) = 0 by decide), if_pos q1, q2]
        exact half t3 κ3 v3 S3 _ 1 (by omega) (HA.aM a5 1) (((g3a.wS (v := 0) (by decide) 1).fs a1 a2).wM (v := 0) (by decide) 1) (IM.wM ((g4a.wS (by omega)).fs a1 a2))
      · rw [Option.bind_some, if_neg (show ¬ (1 : Int32) = 0 by decide), if_pos q1]
        exact d_port51 (k.mi (by decide) (by decide))
    · rw [if_neg k3, k4, Option.bind_some, Option.bind_some, if_pos rfl, al_needN hA1 (a := 14) (z := 14) (by decide) rfl k2, Option.bind_some]
      exact SM.thr (d_port51 (al_xx hA1 (by decide)))
  · rcases k.2 with e | ⟨e, hn⟩
    · rw [if_pos e]
      exact OK.mk k.1
    · rw [e, if_neg (nm1 (by omega)), if_pos (m5 (z := 2) (v := 2) (by omega) (by decide) rfl).1, d_accept (k.1.mi (by decide) (by decide)), Option.bind_some, if_pos rfl]
      exact (d_need (k.1.mi (by decide) (by decide)) 14).bind (fun M1 g => d_port51 g.1)
/-! processes -/
theorem HA.hd (h : HA p s i ex N c so ix x y S M) (a : Int32) : HA p s i ex N c so ix x y (xpi S (5 + 21 * p) 2 a) (xpi M 7 p a) := by
  obtain ⟨⟨h1, h2, h3, h4, h5, h6, h7, h8, h9⟩, k2, k3, k4, k5, k6, k7, k8⟩ := h
  refine ⟨⟨h1, h2.cg (fun k hk => SA.pi (by omega)) (fun k hk => MA.pi (by omega) (by omega) (by omega) (by omega) (by omega)), ⟨h3.1, ?_, fun j hj => ?_⟩, ?_, ?_, ?_, h7, ?_, ?_⟩, k2, k3, k4, k5, k6, fun v hv => ?_, k8⟩
  · rw [gii, if_pos ⟨rfl, rfl⟩, gii, if_pos ⟨rfl, rfl⟩]
  · rw [gii, if_neg (by omega)]; exact h3.2.2 j hj
  · obtain ⟨m1, m2, m3, m4, m5, m6, m7⟩ := h4
    refine ⟨fun s' hs' => ?_, m2, m3, m4, fun q hq hq2 v hv => ?_, m6, m7⟩
    · rw [gii, if_neg (by omega)]; exact m1 s' hs'
    · rw [gii, if_neg (by omega)]; exact m5 q hq hq2 v hv
  · unfold CR
    rw [gii, if_neg (by omega), gii, if_neg (by omega), gii, if_neg (by omega), gii, if_neg (by omega), gii, if_neg (by omega)]
    exact h5
  · rw [gii, if_neg (by omega)]; exact h6
  · rw [gii, if_neg (by omega)]; exact h8
  · rw [gii, if_neg (by omega)]; exact h9
  · rw [gii, if_neg (by omega)]; exact k7 v hv
theorem d_172 {K : Nat} (h : XX T E S M) : OK (f_MO_readProcess_172 M (nI K)) (XX T E S) := by
  unfold f_MO_readProcess_172
  rw [d_accept h, Option.bind_some, if_pos rfl, xb_id]
  exact (d_sign h 125).imp (fun _ g => g.1)
theorem d_148 {K : Nat} (h : XX T E S M) (hp : p < 8) (hK : K < 320) : OK (f_MO_readProcess_148 M (nI p) (nI K)) (XX T E S) := by
  unfold f_MO_readProcess_148
  rw [if_pos (nI_in hK (by omega)), if_pos (nI_in hp (by omega))]
  exact (d_need (h.mi (by decide) (by decide)) 7).bind (fun M1 g => (d_sign g.1 59).bind (fun M2 g2 => d_172 g2.1))
theorem d_119 {K : Nat} (h : XX T E S M) : OK (f_MO_readProcess_119 M (nI p) (nI K)) (XX T E S) := by
  unfold f_MO_readProcess_119
  rw [d_isWord h, Option.bind_some, if_pos rfl]
  exact d_172 h
theorem d_89 {K : Nat} (h : XX T E S M) : OK (f_MO_readProcess_89 M (nI p) (nI K)) (XX T E S) := by
  unfold f_MO_readProcess_89
  rw [d_isWord h, Option.bind_some, if_pos rfl]
  exact d_119 h
end Pp
