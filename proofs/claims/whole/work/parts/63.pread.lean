/-! the thing at hand: its numbers, on both sides -/
def HA (p s i ex N : Nat) (c so ix : Nat → Nat) (x y : Nat → Int32) (S M : XS) : Prop := IP p N c so ix ex S M ∧ ex < N ∧ so ex = s ∧ ix ex = i ∧ c s = i + 1 ∧ s < 6 ∧ (∀ v, v < wd s → xgi S (8 + 21 * p + 3 * s + 2) (i * wd s + v) = x v) ∧ (∀ v, v < 5 → xgi M 16 (5 * (40 * p + ex) + v) = y v)
def nup (x : Nat → Int32) (v : Nat) (a : Int32) : Nat → Int32 := fun w => if w = v then a else x w
def IPM (p : Nat) (S M : XS) : Prop := (∃ n c so ix, IP p n c so ix 1000 S M) ∧ IM p S M
def QG (T : Nat → Int32) (E t p : Nat) (S' M' : XS) : Prop := (∃ t' κ v, t < t' ∧ AL T E t' κ v S' M') ∧ IPM p S' M'
section Ha
variable {T : Nat → Int32} {E t κ : Nat} {w : Int64} {p s i ex N : Nat} {c so ix : Nat → Nat} {x y : Nat → Int32} {S M S' M' : XS}
theorem HA.fs (h : HA p s i ex N c so ix x y S M) (hs : FS S S') (hm : FM M M') : HA p s i ex N c so ix x y S' M' := by
  obtain ⟨h1, h2, h3, h4, h5, h6, h7, h8⟩ := h
  exact ⟨h1.fs hs hm, h2, h3, h4, h5, h6, fun v hv => by rw [hs.1 _ _ (by omega)]; exact h7 v hv, fun v hv => by rw [hm.1 _ _ (by decide)]; exact h8 v hv⟩
theorem HA.wS (h : HA p s i ex N c so ix x y S M) {v : Nat} (hv : v < wd s) (a : Int32) : HA p s i ex N c so ix (nup x v a) y (xpi S (8 + 21 * p + 3 * s + 2) (i * wd s + v) a) M := by
  obtain ⟨h1, h2, rfl, rfl, h5, h6, h7, h8⟩ := h
  refine ⟨h1.exS h2 hv a, h2, rfl, rfl, h5, h6, fun v' hv' => ?_, h8⟩
  unfold nup
  rw [gii]
  by_cases e : v' = v
  · rw [if_pos e, if_pos (by rw [e]; exact ⟨rfl, rfl⟩)]
  · rw [if_neg e, if_neg (by omega)]
    exact h7 v' hv'
theorem HA.wM (h : HA p s i ex N c so ix x y S M) {v : Nat} (hv : v < 5) (a : Int32) : HA p s i ex N c so ix x (nup y v a) S (xpi M 16 (5 * (40 * p + ex) + v) a) := by
  obtain ⟨h1, h2, h3, h4, h5, h6, h7, h8⟩ := h
  refine ⟨h1.exM h2 hv a, h2, h3, h4, h5, h6, h7, fun v' hv' => ?_⟩
  unfold nup
  rw [gii]
  by_cases e : v' = v
  · rw [if_pos e, if_pos (by rw [e]; exact ⟨rfl, rfl⟩)]
  · rw [if_neg e, if_neg (by omega)]
    exact h8 v' hv'
theorem HA.done (h : HA p s i ex N c so ix x y S M) (he : ∀ v, v < wd s → x v = y v) : IP p N c so ix 1000 S M := by
  obtain ⟨h1, h2, rfl, rfl, h5, h6, h7, h8⟩ := h
  exact h1.cls (fun v hv => by rw [h7 v hv, h8 v (by have := wd_le (so ex); omega)]; exact he v hv)
theorem HA.last (h : HA p s i ex N c so ix x y S M) (hA : AL T E t κ w S M') {v : Nat} (hv : v < wd s) {z : Int32} (hz : z = nI v) (a : Int32) : f_RO_setLast S (8 + 21 * p + 3 * s) z a = some (xpi S (8 + 21 * p + 3 * s + 2) (i * wd s + v) a) := by
  obtain ⟨h1, h2, h3, h4, h5, h6, h7, h8⟩ := h
  have hp := h1.1
  have hm := ms_le s h6
  have g := h1.2.2.2.1.1 s h6
  have hK := hA.2.2.1.2.2.2 _ (rwR hp h6)
  rw [(rwQ hp h6).2] at hK
  exact ro_last (rwR hp h6) (rwQ hp h6).1 (rwQ hp h6).2 hK.2 (by rw [g.2.1, h5]) (by have := g.1; omega) (by omega) (by omega) hv hz a
theorem HA.aS (h : HA p s i ex N c so ix x y S M) (hA : AL T E t κ w S M') {v : Nat} (a : Int32) : AL T E t κ w (xpi S (8 + 21 * p + 3 * s + 2) (i * wd s + v) a) M' :=
  hA.si (by omega) (fun hr => absurd hr (nR2 h.1.1 h.2.2.2.2.2.1))
theorem HA.aM (hA : AL T E t κ w S' M) {j : Nat} (a : Int32) : AL T E t κ w S' (xpi M 16 j a) := hA.mi (by decide) (by decide)
theorem m5 {K v : Nat} (hK : K < 320) (hv : v < 5) {z : Int32} (hz : z = nI v) : ¬ ((((5 : Int32) * nI K) + z) < 0 ∨ 1600 ≤ (((5 : Int32) * nI K) + z).toNatClampNeg) ∧ (((5 : Int32) * nI K) + z).toNatClampNeg = 5 * K + v := by
  rw [hz, show (5 : Int32) = nI 5 from rfl, pk_mul, nI_add]
  exact ⟨nI_in (by omega) (by omega), nI_clamp (by omega)⟩
theorem m50 {K : Nat} (hK : K < 320) : ¬ (((5 : Int32) * nI K) < 0 ∨ 1600 ≤ ((5 : Int32) * nI K).toNatClampNeg) ∧ ((5 : Int32) * nI K).toNatClampNeg = 5 * K + 0 ∧ ¬ (((5 : Int32) * nI K) < 0 ∨ 1600 ≤ 5 * K + 0) := by
  rw [show (5 : Int32) = nI 5 from rfl, pk_mul]
  exact ⟨nI_in (by omega) (by omega), nI_clamp (by omega), nI_inn (by omega) (by omega)⟩
theorem nm1 {K : Nat} (hK : K < 320) : ¬ nI K = -1 := fun e => nI_pos (n := K) (by omega) (by rw [e]; decide)
theorem IM.wS (h : IM p S M) {i j : Nat} {a : Int32} (hi : ¬ i = 5 + 21 * p) : IM p (xpi S i j a) M := by
  unfold IM
  rw [gii, if_neg (fun e => hi e.1.symm)]
  exact h
theorem IM.wM (h : IM p S M) {j : Nat} {a : Int32} : IM p S (xpi M 16 j a) := h
/-- what a new thing gives -/
theorem QT.ha {n : Nat} (h : QT T E t p n s c so ix S M S' M') (hs : s < 6) (hm : IM p S M) : ∃ t' κ' v', t < t' ∧ AL T E t' κ' v' S' M' ∧ HA p s (c s) n (n + 1) (fun x => if x = s then c s + 1 else c x) (fun q => if q = n then s else so q) (fun q => if q = n then c s else ix q) (fun _ => 0) (fun _ => 0) S' M' ∧ IM p S' M' ∧ n < 32 := by
  obtain ⟨⟨t', κ', v', h1, h2⟩, h3, h4, h5, h6, h7, h8⟩ := h
  exact ⟨t', κ', v', h1, h2, ⟨h3.opn n, by omega, by simp, by simp, by simp, hs, h5, h6⟩, h4 hm, h7⟩
/-! events and boards -/
theorem s_plain (h : AL T E t κ w S M) (hI : IPM p S M) (hs : s < 6) {z z' : Int32} (hz : z = nI s) (hz' : z' = nI s) (hw : wd s = 0) : SM ((f_RD_nameThing S (5 + 21 * p) z).bind (xT2 fun _ S2 => (f_WO_expect S2 6).bind (xT2 fun _ S3 => some (.inl ((), S3))))) (f_MO_plain M (nI p) z') (fun _ S' M' => QG T E t p S' M') (XX T E) := by
  obtain ⟨⟨n, c, so, ix, hI⟩, hm⟩ := hI
  unfold f_MO_plain
  rw [hz, hz']
  refine (s_new h hI hs).bind (fun r S1 b k1 => ?_) (fun S' b k => ?_)
  · obtain ⟨e1, e2, k1⟩ := k1
    obtain ⟨t1, κ1, v1, g1, g2, g3, g4, g5⟩ := k1.ha hs hm
    have hp := hI.1
    rw [e2, if_neg (nm1 (by omega)), xb_id]
    refine ((s_sign g2 (a := 6) (u := 59) (by decide +kernel) rfl).imp (fun _ S2 M2 k2 => ?_) (fun _ _ k => k)).idl
    obtain ⟨a1, a2, t2, κ2, v2, a3, a4, a5⟩ := k2
    exact ⟨⟨t2, κ2, v2, by omega, a5⟩, ⟨_, _, _, _, (g3.fs a1 a2).done (fun v hv => by omega)⟩, g4.fs a1 a2⟩
  · rcases k.2 with e | ⟨e, hn⟩
    · rw [if_pos e]
      exact OK.mk k.1
    · have hp := hI.1
      rw [e, if_neg (nm1 (by omega)), xb_id]
      exact (d_sign k.1 59).imp (fun _ g => g.1)
/-! buffers -/
theorem s_buf (h : AL T E t κ w S M) (hI : IPM p S M) : SM (f_RD_readBuffer S (5 + 21 * p)) (f_MO_buffer M (nI p)) (fun _ S' M' => QG T E t p S' M') (XX T E) := by
  obtain ⟨⟨n, c, so, ix, hI⟩, hm⟩ := hI
  have hp := hI.1
  unfold f_RD_readBuffer f_MO_buffer
  refine (s_new h hI (s := 3) (by decide)).bind (fun r S1 b k1 => ?_) (fun S' b k => ?_)
  · obtain ⟨e1, e2, k1⟩ := k1
    obtain ⟨t1, κ1, v1, g1, g2, g3, g4, g5⟩ := k1.ha (by decide) hm
    obtain ⟨q1, q2, q3⟩ := m50 (K := 40 * p + n) (by omega)
    rw [e2, if_neg (nm1 (by omega)), e1]
    refine (s_number g2 (Or.inl rfl)).bind (fun r S2 b2 k2 => ?_) (fun S' b2 k => ?_)
    · obtain ⟨c1, ⟨a1, a2, t2, κ2, v2, a3, a4, a5⟩, -⟩ := k2
      have g3' := g3.fs a1 a2
      have g4' := g4.fs a1 a2
      rw [if_pos (rwR hp (by decide)), if_pos q1, q2, g3'.last a5 (v := 0) (z := 0) (by decide) rfl, Option.bind_some, c1]
      have hA := (HA.aM (g3'.aS a5 (v := 0) r) r (j := 5 * (40 * p + n) + 0))
      rw [xb_id]
      refine ((s_sign hA (a := 6) (u := 59) (by decide +kernel) rfl).imp (fun _ S3 M3 k3 => ?_) (fun _ _ k => k)).idl
      obtain ⟨d1, d2, t3, κ3, v3, d3, d4, d5⟩ := k3
      refine ⟨⟨t3, κ3, v3, by omega, d5⟩, ⟨_, _, _, _, (((g3'.wS (v := 0) (by decide) r).wM (v := 0) (by decide) r).fs d1 d2).done (fun v hv => ?_)⟩, ((g4'.wS (by omega)).wM).fs d1 d2⟩
      change v < 1 at hv
      rw [show v = 0 by omega]
    · rw [if_pos q1, xb_id]
      exact (d_sign (k.mi (by decide) (by decide)) 59).imp (fun _ g => g.1)
  · rcases k.2 with e | ⟨e, hn⟩
    · rw [if_pos e]
      exact OK.mk k.1
    · rw [e, if_neg (nm1 (by omega))]
      refine (d_number k.1 1 8 1).bind (fun q g => ?_)
      rw [if_pos (m50 (by omega)).1, xb_id]
      exact (d_sign (g.1.mi (by decide) (by decide)) 59).imp (fun _ g => g.1)
/-! semaphores -/
theorem d_sem59 {K : Nat} (h : XX T E S M) (hK : K < 320) (t0 : Int32) : OK (f_MO_semaphore_59 M (nI K) t0) (XX T E S) := by
  unfold f_MO_semaphore_59
  refine (d_number h t0 100 1).bind (fun q g => ?_)
  rw [if_pos (m5 (z := 1) (v := 1) hK (by decide) rfl).1, xb_id]
  exact (d_sign (g.1.mi (by decide) (by decide)) 59).imp (fun _ g => g.1)
theorem d_semT {K : Nat} (h : XX T E S M) (hK : K < 320) : OK (if ¬ (((5 : Int32) * nI K) < 0 ∨ 1600 ≤ ((5 : Int32) * nI K).toNatClampNeg) then (if (xgi M 16 ((5 : Int32) * nI K).toNatClampNeg) ≤ (1 : Int32) then (f_MO_semaphore_59 M (nI K) (1 : Int32)) else (if ¬ (((5 : Int32) * nI K) < 0 ∨ 1600 ≤ ((5 : Int32) * nI K).toNatClampNeg) then (f_MO_semaphore_59 M (nI K) (xgi M 16 ((5 : Int32) * nI K).toNatClampNeg)) else none)) else none) (XX T E S) := by
  rw [if_pos (m50 hK).1, if_pos (m50 hK).1]
  split
  · exact d_sem59 h hK _
  · exact d_sem59 h hK _
theorem s_sem (h : AL T E t κ w S M) (hI : IPM p S M) : SM (f_RD_readSemaphore S (5 + 21 * p)) (f_MO_semaphore M (nI p)) (fun _ S' M' => QG T E t p S' M') (XX T E) := by
  obtain ⟨⟨n, c, so, ix, hI⟩, hm⟩ := hI
  have hp := hI.1
  unfold f_RD_readSemaphore f_MO_semaphore
  refine (s_new h hI (s := 1) (by decide)).bind (fun r S1 b k1 => ?_) (fun S' b k => ?_)
  · obtain ⟨e1, e2, k1⟩ := k1
    obtain ⟨t1, κ1, v1, g1, g2, g3, g4, g5⟩ := k1.ha (by decide) hm
    obtain ⟨q1, q2, q3⟩ := m50 (K := 40 * p + n) (by omega)
    rw [e2, if_neg (nm1 (by omega)), e1]
    refine (s_number g2 (Or.inl rfl)).bind (fun r S2 b2 k2 => ?_) (fun S' b2 k => ?_)
    · obtain ⟨c1, ⟨a1, a2, t2, κ2, v2, a3, a4, a5⟩, -⟩ := k2
      have g3' := g3.fs a1 a2
      have g4' := g4.fs a1 a2
      rw [if_pos q1, q2, c1]
      refine (s_sign (HA.aM a5 r (j := 5 * (40 * p + n) + 0)) (a := 15) (u := 58) (by decide +kernel) rfl).bind (fun _ S3 M3 k3 => ?_) (fun S' M3 k => ?_)
      · obtain ⟨d1, d2, t3, κ3, v3, d3, d4, d5⟩ := k3
        have g3'' := (g3'.wM (v := 0) (by decide) r).fs d1 d2
        have g4'' := (g4'.wM (j := 5 * (40 * p + n) + 0) (a := r)).fs d1 d2
        have hval : xgi M3 16 (5 * (40 * p + n) + 0) = r := g3''.2.2.2.2.2.2.2 0 (by decide)
        rw [if_pos q3, if_pos q3, hval]
        have hgo : ∀ lo : Int32, SM ((f_WO_expectNumber S3 lo 100 1).bind (xT2 fun v18 S19 => (f_WO_expect S19 6).bind (xT2 fun _ S24 => if xR (8 + 21 * p + 3 * 1) then ((f_RO_setLast S24 (8 + 21 * p + 3 * 1) (0 : Int32) r).bind fun q28 => (f_RO_setLast q28 (8 + 21 * p + 3 * 1) (1 : Int32) v18).bind fun q30 => some (.inl ((), q30))) else none))) (f_MO_semaphore_59 M3 (nI (40 * p + n)) lo) (fun _ S' M' => QG T E t p S' M') (XX T E) := by
          intro lo
          unfold f_MO_semaphore_59
          refine (s_number d5 (Or.inl rfl)).bind (fun r2 S4 b4 k4 => ?_) (fun S' b4 k => ?_)
          · obtain ⟨c4, ⟨u1, u2, t4, κ4, v4, u3, u4, u5⟩, -⟩ := k4
            rw [if_pos (m5 (z := 1) (v := 1) (by omega) (by decide) rfl).1, (m5 (K := 40 * p + n) (z := 1) (v := 1) (by omega) (by decide) rfl).2, xb_id, c4]
            have g5' := (g3''.fs u1 u2).wM (v := 1) (by decide) r2
            have g6' := ((g4'').fs u1 u2).wM (j := 5 * (40 * p + n) + 1) (a := r2)
            have hA4 := HA.aM u5 r2 (j := 5 * (40 * p + n) + 1)
            have hs9 := s_sign hA4 (a := 6) (u := 59) (by decide +kernel) (c := 59) rfl
            rw [← xb_id (f_MO_sign _ _)]
            refine hs9.bind (fun _ S5 M5 k5 => ?_) (fun S' M5 k => OK.mk k)
            obtain ⟨w1, w2, t5, κ5, v5, w3, w4, w5⟩ := k5
            have g7 := g5'.fs w1 w2
            have g8 := g6'.fs w1 w2
            rw [if_pos (rwR hp (by decide)), g7.last w5 (v := 0) (z := 0) (by decide) rfl, Option.bind_some, (g7.wS (v := 0) (by decide) r).last (g7.aS w5 (v := 0) r) (v := 1) (z := 1) (by decide) rfl, Option.bind_some]
            refine SM.ret ⟨⟨t5, κ5, v5, by omega, (g7.wS (v := 0) (by decide) r).aS (g7.aS w5 (v := 0) r) (v := 1) r2⟩, ⟨_, _, _, _, ((g7.wS (v := 0) (by decide) r).wS (v := 1) (by decide) r2).done (fun v hv => ?_)⟩, (g8.wS (by omega)).wS (by omega)⟩
            change v < 2 at hv
            have : v = 0 ∨ v = 1 := by omega
            rcases this with rfl | rfl <;> rfl
          · rw [if_pos (m5 (z := 1) (v := 1) (by omega) (by decide) rfl).1, xb_id]
            exact (d_sign (k.mi (by decide) (by decide)) 59).imp (fun _ g => g.1)
        by_cases h1 : r ≤ 1
        · rw [if_pos h1, if_neg (Int32.not_lt.mpr h1)]
          exact hgo 1
        · rw [if_neg h1, if_pos (Int32.not_le.mp h1)]
          exact hgo r
      · rw [← q2]
        exact d_semT k (by omega)
    · rw [if_pos q1]
      exact (d_sign (k.mi (by decide) (by decide)) 58).bind (fun M' g => d_semT g.1 (by omega))
  · rcases k.2 with e | ⟨e, hn⟩
    · rw [if_pos e]
      exact OK.mk k.1
    · rw [e, if_neg (nm1 (by omega))]
      refine (d_number k.1 0 100 1).bind (fun q g => ?_)
      rw [if_pos (m50 (by omega)).1]
      exact (d_sign (g.1.mi (by decide) (by decide)) 58).bind (fun M' g => d_semT g.1 (by omega))
end Ha
