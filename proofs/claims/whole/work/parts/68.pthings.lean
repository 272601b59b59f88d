/-! a partition's things -/
section Ts
variable {T : Nat → Int32} {E t0 t κ : Nat} {w : Int64} {p n ex : Nat} {c so ix : Nat → Nat} {S M S' M' : XS}
theorem IP.m12 (h : IP p n c so ix ex S M) (h1 : ∀ x y, ¬ x = 12 → xgi M' x y = xgi M x y) (h2 : ∀ x y, xgl M' x y = xgl M x y) : IP p n c so ix ex S M' := by
  have hMA : ∀ k, MA k M M' := fun k => ⟨fun s _ => h1 _ _ (by decide), h1 _ _ (by decide), fun q _ => ⟨h1 _ _ (by decide), h1 _ _ (by decide), h2 _ _⟩, fun j _ _ => h1 _ _ (by decide), h2 _ _, h1 _ _ (by decide), h1 _ _ (by decide), fun j _ => h1 _ _ (by decide)⟩
  obtain ⟨a1, a2, a3, a4, a5, a6, a7, a8, a9⟩ := h
  refine ⟨a1, a2.cg (fun k _ => SA.rf) (fun k _ => hMA k), a3.cg SA.rf (hMA p), a4.cg SA.rf (hMA p), ?_, a6, ?_, ?_, ?_⟩
  · unfold CR
    rw [h1 0 29 (by decide), h1 0 30 (by decide), h1 0 31 (by decide), h1 0 32 (by decide), h1 0 33 (by decide)]
    exact a5
  · rw [h1 0 15 (by decide)]; exact a7
  · rw [h1 11 p (by decide)]; exact a8
  · rw [h1 8 p (by decide)]; exact a9
theorem XX.m12 (h : XX T E S M) (h1 : ∀ x y, ¬ x = 12 → xgi M' x y = xgi M x y) (h2 : ∀ x y, xgl M' x y = xgl M x y) : XX T E S M' := by
  refine ⟨h.1, ⟨fun j => ?_, ?_, fun j => ?_, fun j => ?_, fun j => ?_⟩, h.2.2.1, ?_⟩
  · rw [h1 4 j (by decide)]; exact h.2.1.1 j
  · rw [h1 0 5 (by decide)]; exact h.2.1.2.1
  · rw [h2]; exact h.2.1.2.2.1 j
  · rw [h2]; exact h.2.1.2.2.2.1 j
  · rw [h2]; exact h.2.1.2.2.2.2 j
  · unfold Dm
    rw [h1 0 11 (by decide), h1 0 12 (by decide), h1 0 8 (by decide), h1 0 6 (by decide)]
    exact h.2.2.2
theorem al_expY (h : AL T E t κ w S M) {a k : Nat} (hl : kwl a k) (hk : κ = 1 ∧ w = kwc k) : f_WO_expect S a = (f_WO_next S).bind (xT2 fun _ S6 => some (.inl ((), S6))) := by
  unfold f_WO_expect
  rw [al_is_k h hl, if_pos hk, Option.bind_some, if_neg (by decide)]
theorem al_expN (h : AL T E t κ w S M) {a k : Nat} (hl : kwl a k) (hk : ¬ (κ = 1 ∧ w = kwc k)) : f_WO_expect S a = some (.inr (xpi (xpi S 2 7 1) 2 8 (xgi S 2 2))) := by
  unfold f_WO_expect
  rw [al_is_k h hl, if_neg hk, Option.bind_some, if_pos rfl, fail_b]
theorem d_621 (h : XX T E S M) (a : Int32) : OK ((f_MO_good M).bind fun q11 => f_MO_readErrors_62 4096 M a q11) (XX T E S) := by
  rcases d_good h with ⟨g1, g2⟩ | ⟨g1, g2, g3⟩
  · rw [g1, Option.bind_some]
    unfold f_MO_readErrors_62
    rw [if_pos rfl, xb_id]
    exact (d_sign h 125).imp (fun _ g => g.1)
  · rw [g1, Option.bind_some]
    unfold f_MO_readErrors_62 f_MO_readError
    rw [if_neg (show ¬ (1 : Int32) = 0 by decide), d_kind h g3, Option.bind_some, if_pos rfl, xb_id]
    exact (d_bad h 1).bind (fun M1 g => d_62 g.1 (by decide) a)
theorem d_39 (h : XX T E S M) (a : Int32) : OK (f_MO_readErrors_39 4096 M a (0 : Int32)) (XX T E S) := by
  obtain ⟨M', e1, e2, e3⟩ := mo_39 a 4 0 4096 M rfl (by omega) (by omega)
  rw [show (0 : Int32) = nI 0 from rfl, e1]
  exact d_621 (h.m12 (fun x y q => by rw [e2, if_neg (by omega)]) e3) a
theorem s_errY (h : AL T E t κ w S M) (hI : IPM p S M) (hk : κ = 1 ∧ w = kwc 16) : SM (f_RD_readErrors S (5 + 21 * p)) (f_MO_readErrors M (nI p)) (fun _ S' M' => QG T E t p S' M') (XX T E) := by
  obtain ⟨⟨n, c, so, ix, hI⟩, hm⟩ := hI
  have hp := hI.1
  have e179 : xgi S 179 2 = xgi M 11 p := hI.2.2.2.2.2.2.2.1
  unfold f_RD_readErrors f_MO_readErrors
  rw [if_pos (nI_in hp (by omega)), if_pos (nI_in hp (by omega)), nI_clamp (by omega), ← e179]
  by_cases h0 : xgi S 179 2 = 0
  · rw [if_pos h0, if_pos h0, nb1]
    unfold f_RD_readErrors_28
    rw [al_expY h (a := 18) (k := 16) (by decide +kernel) hk, xT2_as]
    have hA1 : AL T E t κ w S (xpi M 11 p 1) := h.mi (by decide) (by decide)
    refine (s_nx hA1).bind (fun _ S1 M1 k1 => ?_) (fun S' M1 g => (d_sign g 123).bind (fun M2 g2 => d_39 g2.1 _))
    obtain ⟨a1, a2, t1, κ1, v1, a3, a4, a5⟩ := k1
    rw [inl_b]
    refine (s_sign3 (a5.si (i := 179) (j := 2) (x := 1) (by decide) (fun _ => by decide)) (a := 4) (u := 123) (by decide +kernel) rfl).bind (fun _ S2 M2 k2 => ?_) (fun S' M2 g => d_39 g _)
    obtain ⟨⟨b1, b2, t2, κ2, v2, b3, b4, b5⟩, bk⟩ := k2
    have hlt : t < t1 := a4 (by omega)
    obtain ⟨M3, e1, e2, e3⟩ := mo_39 (nI p) 4 0 4096 M2 rfl (by omega) (by omega)
    have e2' : ∀ x y, ¬ x = 12 → xgi M3 x y = xgi M2 x y := fun x y q => by rw [e2, if_neg (by omega)]
    have hI2 := ((hI.set (i := 179) (j := 2) (i' := 11) (j' := p) (a := 1) (a' := 1) (Or.inr ⟨rfl, Or.inr ⟨rfl, rfl⟩, rfl, rfl⟩)).fs (a1.cpi (by decide)) a2).fs b1 b2
    have hm2 : IM p S2 M2 := ((IM.set (i := 179) (j := 2) (a := 1) (i' := 11) (j' := p) (a' := 1) hm (by omega) (by decide)).fs (a1.cpi (by decide)) a2).fs b1 b2
    have hA3 : AL T E t2 κ2 v2 S2 M3 := b5.set b5.2.2.1 ⟨fun j => by rw [e2' 4 j (by decide)]; exact b5.2.2.2.1.1 j, by rw [e2' 0 5 (by decide)]; exact b5.2.2.2.1.2.1, fun j => by rw [e3]; exact b5.2.2.2.1.2.2.1 j, fun j => by rw [e3]; exact b5.2.2.2.1.2.2.2.1 j, fun j => by rw [e3]; exact b5.2.2.2.1.2.2.2.2 j⟩ (fun _ => rfl) rfl (fun j _ _ => e2' 0 j (by decide)) (e3 0 10)
    rw [show (0 : Int32) = nI 0 from rfl, e1, al_good hA3, Option.bind_some]
    refine s_errs 5 0 4096 4096 0 t2 κ2 v2 S2 M3 1 rfl rfl (by omega) (by omega) (by omega) hA3 ⟨⟨n, c, so, ix, hI2.m12 e2' e3⟩, ?_⟩ ⟨by decide, fun j hj => by rw [e2, if_pos ⟨rfl, by omega, hj⟩]; simp⟩ rfl
    unfold IM
    rw [e2' 6 p (by decide)]
    exact hm2
  · rw [if_neg h0, if_neg h0, al_is_k h (a := 18) (w := 16) (by decide +kernel), if_pos hk, Option.bind_some, if_neg (by decide), fail_b, al_fail h, Option.bind_some]
    exact SM.thr (OK.mk (al_xx h (by decide)))
theorem s_errN (h : AL T E t κ w S M) (hk : ¬ (κ = 1 ∧ w = kwc 16)) (a : Nat) : f_RD_readErrors S a = some (.inr (xpi (xpi S 2 7 1) 2 8 (xgi S 2 2))) := by
  have e : f_RD_readErrors_28 S a = some (.inr (xpi (xpi S 2 7 1) 2 8 (xgi S 2 2))) := by
    unfold f_RD_readErrors_28
    rw [al_expN h (a := 18) (k := 16) (by decide +kernel) hk, inr_b]
  unfold f_RD_readErrors
  rw [al_is_k h (a := 18) (w := 16) (by decide +kernel), if_neg hk, Option.bind_some, if_pos rfl, e, ite_self]
/-! which thing -/
def cT (S : XS) (a1 : Nat) : Option ((Unit × XS) ⊕ XS) :=
  (f_WO_whichOf S 8).bind fun q28 => if q28 = 0 then (f_RD_readProcess S a1) else (if q28 = (1 : Int32) then (f_RD_readSemaphore S a1) else (if q28 = (3 : Int32) then (f_RD_readBuffer S a1) else (if q28 = (5 : Int32) then (f_RD_readPort S a1) else (if q28 = (2 : Int32) then ((f_RD_nameThing S a1 q28).bind (xT2 fun _ S32 => (f_WO_expect S32 6).bind (xT2 fun _ S37 => some (.inl ((), S37))))) else (if q28 = (4 : Int32) then ((f_RD_nameThing S a1 q28).bind (xT2 fun _ S47 => (f_WO_expect S47 6).bind (xT2 fun _ S52 => some (.inl ((), S52))))) else (f_RD_readErrors S a1))))))
theorem bi_as {α β : Type} (o : Option Int32) (f : Int32 → Option ((α × XS) ⊕ XS)) (K : α → XS → Option ((β × XS) ⊕ XS)) : (o.bind f).bind (xT2 K) = o.bind fun q => (f q).bind (xT2 K) := by cases o <;> rfl
theorem cT_loop (n : Nat) (S : XS) (a1 : Nat) (a2 : Int32) : f_RD_readPartition_47 (n + 1) S a1 a2 = if (2000 : Int32) ≤ a2 then ((f_RD_closePartition S a1).bind (xT2 fun _ S18 => some (.inl ((), S18)))) else ((f_WO_is S 7).bind fun q21 => if q21 = 0 then ((cT S a1).bind (xT2 fun _ S1 => f_RD_readPartition_47 n S1 a1 (a2 + (1 : Int32)))) else ((f_RD_closePartition S a1).bind (xT2 fun _ S25 => some (.inl ((), S25))))) := by
  conv => lhs; unfold f_RD_readPartition_47
  unfold cT
  simp only [bi_as, xT2_as, ite_b, none_b, inl_b]
abbrev c8 : List Int64 := [kwc 2, kwc 9, kwc 10, kwc 11, kwc 12, kwc 13]
theorem c8_cod : (spl (lit 8)).map cod = c8 ∧ lwd (spl (lit 8)) ∧ kix c8 (kwc 2) 0 = 0 ∧ kix c8 (kwc 9) 0 = 1 ∧ kix c8 (kwc 10) 0 = 2 ∧ kix c8 (kwc 11) 0 = 3 ∧ kix c8 (kwc 12) 0 = 4 ∧ kix c8 (kwc 13) 0 = 5 := by decide +kernel
theorem al_t0 (h : AL T E t κ w S M) (a : Int32) : ∃ z, f_MO_thingOf M a = f_MO_thingOf_16 M a z ∧ ∀ j, j < 23 → (z = nI j ↔ κ = 1 ∧ w = kwc j) := by
  unfold f_MO_thingOf
  rw [al_tk h, al_wd h]
  simp only [(tkn_k (v := w) (al_k h)).2.1]
  by_cases h2 : κ = 1 ∧ ¬ kix mwords w 0 = -1
  · rw [if_pos h2]
    refine ⟨_, rfl, fun j hj => ?_⟩
    unfold wrd
    rw [if_pos h2.1, kw_iff hj]
    exact ⟨fun e => ⟨h2.1, e⟩, fun e => e.2⟩
  · rw [if_neg h2]
    refine ⟨_, rfl, fun j hj => ⟨fun e => absurd e.symm (nm1 (by omega)), fun e => ?_⟩⟩
    exfalso
    refine h2 ⟨e.1, fun e3 => ?_⟩
    have := (kw_iff (v := w) hj).mpr e.2
    rw [e3] at this
    exact nm1 (K := j) (by omega) this.symm
theorem s_thing (h : AL T E t κ w S M) (hI : IPM p S M) : SM (cT S (5 + 21 * p)) (f_MO_thingOf M (nI p)) (fun _ S' M' => QG T E t p S' M') (XX T E) := by
  obtain ⟨z, e1, e2⟩ := al_t0 h (nI p)
  unfold cT
  rw [e1, al_which h (a := 8) (by decide) c8_cod.2.1, c8_cod.1, Option.bind_some]
  unfold f_MO_thingOf_16
  simp only [xb_id]
  have z2 := e2 2 (by decide)
  have z9 := e2 9 (by decide)
  have z10 := e2 10 (by decide)
  have z11 := e2 11 (by decide)
  have z12 := e2 12 (by decide)
  have z13 := e2 13 (by decide)
  have z16 := e2 16 (by decide)
  by_cases h2 : κ = 1 ∧ w = kwc 2
  · rw [if_pos h2.1, h2.2, c8_cod.2.2.1, if_pos rfl, z2.mpr h2, if_pos (by rfl)]
    exact s_proc h hI
  by_cases h9 : κ = 1 ∧ w = kwc 9
  · rw [if_pos h9.1, h9.2, c8_cod.2.2.2.1, z9.mpr h9]
    exact s_sem h hI
  by_cases h10 : κ = 1 ∧ w = kwc 10
  · rw [if_pos h10.1, h10.2, c8_cod.2.2.2.2.1, z10.mpr h10]
    exact s_plain h hI (s := 2) (by decide) rfl rfl rfl
  by_cases h11 : κ = 1 ∧ w = kwc 11
  · rw [if_pos h11.1, h11.2, c8_cod.2.2.2.2.2.1, z11.mpr h11]
    exact s_buf h hI
  by_cases h12 : κ = 1 ∧ w = kwc 12
  · rw [if_pos h12.1, h12.2, c8_cod.2.2.2.2.2.2.1, z12.mpr h12]
    exact s_plain h hI (s := 4) (by decide) rfl rfl rfl
  by_cases h13 : κ = 1 ∧ w = kwc 13
  · rw [if_pos h13.1, h13.2, c8_cod.2.2.2.2.2.2.2, z13.mpr h13]
    exact s_port h hI
  have en : (if κ = 1 then kix c8 w 0 else -1) = -1 := by
    by_cases hk : κ = 1
    · rw [if_pos hk]
      simp only [c8, kix]
      rw [if_neg (fun e => h2 ⟨hk, e.symm⟩), if_neg (fun e => h9 ⟨hk, e.symm⟩), if_neg (fun e => h10 ⟨hk, e.symm⟩), if_neg (fun e => h11 ⟨hk, e.symm⟩), if_neg (fun e => h12 ⟨hk, e.symm⟩), if_neg (fun e => h13 ⟨hk, e.symm⟩)]
    · rw [if_neg hk]
  rw [en, if_neg (show ¬ (-1 : Int32) = 0 by decide), if_neg (show ¬ (-1 : Int32) = 1 by decide), if_neg (show ¬ (-1 : Int32) = 3 by decide), if_neg (show ¬ (-1 : Int32) = 5 by decide), if_neg (show ¬ (-1 : Int32) = 2 by decide), if_neg (show ¬ (-1 : Int32) = 4 by decide)]
  rw [if_neg (c := z = 2) (fun e => h2 (z2.mp e)), if_neg (c := z = 9) (fun e => h9 (z9.mp e)), if_neg (c := z = 10) (fun e => h10 (z10.mp e)), if_neg (c := z = 11) (fun e => h11 (z11.mp e)), if_neg (c := z = 12) (fun e => h12 (z12.mp e)), if_neg (c := z = 13) (fun e => h13 (z13.mp e))]
  by_cases h16 : κ = 1 ∧ w = kwc 16
  · rw [z16.mpr h16, if_pos (by rfl)]
    exact s_errY h hI h16
  · rw [if_neg (c := z = 16) (fun e => h16 (z16.mp e)), s_errN h h16, al_bad h]
    exact SM.thr (OK.mk (al_xx h (by decide)))
/-! the partition's end -/
def P1 (np : Nat) (S M : XS) : Prop := np ≤ 8 ∧ DN np S M ∧ CR S M ∧ xgi S 3 1 = nI np ∧ xgi M 0 15 = nI np
def QP (T : Nat → Int32) (E t np : Nat) (S' M' : XS) : Prop := (∃ t' κ v, t ≤ t' ∧ AL T E t' κ v S' M') ∧ P1 np S' M'
theorem IPM.done (h : IPM p S M) : P1 (p + 1) S M := by
  obtain ⟨⟨n, c, so, ix, h1, h2, h3, h4, h5, h6, h7, -, -⟩, hm⟩ := h
  refine ⟨by omega, fun k hk => ?_, h5, h6, h7⟩
  by_cases e : k = p
  · subst e
    exact ⟨h3, hm, n, c, so, ix, h4⟩
  · exact h2 k (by omega)
theorem P1.fs {np : Nat} (h : P1 np S M) (hs : FS S S') (hm : FM M M') : P1 np S' M' := by
  obtain ⟨h1, h2, h3, h4, h5⟩ := h
  refine ⟨h1, h2.fs hs hm, h3.fs hs hm, ?_, ?_⟩
  · rw [hs.1 3 1 (by decide)]; exact h4
  · rw [hm.2.1 15 (by decide)]; exact h5
theorem s_close (h : AL T E t κ w S M) (hI : IPM p S M) (hk : κ = 3 ∧ w = lN 125) : SM (f_RD_closePartition S (5 + 21 * p)) (f_MO_readPartition_159 M (nI p)) (fun _ S' M' => QP T E t (p + 1) S' M') (XX T E) := by
  have hD := hI.done
  obtain ⟨⟨n, c, so, ix, hI⟩, hm⟩ := hI
  have hp := hI.1
  have e179 : xgi S 179 3 = xgi M 8 p := hI.2.2.2.2.2.2.2.2
  have e2 : xgi S (5 + 21 * p) 2 = xgi M 7 p := hI.2.2.1.2.1
  have fin : SM ((f_WO_expect S 7).bind (xT2 fun _ S87 => some (.inl ((), S87)))) (f_MO_sign M (125 : Int32)) (fun _ S' M' => QP T E t (p + 1) S' M') (XX T E) := by
    refine ((s_sign h (a := 7) (u := 125) (by decide +kernel) rfl).imp (fun _ S3 M3 k3 => ?_) (fun _ _ k => k)).idl
    obtain ⟨d1, d2, t3, κ3, v3, d3, d4, d5⟩ := k3
    exact ⟨⟨t3, κ3, v3, by omega, d5⟩, hD.fs d1 d2⟩
  unfold f_RD_closePartition f_MO_readPartition_159
  simp only [xb_id]
  rw [al_is_s h (a := 7) (u := 125) (by decide +kernel), if_pos hk, Option.bind_some, if_neg (show ¬ (1 : Int32) = 0 by decide), al_good h, Option.bind_some, if_neg (show ¬ (1 : Int32) = 0 by decide), if_pos (nI_in hp (by omega)), if_pos (nI_in hp (by omega)), if_pos (nI_in hp (by omega)), nI_clamp (by omega), ← e179, ← e2, if_pos (cpP hp)]
  by_cases h1 : xgi S 179 3 = -1
  · rw [if_pos h1, if_pos h1]
    exact fin
  · rw [if_neg h1, if_neg h1]
    by_cases h3 : xgi S (5 + 21 * p) 2 = -1
    · rw [if_pos h3, if_pos h3]
      unfold f_WO_failAt
      rw [fail_b, inr_b, al_fail h, Option.bind_some]
      exact SM.thr ((d_sign (al_xp h (by decide)) 125).imp (fun _ g => g.1))
    · rw [if_neg h3, if_neg h3]
      exact fin
theorem d_159 (h : XX T E S M) (hh : ¬ xgi M 0 11 = 0) (a : Int32) : OK (f_MO_readPartition_159 M a) (XX T E S) := by
  unfold f_MO_readPartition_159
  rw [d_hard hh, Option.bind_some, if_pos rfl, xb_id]
  exact (d_sign h 125).imp (fun _ g => g.1)
theorem d_135 (h : XX T E S M) {m : Nat} (hm : 1 < m) (a : Int32) : OK (f_MO_readPartition_135 m M a) (XX T E S) := by
  obtain ⟨m, rfl⟩ : ∃ k, m = k + 1 := ⟨m - 1, by omega⟩
  unfold f_MO_readPartition_135
  rcases d_good h with ⟨g1, g2⟩ | ⟨g1, g2, g3⟩
  · rw [g1, Option.bind_some, if_pos rfl]
    exact d_159 h g2 a
  · rw [g1, Option.bind_some, if_neg (show ¬ (1 : Int32) = 0 by decide), d_isSign h, Option.bind_some, if_pos rfl]
    unfold f_MO_thingOf f_MO_thingOf_16
    rw [g3, if_neg (show ¬ (5 : Int32) = 2 by decide), if_neg (by decide), if_neg (by decide), if_neg (by decide), if_neg (by decide), if_neg (by decide), if_neg (by decide), if_neg (by decide), xb_id]
    refine (d_bad h 1).bind (fun M1 g => ?_)
    obtain ⟨m, rfl⟩ : ∃ k, m = k + 1 := ⟨m - 1, by omega⟩
    unfold f_MO_readPartition_135
    rw [d_hard g.2.2, Option.bind_some, if_pos rfl]
    exact d_159 g.1 g.2.2 a
theorem s_things : ∀ (d cnt n m t κ : Nat) (w : Int64) (S M : XS), E - t ≤ d → cnt < t → 4096 ≤ n + cnt → 4096 ≤ m + cnt → t0 ≤ t → AL T E t κ w S M → IPM p S M →
    SM (f_RD_readPartition_47 n S (5 + 21 * p) (nI cnt)) (f_MO_readPartition_135 m M (nI p)) (fun _ S' M' => QP T E t0 (p + 1) S' M') (XX T E) := by
  intro d
  induction d with
  | zero =>
    intro cnt n m t κ w S M hd hc hn hm ht h hI
    have hE := h.2.1
    obtain ⟨n, rfl⟩ : ∃ k, n = k + 1 := ⟨n - 1, by
      have : t ≤ E := h.2.2.2.2.elim fun _ hR => hR.1.2.1
      omega⟩
    obtain ⟨m, rfl⟩ : ∃ k, m = k + 1 := ⟨m - 1, by
      have : t ≤ E := h.2.2.2.2.elim fun _ hR => hR.1.2.1
      omega⟩
    have hte : t ≤ E := h.2.2.2.2.elim fun _ hR => hR.1.2.1
    rw [cT_loop]
    unfold f_MO_readPartition_135
    rw [if_neg (by rw [ge_lit (x := 2000) (n := 2000) (by omega) (by omega) rfl]; omega), al_is_s h (a := 7) (u := 125) (by decide +kernel), Option.bind_some, al_good h, Option.bind_some, if_neg (show ¬ (1 : Int32) = 0 by decide), al_sg h (u := 125) (by decide) (c := 125) rfl, Option.bind_some]
    by_cases hk : κ = 3 ∧ w = lN 125
    · rw [if_pos hk, if_neg (show ¬ (1 : Int32) = 0 by decide), if_neg (show ¬ (1 : Int32) = 0 by decide)]
      refine ((s_close h hI hk).imp (fun _ S1 M1 g => ?_) (fun _ _ g => g)).idl
      obtain ⟨⟨t1, κ1, v1, g1, g2⟩, g3⟩ := g
      exact ⟨⟨t1, κ1, v1, by omega, g2⟩, g3⟩
    · rw [if_neg hk, if_pos rfl, if_pos rfl]
      refine (s_thing h hI).bind (fun _ S1 M1 g => ?_) (fun S' M1 g => d_135 g (by omega) _)
      obtain ⟨⟨t1, κ1, v1, g1, g2⟩, g3⟩ := g
      have : t1 ≤ E := g2.2.2.2.2.elim fun _ hR => hR.1.2.1
      omega
  | succ d ih =>
    intro cnt n m t κ w S M hd hc hn hm ht h hI
    have hE := h.2.1
    have hte : t ≤ E := h.2.2.2.2.elim fun _ hR => hR.1.2.1
    obtain ⟨n, rfl⟩ : ∃ k, n = k + 1 := ⟨n - 1, by omega⟩
    obtain ⟨m, rfl⟩ : ∃ k, m = k + 1 := ⟨m - 1, by omega⟩
    rw [cT_loop]
    unfold f_MO_readPartition_135
    rw [if_neg (by rw [ge_lit (x := 2000) (n := 2000) (by omega) (by omega) rfl]; omega), al_is_s h (a := 7) (u := 125) (by decide +kernel), Option.bind_some, al_good h, Option.bind_some, if_neg (show ¬ (1 : Int32) = 0 by decide), al_sg h (u := 125) (by decide) (c := 125) rfl, Option.bind_some]
    by_cases hk : κ = 3 ∧ w = lN 125
    · rw [if_pos hk, if_neg (show ¬ (1 : Int32) = 0 by decide), if_neg (show ¬ (1 : Int32) = 0 by decide)]
      refine ((s_close h hI hk).imp (fun _ S1 M1 g => ?_) (fun _ _ g => g)).idl
      obtain ⟨⟨t1, κ1, v1, g1, g2⟩, g3⟩ := g
      exact ⟨⟨t1, κ1, v1, by omega, g2⟩, g3⟩
    · rw [if_neg hk, if_pos rfl, if_pos rfl, nI_1]
      refine (s_thing h hI).bind (fun _ S1 M1 g => ?_) (fun S' M1 g => d_135 g (by omega) _)
      obtain ⟨⟨t1, κ1, v1, g1, g2⟩, g3⟩ := g
      exact ih (cnt + 1) n m t1 κ1 v1 S1 M1 (by omega) (by omega) (by omega) (by omega) (by omega) g2 g3
end Ts
