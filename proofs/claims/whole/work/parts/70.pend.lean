/-! channels: an end of one -/
def CHR (nc : Nat) (S M : XS) : Prop := ∀ i, i < nc → xgi S 175 (8 * i) = xgi M 18 i ∧ xgi S 175 (8 * i + 1) = xgi M 19 i ∧ xgi S 175 (8 * i + 2) = xgi M 20 i ∧ ∃ g, g ≤ 4 ∧ xgi S 175 (8 * i + 3) = nI g ∧ xgi M 21 i = nI g ∧ ∀ j, j < 4 → xgi S 175 (8 * i + 4 + j) = if j < g then xgi M 22 (4 * i + j) else -1
def IC (np nc : Nat) (ci : Int32) (x : Nat → Int32) (S M : XS) : Prop :=
  np ≤ 8 ∧ DN np S M ∧ xgi S 3 1 = nI np ∧ xgi M 0 15 = nI np ∧ nc < 16 ∧ CHR nc S M ∧ xgi S 173 4 = nI (nc + 1) ∧ xgi M 0 29 = nI nc ∧ xgi S 3 4 = xgi M 0 32 + ci ∧ xgi S 3 5 = xgi M 0 33 ∧ (xgi S 176 4 = 0 ∧ xgi S 3 6 = 0) ∧ (xgi M 0 30 = 0 ∧ xgi M 0 31 = 0) ∧ (∀ v, v < 8 → xgi S 175 (8 * nc + v) = x v)
section Ic
variable {T : Nat → Int32} {E t0 t κ : Nat} {w : Int64} {np nc : Nat} {ci : Int32} {x : Nat → Int32} {S M S' M' : XS}
theorem CHR.cg (h : CHR nc S M) (hs : ∀ j, j < 8 * nc → xgi S' 175 j = xgi S 175 j) (hm : ∀ i, i < nc → xgi M' 18 i = xgi M 18 i ∧ xgi M' 19 i = xgi M 19 i ∧ xgi M' 20 i = xgi M 20 i ∧ xgi M' 21 i = xgi M 21 i) (hm2 : ∀ j, j < 4 * nc → xgi M' 22 j = xgi M 22 j) : CHR nc S' M' := by
  intro i hi
  obtain ⟨a1, a2, a3, g, a4, a5, a6, a7⟩ := h i hi
  obtain ⟨b1, b2, b3, b4⟩ := hm i hi
  refine ⟨?_, ?_, ?_, g, a4, ?_, ?_, fun j hj => ?_⟩
  · rw [hs _ (by omega), b1]; exact a1
  · rw [hs _ (by omega), b2]; exact a2
  · rw [hs _ (by omega), b3]; exact a3
  · rw [hs _ (by omega)]; exact a5
  · rw [b4]; exact a6
  · rw [hs _ (by omega), hm2 _ (by omega)]; exact a7 j hj
theorem IC.fs (h : IC np nc ci x S M) (hs : FS S S') (hm : FM M M') : IC np nc ci x S' M' := by
  obtain ⟨h1, h2, h3, h4, h5, h6, h7, h8, h9, h10, h11, h12, h13⟩ := h
  refine ⟨h1, h2.fs hs hm, ?_, ?_, h5, h6.cg (fun j _ => hs.1 _ _ (by decide)) (fun i _ => ⟨hm.1 _ _ (by decide), hm.1 _ _ (by decide), hm.1 _ _ (by decide), hm.1 _ _ (by decide)⟩) (fun j _ => hm.1 _ _ (by decide)), ?_, ?_, ?_, ?_, ⟨?_, ?_⟩, ⟨?_, ?_⟩, fun v hv => ?_⟩
  · rw [hs.1 _ _ (by decide)]; exact h3
  · rw [hm.2.1 _ (by decide)]; exact h4
  · rw [hs.1 _ _ (by decide)]; exact h7
  · rw [hm.2.1 _ (by decide)]; exact h8
  · rw [hs.1 _ _ (by decide), hm.2.1 _ (by decide)]; exact h9
  · rw [hs.1 _ _ (by decide), hm.2.1 _ (by decide)]; exact h10
  · rw [hs.1 _ _ (by decide)]; exact h11.1
  · rw [hs.1 _ _ (by decide)]; exact h11.2
  · rw [hm.2.1 _ (by decide)]; exact h12.1
  · rw [hm.2.1 _ (by decide)]; exact h12.2
  · rw [hs.1 _ _ (by decide)]; exact h13 v hv
/-- a port gets its channel -/
theorem DN.port (h : DN np S M) {k n q : Nat} {c so ix : Nat → Nat} (hk : k < np) (hT : TH k n c so ix 1000 S M) (hq : q < n) (h5 : so q = 5) (a : Int32) : DN np (xpi S (8 + 21 * k + 3 * 5 + 2) (ix q * 3 + 2) a) (xpi M 16 (5 * (40 * k + q) + 2) a) := by
  have hn := hT.n_le
  intro k' hk'
  by_cases e : k' = k
  · subst e
    obtain ⟨h1, h2, -⟩ := h k' hk'
    have hw : TH k' n c so ix q (xpi S (8 + 21 * k' + 3 * so q + 2) (ix q * wd (so q) + 2) a) (xpi M 16 (5 * (40 * k' + q) + 2) a) := ((hT.opn q).exS hq (v := 2) (by rw [h5]; decide) a).exM (by decide) a
    refine ⟨⟨h1.1, ?_, fun j hj => ?_⟩, ?_, n, c, so, ix, ?_⟩
    · rw [gii, if_neg (by omega)]; exact h1.2.1
    · rw [gii, if_neg (by omega)]; exact h1.2.2 j hj
    · rw [gii, if_neg (by omega)]; exact h2
    · have hc := hw.close (fun v hv => ?_)
      · rw [h5] at hc
        exact hc
      · rw [gii, gii]
        by_cases ev : v = 2
        · rw [if_pos (by rw [ev]; exact ⟨rfl, rfl⟩), if_pos ⟨rfl, by omega⟩]
        · rw [if_neg (by omega), if_neg (by omega)]
          exact hT.2.2.2.2.1 q hq (by omega) v hv
  · exact (h k' hk').cg (SA.pi (by omega)) (MA.pi (by omega) (by omega) (by omega) (by omega) (by omega))
theorem IC.port (h : IC np nc ci x S M) {k n q : Nat} {c so ix : Nat → Nat} (hk : k < np) (hT : TH k n c so ix 1000 S M) (hq : q < n) (h5 : so q = 5) (a : Int32) : IC np nc ci x (xpi S (8 + 21 * k + 3 * 5 + 2) (ix q * 3 + 2) a) (xpi M 16 (5 * (40 * k + q) + 2) a) := by
  obtain ⟨h1, h2, h3, h4, h5', h6, h7, h8, h9, h10, h11, h12, h13⟩ := h
  refine ⟨h1, h2.port hk hT hq h5 a, ?_, h4, h5', h6.cg (fun j _ => ?_) (fun i _ => ⟨rfl, rfl, rfl, rfl⟩) (fun j _ => rfl), ?_, h8, ?_, ?_, ⟨?_, ?_⟩, h12, fun v hv => ?_⟩
  · rw [gii, if_neg (by omega)]; exact h3
  · rw [gii, if_neg (by omega)]
  · rw [gii, if_neg (by omega)]; exact h7
  · rw [gii, if_neg (by omega)]; exact h9
  · rw [gii, if_neg (by omega)]; exact h10
  · rw [gii, if_neg (by omega)]; exact h11.1
  · rw [gii, if_neg (by omega)]; exact h11.2
  · rw [gii, if_neg (by omega)]; exact h13 v hv
theorem d_80 (h : XX T E S M) (hh : ¬ xgi M 0 11 = 0) (a b c : Int32) : f_MO_readEnd_80 M a b c = some (-1, M) := by
  unfold f_MO_readEnd_80
  rw [d_hard hh, Option.bind_some, if_pos rfl]
/-- the reference behind the dot, at a fault -/
theorem d_dot (h : XX T E S M) (a b c : Int32) : OK ((f_MO_good M).bind fun q10 => if q10 = 0 then (f_MO_readEnd_80 M a b c) else (if (xgi M 0 8) = (1 : Int32) then (f_MO_readEnd_80 M a b c) else ((f_MO_bad M (1 : Int32)).bind fun q12 => f_MO_readEnd_80 q12 a b c))) (fun q => XX T E S q.2 ∧ DF M q.2) := by
  rcases d_good h with ⟨g1, g2⟩ | ⟨g1, g2, g3⟩
  · rw [g1, Option.bind_some, if_pos rfl, d_80 h g2]
    exact OK.mk ⟨h, DF.rf⟩
  · rw [g1, Option.bind_some, if_neg (show ¬ (1 : Int32) = 0 by decide), g3, if_neg (by decide)]
    refine (d_bad h 1).bind (fun M1 g => ?_)
    rw [d_80 g.1 g.2.2]
    exact OK.mk ⟨g.1, g.2.1⟩
theorem d_end (h : XX T E S M) (a b : Int32) : OK (f_MO_readEnd M a b) (fun q => XX T E S q.2 ∧ DF M q.2) := by
  unfold f_MO_readEnd
  rcases d_good h with ⟨g1, g2⟩ | ⟨g1, g2, g3⟩
  · rw [g1, Option.bind_some, if_pos rfl]
    exact OK.mk ⟨h, DF.rf⟩
  · rw [g1, Option.bind_some, if_neg (show ¬ (1 : Int32) = 0 by decide), g3, if_neg (by decide)]
    exact (d_bad h 1).bind (fun M1 g => OK.mk ⟨g.1, g.2.1⟩)
/-- steps with what the reference keeps behind a fault -/
def MX (M M' : XS) : Prop := (∀ i j, ¬ i = 0 → xgi M' i j = xgi M i j) ∧ (∀ j, 12 < j → xgi M' 0 j = xgi M 0 j)
theorem MX.fm (h : FM M M') : MX M M' := ⟨h.1, fun j hj => h.2.1 j (by omega)⟩
theorem MX.df (h : DF M M') : MX M M' := ⟨fun i j hi => h.1 i j (by omega), fun j hj => h.1 0 j (by omega)⟩
theorem MX.tr {M1 : XS} (h : MX M M1) (k : MX M1 M') : MX M M' := ⟨fun i j hi => (k.1 i j hi).trans (h.1 i j hi), fun j hj => (k.2 j hj).trans (h.2 j hj)⟩
def XG (T : Nat → Int32) (E : Nat) (M : XS) : XS → XS → Prop := fun S' M' => XX T E S' M' ∧ MX M M'
theorem s_nxF (h : AL T E t κ w S M) : SM (f_WO_next S) (f_MO_next M) (fun _ S' M' => NX T E t S M S' M') (XG T E M) := by
  obtain ⟨hb, hE, hS, hM, f, hR, hZ⟩ := h
  refine (s_nextF hb hE hR.2.1 hS hM hR.2.2.1 hR.2.2.2.2.1 hR.2.2.2.2.2.2.2.2.2.1 hR.2.2.2.2.2.2.2.2.2.2.2.2.2.1).imp (fun _ S' M' g => ?_) (fun _ _ g => ⟨g.1, MX.fm g.2⟩)
  obtain ⟨g1, g2, f', t', κ', v', g3, g4, g5⟩ := g
  have := g5.1
  exact ⟨g1, g2, t', κ', v', by omega, fun q => by have := g4 q; omega, hb, hE, hS.fs g1, hM.fm g2, f', g5, hZ.fs g1 g2⟩
theorem s_signF (h : AL T E t κ w S M) {a u : Nat} (hl : sgl a u) {c : Int32} (hc : c = nI u) : SM (f_WO_expect S a) (f_MO_sign M c) (fun _ S' M' => NX T E t S M S' M') (XG T E M) := by
  unfold f_WO_expect f_MO_sign
  rw [al_is_s h hl, al_sg h hl.2.1 hc]
  simp only [Option.bind_some, xb_id]
  by_cases h9 : κ = 3 ∧ w = lN u
  · simp only [if_pos h9]
    rw [if_neg (by decide), if_neg (by decide)]
    exact (s_nxF h).idl
  · simp only [if_neg h9, if_true]
    rw [fail_b, al_bad h]
    exact SM.thr (OK.mk ⟨al_xx h (by decide), MX.df DF.fp⟩)
/-- what the reference's channel row keeps through an end -/
def MK (M M' : XS) : Prop := ∀ i j, 17 < i → xgi M' i j = xgi M i j
theorem MK.fm (h : FM M M') : MK M M' := fun i j hi => h.1 i j (by omega)
theorem MK.df (h : DF M M') : MK M M' := fun i j hi => h.1 i j (by omega)
theorem MK.tr {M1 : XS} (h : MK M M1) (k : MK M1 M') : MK M M' := fun i j hi => (k i j hi).trans (h i j hi)
theorem MK.p16 {j : Nat} {a : Int32} : MK M (xpi M 16 j a) := fun i b hi => by rw [gii, if_neg (by omega)]
theorem s_end (h : AL T E t κ w S M) (hC : IC np nc ci x S M) {a kw : Nat} (hl : kwl a kw) (hk : ¬ (κ = 1 ∧ w = kwc kw)) (way md : Int32) :
    SM (f_RD_readEnd S a way md) (f_MO_readEnd M way md) (fun r S' b => b.1 = r ∧ (∃ k, k < 8 ∧ r = nI k) ∧ (∃ t' κ' v', t ≤ t' ∧ AL T E t' κ' v' S' b.2) ∧ IC np nc ci x S' b.2 ∧ MK M b.2) (fun S' b => XX T E S' b.2) := by
  unfold f_RD_readEnd f_RD_readPartitionName f_MO_readEnd
  rw [al_is_k h hl, if_neg hk, Option.bind_some, if_pos rfl, al_good h, Option.bind_some, if_neg (show ¬ (1 : Int32) = 0 by decide)]
  rcases al_name h with ⟨e1, e2, e3, e4, e5⟩ | ⟨e1, e2⟩
  · rw [e5, inl_b, e3, if_pos rfl, e4]
    rcases fp hC.2.1 hC.1 hC.2.2.1 hC.2.2.2.1 w with ⟨f1, f2⟩ | ⟨k, hk8, f1, f2⟩
    · rw [f1, f2, Option.bind_some, Option.bind_some, if_pos rfl, if_pos rfl, fail_b, inr_b, al_fail h, Option.bind_some]
      exact SM.thr (OK.mk (al_xx h (by decide)))
    · have hnp := hC.1
      rw [f1, f2, Option.bind_some, Option.bind_some, if_neg (nm1 (by omega)), if_neg (nm1 (by omega)), xT2_as]
      refine (s_nx h).bind (fun _ S1 M1 k1 => ?_) (fun S' M1 g => (d_sign g 46).bind (fun M2 g2 => (d_dot g2.1 way md (nI k)).imp (fun _ g => g.1)))
      · obtain ⟨a1, a2, t1, κ1, v1, a3, a4, a5⟩ := k1
        have hC1 := hC.fs a1 a2
        rw [inl_b]
        refine (s_sign a5 (a := 23) (u := 46) (by decide +kernel) rfl).bind (fun _ S2 M2 k2 => ?_) (fun S' M2 g => (d_dot g way md (nI k)).imp (fun _ g => g.1))
        · obtain ⟨b1, b2, t2, κ2, v2, b3, b4, b5⟩ := k2
          have hC2 := hC1.fs b1 b2
          have hK2 : MK M M2 := (MK.fm a2).tr (MK.fm b2)
          rw [al_good b5, Option.bind_some, if_neg (show ¬ (1 : Int32) = 0 by decide)]
          rcases al_name b5 with ⟨u1, u2, u3, u4, u5⟩ | ⟨u1, u2⟩
          · rw [u5, inl_b, u3, if_pos rfl]
            unfold f_CF_partitionAt
            rw [hC2.2.2.1, if_neg (nI_pos (by omega)), if_neg (nI_ge (by omega) (by omega)), if_pos (nI_in (by omega) (by omega)), nI_clamp (n := k) (by omega), Option.bind_some]
            show SM (if xP (5 + 21 * k) then _ else _) _ _ _
            have e5n : (5 : Int32).toNatClampNeg = 5 := rfl
            rw [if_pos (cpP (by omega)), if_pos (by decide), e5n, rw_eq, if_pos (rwR (by omega) (by decide))]
            obtain ⟨-, -, n, c, so, ix, hT⟩ := hC2.2.1 k (by omega)
            have hn := hT.n_le
            have c5 := hT.1 5 (by decide)
            have hms : ms 5 = 8 := rfl
            have hrow := b5.2.2.1.2.2.2 _ (rwR (k := k) (s := 5) (by omega) (by decide))
            rw [(rwQ (by omega) (by decide)).1, (rwQ (by omega) (by decide)).2] at hrow
            have hwd : wd 5 = 3 := rfl
            have hfd := mo_find (M := M2) (k := k) (by omega) (by omega) hT.2.2.1 v2 n 0 4096 rfl (by omega) (by omega)
            have hrf := ro_find (S := S2) (rwR (k := k) (s := 5) (by omega) (by decide)) (rwQ (by omega) (by decide)).1 c5.2.1 c5.1 (by decide) v2 (c 5) 0 4096 rfl (by omega) (by omega)
            unfold f_MO_readEnd_80
            rw [al_good b5, Option.bind_some, if_neg (show ¬ (1 : Int32) = 0 by decide), u4]
            have emf : f_MO_find M2 (nI k) v2 = f_MO_find_6 4096 M2 (nI k) v2 (nI (40 * k + 0)) := by
              unfold f_MO_find
              rw [show (40 : Int32) = nI 40 from rfl, pk_mul]
              rfl
            have ecf : f_RO_find S2 (8 + 21 * k + 3 * 5) v2 = f_RO_find_2 4096 S2 (8 + 21 * k + 3 * 5) v2 (nI 0) := rfl
            rw [emf, ecf]
            rcases hfd with ⟨f3, f4⟩ | ⟨q, f3, f4, f5, f6⟩
            · -- no such thing
              rcases hrf with ⟨r1, r2⟩ | ⟨i, r1, r2, r3, r4⟩
              · rw [f3, r1, Option.bind_some, Option.bind_some, if_pos rfl, if_pos rfl, fail_b]
                unfold f_MO_readEnd_117
                rw [al_fail b5, Option.bind_some]
                exact SM.thr (OK.mk (al_xx b5 (by decide)))
              · exfalso
                obtain ⟨q, q1, q2, q3⟩ := hT.2.2.2.2.2.1 5 i (by decide) r2
                have := (hT.2.2.2.1 q q1).2.2.2.2
                rw [q2, q3, r4] at this
                exact f4 q (by omega) q1 this.symm
            · obtain ⟨s1, s2, s3, s4, s5⟩ := hT.2.2.2.1 q f4
              rw [f5, Option.bind_some, if_neg (nm1 (by omega)), if_pos (nI_in (by omega) (by omega)), nI_clamp (by omega), s3]
              by_cases hp5 : so q = 5
              · rcases hrf with ⟨r1, r2⟩ | ⟨i, r1, r2, r3, r4⟩
                · exfalso
                  rw [hp5] at s2 s5
                  exact r2 (ix q) (by omega) s2 (s5.trans f6)
                · have hiq : i = ix q := by
                    obtain ⟨q', q1, q2, q3⟩ := hT.2.2.2.2.2.1 5 i (by decide) r2
                    have e9 := (hT.2.2.2.1 q' q1).2.2.2.2
                    rw [q2, q3, r4] at e9
                    have := hT.2.2.2.2.2.2 q' q q1 f4 (e9.symm.trans f6.symm)
                    subst this
                    exact q3.symm
                  subst hiq
                  obtain ⟨g0, g0'⟩ := (show _ ∧ _ from ⟨(m50 (K := 40 * k + q) (by omega)).1, (m50 (K := 40 * k + q) (by omega)).2.1⟩)
                  obtain ⟨g1, g1'⟩ := m5 (K := 40 * k + q) (z := 1) (v := 1) (by omega) (by decide) rfl
                  obtain ⟨g2, g2'⟩ := m5 (K := 40 * k + q) (z := 2) (v := 2) (by omega) (by decide) rfl
                  rw [r3, Option.bind_some, if_neg (nm1 (by omega)), hp5, if_pos (by rfl), if_pos g0, if_pos g1, if_pos g2, if_pos g2, g0', g1', g2']
                  have val : ∀ v, v < 3 → xgi M2 16 (5 * (40 * k + q) + v) = xgi S2 (8 + 21 * k + 3 * 5 + 2) (ix q * 3 + v) := fun v hv => by
                    have := hT.2.2.2.2.1 q f4 (by omega) v (by rw [hp5]; exact hv)
                    rw [hp5] at this
                    exact this.symm
                  have getv : ∀ (v : Nat) (z : Int32), v < 3 → z = nI v → f_RO_get S2 (8 + 21 * k + 3 * 5) (nI (ix q)) z = some (xgi S2 (8 + 21 * k + 3 * 5 + 2) (ix q * 3 + v)) := by
                    intro v z hv hz
                    rcases ro_get (S := S2) (rwR (k := k) (s := 5) (by omega) (by decide)) (rwQ (by omega) (by decide)).1 (rwQ (by omega) (by decide)).2 hrow.2 c5.2.1 c5.1 (by decide) (by decide) (nI (ix q)) z with ⟨i', j', y1, y2, y3, y4, y5⟩ | ⟨y1, y2⟩
                    · rw [nI_eq (by omega) (by omega)] at y3
                      rw [hz, nI_eq (by omega) (by omega)] at y4
                      subst y3
                      subst y4
                      exact y5
                    · exfalso
                      rw [hz] at y2
                      rcases y2 with y2 | y2 | y2 | y2
                      · exact nI_pos (by omega) y2
                      · rw [nI_leI (by omega) (by omega)] at y2; omega
                      · exact nI_pos (by omega) y2
                      · rw [nI_leI (by omega) (by omega)] at y2; omega
                  unfold f_RD_readEnd_95 f_RD_readEnd_131 f_MO_readEnd_173
                  rw [if_pos (rwR (by omega) (by decide)), getv 0 0 (by decide) rfl, getv 1 1 (by decide) rfl, getv 2 2 (by decide) rfl]
                  simp only [Option.bind_some, fail_b]
                  rw [al_fail b5, Option.bind_some, val 0 (by decide), val 1 (by decide), val 2 (by decide)]
                  have hbad : SM (some (.inr (xpi (xpi S2 2 7 7) 2 8 (xgi S2 2 2))) : Option ((Int32 × XS) ⊕ XS)) (some (nI k, xpi (xpi M2 0 11 7) 0 12 (xgi M2 0 6))) (fun r S' b => b.1 = r ∧ (∃ k, k < 8 ∧ r = nI k) ∧ (∃ t' κ' v', t ≤ t' ∧ AL T E t' κ' v' S' b.2) ∧ IC np nc ci x S' b.2 ∧ MK M b.2) (fun S' b => XX T E S' b.2) := SM.thr (OK.mk (al_xx b5 (by decide)))
                  by_cases w0 : xgi S2 (8 + 21 * k + 3 * 5 + 2) (ix q * 3 + 0) = way
                  · rw [if_pos w0, if_pos w0]
                    by_cases w1 : xgi S2 (8 + 21 * k + 3 * 5 + 2) (ix q * 3 + 1) = md
                    · rw [if_pos w1, if_pos w1]
                      by_cases w2 : xgi S2 (8 + 21 * k + 3 * 5 + 2) (ix q * 3 + 2) = -1
                      · rw [if_pos w2, if_pos w2]
                        unfold f_RD_readEnd_140
                        rw [if_pos (rwR (by omega) (by decide)), hC2.2.2.2.2.2.2.1, nI_pred, show (2 : Int32) = nI 2 from rfl, ro_set (S := S2) (rwR (k := k) (s := 5) (by omega) (by decide)) (rwQ (by omega) (by decide)).1 (rwQ (by omega) (by decide)).2 hrow.2 c5.2.1 c5.1 (by decide) (by decide) r2 (by decide), Option.bind_some, hC2.2.2.2.2.2.2.2.1]
                        have hA3 : AL T E t2 κ2 v2 (xpi S2 (8 + 21 * k + 3 * 5 + 2) (ix q * wd 5 + 2) (nI nc)) (xpi M2 16 (5 * (40 * k + q) + 2) (nI nc)) := (b5.si (by omega) (fun hr => absurd hr (nR2 (k := k) (s := 5) (by omega) (by decide)))).mi (by decide) (by decide)
                        refine (s_nx hA3).bind (fun _ S4 M4 k4 => ?_) (fun S' M4 g => OK.mk g)
                        obtain ⟨d1, d2, t4, κ4, v4, d3, d4, d5⟩ := k4
                        exact SM.ret ⟨rfl, ⟨k, by omega, rfl⟩, ⟨t4, κ4, v4, by omega, d5⟩, (hC2.port (by omega) hT f4 hp5 (nI nc)).fs d1 d2, (hK2.tr MK.p16).tr (MK.fm d2)⟩
                      · rw [if_neg w2, if_neg w2]
                        exact hbad
                    · rw [if_neg w1, if_neg w1]
                      exact hbad
                  · rw [if_neg w0, if_neg w0]
                    exact hbad
              · -- a thing of another sort
                rcases hrf with ⟨r1, r2⟩ | ⟨i, r1, r2, r3, r4⟩
                · rw [r1, Option.bind_some, if_pos rfl, fail_b, if_neg (fun e => hp5 ((nI_eq (by omega) (by omega)).mp (e.trans (show (5 : Int32) = nI 5 from rfl))))]
                  unfold f_MO_readEnd_117
                  rw [al_fail b5, Option.bind_some]
                  exact SM.thr (OK.mk (al_xx b5 (by decide)))
                · exfalso
                  obtain ⟨q', q1, q2, q3⟩ := hT.2.2.2.2.2.1 5 i (by decide) r2
                  have e9 := (hT.2.2.2.1 q' q1).2.2.2.2
                  rw [q2, q3, r4] at e9
                  have := hT.2.2.2.2.2.2 q' q q1 f4 (e9.symm.trans f6.symm)
                  subst this
                  exact hp5 q2
          · rw [u2, inr_b, if_neg u1, al_bad b5, Option.bind_some, d_80 (al_xx b5 (by decide)) (by show ¬ (1 : Int32) = 0; decide)]
            exact SM.thr (OK.mk (al_xx b5 (by decide)))
  · rw [e2, inr_b, inr_b, if_neg e1, al_bad h, Option.bind_some]
    exact SM.thr (OK.mk (al_xx h (by decide)))
end Ic
