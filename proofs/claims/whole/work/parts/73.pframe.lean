/-! the frame of windows -/
def P3 (np nc nw : Nat) (S M : XS) : Prop := np ≤ 8 ∧ DN np S M ∧ xgi S 3 1 = nI np ∧ xgi M 0 15 = nI np ∧ nc ≤ 16 ∧ CHR nc S M ∧ xgi S 173 4 = nI nc ∧ xgi M 0 29 = nI nc ∧ xgi S 3 4 = xgi M 0 32 ∧ xgi S 3 5 = xgi M 0 33 ∧ nw ≤ 16 ∧ xgi S 176 4 = nI nw ∧ xgi M 0 30 = nI nw ∧ xgi S 3 6 = xgi M 0 31 ∧ (∀ i, i < nw → xgi S 178 (2 * i) = xgi M 23 i ∧ xgi S 178 (2 * i + 1) = xgi M 24 i)
section Fr
variable {T : Nat → Int32} {E t0 t κ : Nat} {w : Int64} {np nc nw : Nat} {S M S' M' : XS}
theorem P2.p3 (h : P2 np nc S M) : P3 np nc 0 S M := by
  obtain ⟨h1, h2, h3, h4, h5, h6, h7, h8, h9, h10, h11, h12⟩ := h
  exact ⟨h1, h2, h3, h4, h5, h6, h7, h8, h9, h10, by omega, h11.1, h12.1, h11.2.trans h12.2.symm, fun i hi => by omega⟩
theorem P1.p2 (h : P1 np S M) : P2 np 0 S M := by
  obtain ⟨h1, h2, h3, h4, h5⟩ := h
  exact ⟨h1, h2, h4, h5, by omega, fun i hi => by omega, h3.1.1, h3.2.1, h3.1.2.2.1.trans h3.2.2.2.2.1.symm, h3.1.2.2.2.1.trans h3.2.2.2.2.2.symm, ⟨h3.1.2.1, h3.1.2.2.2.2⟩, h3.2.2.1, h3.2.2.2.1⟩
theorem P3.cg (h : P3 np nc nw S M) (hs : ∀ i j, 2 < i → xgi S' i j = xgi S i j) (hsl : ∀ i j, 2 < i → xgl S' i j = xgl S i j) (hm : ∀ i j, 4 < i → xgi M' i j = xgi M i j) (hm0 : ∀ j, 14 < j → xgi M' 0 j = xgi M 0 j) (hml : ∀ i j, 4 < i → xgl M' i j = xgl M i j) : P3 np nc nw S' M' := by
  obtain ⟨h1, h2, h3, h4, h5, h6, h7, h8, h9, h10, h11, h12, h13, h14, h15⟩ := h
  refine ⟨h1, h2.cg (fun k _ i q1 _ j => ⟨hs i j (by omega), hsl i j (by omega)⟩) (fun k _ => ⟨fun s _ => hm _ _ (by decide), hm _ _ (by decide), fun q _ => ⟨hm _ _ (by decide), hm _ _ (by decide), hml _ _ (by decide)⟩, fun j _ _ => hm _ _ (by decide), hml _ _ (by decide), hm _ _ (by decide), hm _ _ (by decide), fun j _ => hm _ _ (by decide)⟩), ?_, ?_, h5, h6.cg (fun j _ => hs _ _ (by decide)) (fun i _ => ⟨hm _ _ (by decide), hm _ _ (by decide), hm _ _ (by decide), hm _ _ (by decide)⟩) (fun j _ => hm _ _ (by decide)), ?_, ?_, ?_, ?_, h11, ?_, ?_, ?_, fun i hi => ⟨?_, ?_⟩⟩
  · rw [hs _ _ (by decide)]; exact h3
  · rw [hm0 _ (by decide)]; exact h4
  · rw [hs _ _ (by decide)]; exact h7
  · rw [hm0 _ (by decide)]; exact h8
  · rw [hs _ _ (by decide), hm0 _ (by decide)]; exact h9
  · rw [hs _ _ (by decide), hm0 _ (by decide)]; exact h10
  · rw [hs _ _ (by decide)]; exact h12
  · rw [hm0 _ (by decide)]; exact h13
  · rw [hs _ _ (by decide), hm0 _ (by decide)]; exact h14
  · rw [hs _ _ (by decide), hm _ _ (by decide)]; exact (h15 i hi).1
  · rw [hs _ _ (by decide), hm _ _ (by decide)]; exact (h15 i hi).2
theorem P3.fs (h : P3 np nc nw S M) (hs : FS S S') (hm : FM M M') : P3 np nc nw S' M' := h.cg (fun i j q => hs.1 i j (by omega)) (fun i j q => hs.2.1 i j (by omega)) (fun i j q => hm.1 i j (by omega)) (fun j hj => hm.2.1 j (by omega)) (fun i j q => hm.2.2 i j (by omega))
theorem P3.w23 {i : Nat} {a : Int32} (h : P3 np nc nw S M) (hi : i = 23 ∨ i = 24) : P3 np nc nw S (xpi M i nw a) := by
  obtain ⟨h1, h2, h3, h4, h5, h6, h7, h8, h9, h10, h11, h12, h13, h14, h15⟩ := h
  refine ⟨h1, h2.cg (fun k _ => SA.rf) (fun k hk => MA.pi (by omega) (by omega) (by omega) (by omega) (by omega)), h3, ?_, h5, h6.cg (fun _ _ => rfl) (fun b _ => ⟨?_, ?_, ?_, ?_⟩) (fun b _ => ?_), h7, ?_, ?_, ?_, h11, h12, ?_, ?_, fun b hb => ⟨?_, ?_⟩⟩
  · rw [gii, if_neg (by omega)]; exact h4
  · rw [gii, if_neg (by omega)]
  · rw [gii, if_neg (by omega)]
  · rw [gii, if_neg (by omega)]
  · rw [gii, if_neg (by omega)]
  · rw [gii, if_neg (by omega)]
  · rw [gii, if_neg (by omega)]; exact h8
  · rw [gii, if_neg (by omega)]; exact h9
  · rw [gii, if_neg (by omega)]; exact h10
  · rw [gii, if_neg (by omega)]; exact h13
  · rw [gii, if_neg (by omega)]; exact h14
  · rw [gii, if_neg (by omega)]; exact (h15 b hb).1
  · rw [gii, if_neg (by omega)]; exact (h15 b hb).2
theorem s_numberF (h : AL T E t κ w S M) {lo hi : Int32} : SM (f_WO_expectNumber S lo hi 1) (f_MO_number M lo hi 1) (fun r S' b => b.1 = r ∧ NX T E t S M S' b.2) (fun S' b => XG T E M S' b.2) := by
  obtain ⟨b, e1, e2⟩ := s_number h (lo := lo) (hi := hi) (st := 1) (Or.inl rfl)
  refine ⟨b, e1, ?_⟩
  rcases e2 with ⟨a, S', e3, e4⟩ | ⟨S', e3, e4⟩
  · exact Or.inl ⟨a, S', e3, e4.1, e4.2.1⟩
  · refine Or.inr ⟨S', e3, e4, ?_⟩
    -- where it comes from
    unfold f_MO_number f_MO_number_50 at e1
    rw [al_good h, Option.bind_some, if_neg (show ¬ (1 : Int32) = 0 by decide), al_fail h, al_bad h] at e1
    simp only [Option.bind_some] at e1
    have hf : ∀ k : Int32, (0, xpi (xpi M 0 11 k) 0 12 (xgi M 0 6)) = b → MX M b.2 := fun k e => by rw [← e]; exact MX.df DF.fp
    split at e1
    · split at e1
      · exact hf 5 (Option.some.inj e1)
      · split at e1
        · exact hf 5 (Option.some.inj e1)
        · split at e1
          · split at e1
            · obtain ⟨b', f1, f2⟩ := s_nxF h
              rw [f1, Option.bind_some] at e1
              have e9 : b.2 = b' := by rw [← Option.some.inj e1]
              rw [e9]
              rcases f2 with ⟨_, _, _, f3⟩ | ⟨_, _, f3⟩
              · exact MX.fm f3.2.1
              · exact f3.2
            · exact hf 5 (Option.some.inj e1)
          · cases e1
    · exact hf 1 (Option.some.inj e1)
/-! a window -/
theorem d_wC (h : XX T E S M) (hw : nw < 16) (h30 : xgi M 0 30 = nI nw) : OK (if ¬ ((xgi M 0 30) < 0 ∨ 16 ≤ (xgi M 0 30).toNatClampNeg) then (some (xpi (xpi M 0 31 ((xgi M 0 31) + (xgi M 24 (xgi M 0 30).toNatClampNeg))) 0 30 ((xgi (xpi M 0 31 ((xgi M 0 31) + (xgi M 24 (xgi M 0 30).toNatClampNeg))) 0 30) + (1 : Int32)))) else none) (XX T E S) := by
  rw [h30, if_pos (nI_in hw (by omega))]
  exact OK.mk ((h.m0 (by decide)).m0 (by decide))
theorem d_wB (h : XX T E S M) (hw : nw < 16) (h30 : xgi M 0 30 = nI nw) (a : Int32) : OK ((f_MO_sign (xpi M 24 nw a) (59 : Int32)).bind fun q19 => if ¬ ((xgi q19 0 30) < 0 ∨ 16 ≤ (xgi q19 0 30).toNatClampNeg) then (some (xpi (xpi q19 0 31 ((xgi q19 0 31) + (xgi q19 24 (xgi q19 0 30).toNatClampNeg))) 0 30 ((xgi (xpi q19 0 31 ((xgi q19 0 31) + (xgi q19 24 (xgi q19 0 30).toNatClampNeg))) 0 30) + (1 : Int32)))) else none) (XX T E S) := by
  refine (d_sign (h.mi (by decide) (by decide)) 59).bind (fun M1 k => d_wC k.1 hw ?_)
  rw [k.2.1.1 0 30 (by omega), gii, if_neg (by omega)]
  exact h30
theorem d_wA (h : XX T E S M) (hw : nw < 16) (h30 : xgi M 0 30 = nI nw) : OK ((f_MO_number M (1 : Int32) (200 : Int32) (1 : Int32)).bind fun q16 => if ¬ ((xgi M 0 30) < 0 ∨ 16 ≤ (xgi M 0 30).toNatClampNeg) then ((f_MO_sign (xpi q16.2 24 (xgi M 0 30).toNatClampNeg q16.1) (59 : Int32)).bind fun q19 => if ¬ ((xgi q19 0 30) < 0 ∨ 16 ≤ (xgi q19 0 30).toNatClampNeg) then (some (xpi (xpi q19 0 31 ((xgi q19 0 31) + (xgi q19 24 (xgi q19 0 30).toNatClampNeg))) 0 30 ((xgi (xpi q19 0 31 ((xgi q19 0 31) + (xgi q19 24 (xgi q19 0 30).toNatClampNeg))) 0 30) + (1 : Int32)))) else none) else none) (XX T E S) := by
  refine (d_number h 1 200 1).bind (fun q k => ?_)
  rw [h30, if_pos (nI_in hw (by omega)), nI_clamp (by omega)]
  exact d_wB k.1 hw ((k.2.1.1 0 30 (by omega)).trans h30) _
theorem d_w27 (h : XX T E S M) (hh : ¬ xgi M 0 11 = 0) : OK (f_MO_readWindow_27 M) (fun M' => XX T E S M' ∧ ¬ xgi M' 0 11 = 0) := by
  unfold f_MO_readWindow_27
  rw [d_hard hh, Option.bind_some, if_pos rfl]
  exact OK.mk ⟨h, hh⟩
theorem d_w14 (h : XX T E S M) : OK (f_MO_readWindow_14 M) (fun M' => XX T E S M' ∧ ¬ xgi M' 0 11 = 0) := by
  unfold f_MO_readWindow_14
  split
  · rename_i e
    rcases d_good h with ⟨g1, g2⟩ | ⟨g1, g2, g3⟩
    · exact d_w27 h g2
    · rw [e] at g3
      exact absurd g3 (by decide)
  · exact (d_bad h 1).bind (fun M1 k => d_w27 k.1 k.2.2)
theorem d_window (h : XX T E S M) : OK (f_MO_readWindow M) (fun M' => XX T E S M' ∧ ¬ xgi M' 0 11 = 0) := by
  unfold f_MO_readWindow
  split
  · exact (d_bad h 4).bind (fun M1 k => d_w14 k.1)
  · exact d_w14 h
def QW (T : Nat → Int32) (E t np nc nw : Nat) (S' M' : XS) : Prop := (∃ t' κ v, t ≤ t' ∧ AL T E t' κ v S' M') ∧ P3 np nc nw S' M'
theorem s_window (h : AL T E t κ w S M) (hP : P3 np nc nw S M) : SM (f_RD_readWindow S) (f_MO_readWindow M) (fun _ S' M' => nw < 16 ∧ QW T E t np nc (nw + 1) S' M') (XX T E) := by
  have hnw := hP.2.2.2.2.2.2.2.2.2.2.1
  have hS176 := hP.2.2.2.2.2.2.2.2.2.2.2.1
  have hM30 := hP.2.2.2.2.2.2.2.2.2.2.2.2.1
  have hK := h.2.2.1.2.2.2 176 (Or.inr (Or.inl rfl))
  unfold f_RD_readWindow f_MO_readWindow
  rw [ro_full (S := S) (r := 176) (m := 16) (c := nw) (Or.inr (Or.inl rfl)) hK.1 hS176 (by decide) (by omega), Option.bind_some, hM30]
  have q16 : (nI nw = 16) = (nw = 16) := eq_lit (by omega) (by omega) rfl
  by_cases hw : nw < 16
  · rw [if_pos hw, if_pos rfl, if_neg (by rw [q16]; omega)]
    unfold f_RD_readWindow_23 f_MO_readWindow_14 f_RD_readPartitionName
    rcases al_name h with ⟨e1, e2, e3, e4, e5⟩ | ⟨e1, e2⟩
    · rw [e5, inl_b, e3, if_pos rfl]
      unfold f_MO_readWindow_27
      rw [al_good h, Option.bind_some, if_neg (show ¬ (1 : Int32) = 0 by decide), e4]
      rcases fp hP.2.1 hP.1 hP.2.2.1 hP.2.2.2.1 w with ⟨f1, f2⟩ | ⟨k, hk8, f1, f2⟩
      · rw [f1, f2, Option.bind_some, Option.bind_some, if_pos rfl, fail_b, inr_b, hM30, if_pos (nI_in hw (by omega)), nI_clamp (by omega)]
        have e30 : xgi (xpi M 23 nw (-1)) 0 30 = nI nw := by rw [gii, if_neg (by omega)]; exact hM30
        have hA1 : AL T E t κ w S (xpi M 23 nw (-1)) := h.mi (by decide) (by decide)
        rw [e30, if_pos (nI_in hw (by omega)), nI_clamp (by omega), if_pos (by rw [gii, if_pos ⟨rfl, rfl⟩]), al_fail hA1, Option.bind_some]
        exact SM.thr (OK.mk (al_xx hA1 (by decide)))
      · have hnp := hP.1
        rw [f1, f2, Option.bind_some, Option.bind_some, if_neg (nm1 (by omega)), hM30, if_pos (nI_in hw (by omega)), nI_clamp (by omega)]
        have e30 : xgi (xpi M 23 nw (nI k)) 0 30 = nI nw := by rw [gii, if_neg (by omega)]; exact hM30
        have e23 : xgi (xpi M 23 nw (nI k)) 23 nw = nI k := by rw [gii, if_pos ⟨rfl, rfl⟩]
        have hA1 : AL T E t κ w S (xpi M 23 nw (nI k)) := h.mi (by decide) (by decide)
        have hP1 := hP.w23 (i := 23) (a := nI k) (Or.inl rfl)
        rw [e30, if_pos (nI_in hw (by omega)), nI_clamp (by omega), e23, if_neg (nm1 (by omega)), xT2_as]
        refine (s_nxF hA1).bind (fun _ S2 M2 k2 => ?_) (fun S' M2 g => ?_)
        · obtain ⟨a1, a2, t2, κ2, v2, a3, a4, a5⟩ := k2
          have hP2 := hP1.fs a1 a2
          have h30 : xgi M2 0 30 = nI nw := hP2.2.2.2.2.2.2.2.2.2.2.2.2.1
          have h23 : xgi M2 23 nw = nI k := (a2.1 23 nw (by decide)).trans e23
          rw [inl_b]
          refine (s_numberF a5).bind (fun r S3 b k3 => ?_) (fun S' b g => ?_)
          · obtain ⟨c1, b1, b2, t3, κ3, v3, b3, b4, b5⟩ := k3
            rw [h30, if_pos (nI_in hw (by omega)), nI_clamp (by omega), c1]
            have hP3 := (hP2.fs b1 b2).w23 (i := 24) (a := r) (Or.inr rfl)
            have hA3 : AL T E t3 κ3 v3 S3 (xpi b.2 24 nw r) := b5.mi (by decide) (by decide)
            refine (s_signF hA3 (a := 6) (u := 59) (by decide +kernel) rfl).bind (fun _ S4 M4 k4 => ?_) (fun S' M4 g => ?_)
            · obtain ⟨d1, d2, t4, κ4, v4, d3, d4, d5⟩ := k4
              have hP4 := hP3.fs d1 d2
              have g30 : xgi M4 0 30 = nI nw := hP4.2.2.2.2.2.2.2.2.2.2.2.2.1
              have g24 : xgi M4 24 nw = r := by rw [d2.1 24 nw (by decide), gii, if_pos ⟨rfl, rfl⟩]
              have g23 : xgi M4 23 nw = nI k := by rw [d2.1 23 nw (by decide), gii, if_neg (by omega), b2.1 23 nw (by decide)]; exact h23
              have hK4 := d5.2.2.1.2.2.2 176 (Or.inr (Or.inl rfl))
              obtain ⟨S5, s1, s2, s3⟩ := ro_add (S := S4) (r := 176) (m := 16) (w := 2) (c := nw) (Or.inr (Or.inl rfl)) rfl rfl hK4.1 hK4.2 hP4.2.2.2.2.2.2.2.2.2.2.2.1 hw (by decide) (by decide) 0 0
              have n1 : xgi S5 176 1 = nI 2 := by rw [s2, if_neg (by omega), if_neg (by omega)]; exact hK4.2
              have n4 : xgi S5 176 4 = nI (nw + 1) := by rw [s2, if_pos ⟨rfl, rfl⟩]
              have l1 := ro_last (S := S5) (r := 176) (m := 16) (w := 2) (c := nw) (j := 0) (Or.inr (Or.inl rfl)) rfl rfl n1 n4 hw (by decide) (by decide) (by decide) (y := 0) rfl (nI k)
              have l2 := ro_last (S := xpi S5 178 (nw * 2 + 0) (nI k)) (r := 176) (m := 16) (w := 2) (c := nw) (j := 1) (Or.inr (Or.inl rfl)) rfl rfl n1 n4 hw (by decide) (by decide) (by decide) (y := 1) rfl r
              rw [s1, Option.bind_some, l1, Option.bind_some, l2, Option.bind_some, g30, if_pos (nI_in hw (by omega)), nI_clamp (by omega), g24]
              have es : ∀ i j, ¬ (i = 176 ∧ j = 4) → ¬ i = 178 → xgi (xpi (xpi S5 178 (nw * 2 + 0) (nI k)) 178 (nw * 2 + 1) r) i j = xgi S4 i j := fun i j q1 q2 => by
                rw [gii, if_neg (by omega), gii, if_neg (by omega), s2, if_neg q1, if_neg (by omega)]
              have e0 : xgi (xpi M4 0 31 (xgi M4 0 31 + r)) 0 30 = nI nw := by rw [gii, if_neg (by omega)]; exact g30
              have e6 : xgi (xpi (xpi S5 178 (nw * 2 + 0) (nI k)) (176 + 2) (nw * 2 + 1) r) 3 6 = xgi S4 3 6 := es 3 6 (by omega) (by omega)
              rw [e0, nI_1, e6]
              obtain ⟨h1, h2, h3, h4, h5, h6, h7, h8, h9, h10, h11, h12, h13, h14, h15⟩ := hP4
              have em : ∀ i j, ¬ i = 0 → xgi (xpi (xpi M4 0 31 (xgi M4 0 31 + r)) 0 30 (nI (nw + 1))) i j = xgi M4 i j := fun i j q => by rw [gii, if_neg (by omega), gii, if_neg (by omega)]
              have et : ∀ i j, ¬ (i = 176 ∧ j = 4) → ¬ i = 178 → ¬ (i = 3 ∧ j = 6) → xgi (xpi (xpi (xpi S5 178 (nw * 2 + 0) (nI k)) 178 (nw * 2 + 1) r) 3 6 (xgi S4 3 6 + r)) i j = xgi S4 i j := fun i j q1 q2 q3 => by rw [gii, if_neg q3]; exact es i j q1 q2
              refine SM.ret ⟨hw, ⟨t4, κ4, v4, by omega, ?_⟩, h1, ?_, ?_, ?_, h5, ?_, ?_, ?_, ?_, ?_, by omega, ?_, ?_, ?_, fun i hi => ?_⟩
              · refine ((d5.m0 (j := 31) (by decide)).m0 (j := 30) (by decide)).set ⟨fun j => ?_, ?_, ?_, fun i hi => ⟨?_, ?_⟩⟩ ?_ (fun j => ?_) ?_ (fun _ _ _ => rfl) rfl
                · exact (et 1 j (by omega) (by omega) (by omega)).trans (d5.2.2.1.1 j)
                · exact (et 0 1 (by omega) (by omega) (by omega)).trans d5.2.2.1.2.1
                · exact (et 0 5 (by omega) (by omega) (by omega)).trans d5.2.2.1.2.2.1
                · exact (et i 0 (by omega) (by omega) (by omega)).trans (d5.2.2.1.2.2.2 i hi).1
                · exact (et i 1 (by omega) (by omega) (by omega)).trans (d5.2.2.1.2.2.2 i hi).2
                · exact ((d5.m0 (j := 31) (by decide)).m0 (j := 30) (by decide)).2.2.2.1
                · exact et 2 j (by omega) (by omega) (by omega)
                · rw [gli, gli, gli, s3, if_neg (by omega)]
              · refine h2.cg (fun q hq i b1 b2 j => ⟨et i j (by omega) (by omega) (by omega), ?_⟩) (fun q _ => ⟨fun s _ => em _ _ (by decide), em _ _ (by decide), fun q _ => ⟨em _ _ (by decide), em _ _ (by decide), rfl⟩, fun j _ _ => em _ _ (by decide), rfl, em _ _ (by decide), em _ _ (by decide), fun j _ => em _ _ (by decide)⟩)
                rw [gli, gli, gli, s3, if_neg (by omega)]
              · exact (et 3 1 (by omega) (by omega) (by omega)).trans h3
              · rw [gii, if_neg (by omega), gii, if_neg (by omega)]; exact h4
              · exact h6.cg (fun j _ => et 175 j (by omega) (by omega) (by omega)) (fun i _ => ⟨em _ _ (by decide), em _ _ (by decide), em _ _ (by decide), em _ _ (by decide)⟩) (fun j _ => em _ _ (by decide))
              · exact (et 173 4 (by omega) (by omega) (by omega)).trans h7
              · rw [gii, if_neg (by omega), gii, if_neg (by omega)]; exact h8
              · rw [gii, if_neg (by omega), gii, if_neg (by omega)]
                rw [gii, if_neg (by omega)]
                exact (es 3 4 (by omega) (by omega)).trans h9
              · rw [gii, if_neg (by omega), gii, if_neg (by omega)]
                rw [gii, if_neg (by omega)]
                exact (es 3 5 (by omega) (by omega)).trans h10
              · rw [gii, if_neg (by omega), gii, if_neg (by omega), gii, if_neg (by omega)]; exact n4
              · rw [gii, if_pos ⟨rfl, rfl⟩]
              · rw [gii, if_pos ⟨rfl, rfl⟩, gii, if_neg (by omega), gii, if_pos ⟨rfl, rfl⟩, h14]
              · rw [em 23 i (by decide), em 24 i (by decide), gii, if_neg (by omega), gii, gii, gii, if_neg (c := 178 = 3 ∧ _) (by omega), gii, gii]
                by_cases e : i = nw
                · rw [if_neg (by omega), if_pos (by omega), if_pos (by omega), e, g23, g24]
                  exact ⟨rfl, rfl⟩
                · rw [if_neg (by omega), if_neg (by omega), if_neg (by omega), if_neg (by omega), s2, if_neg (by omega), if_neg (by omega), s2, if_neg (by omega), if_neg (by omega)]
                  exact h15 i (by omega)
            · refine d_wC g.1 hw ?_
              rw [g.2.2 30 (by decide), gii, if_neg (by omega)]
              exact (hP2.fs b1 b2).2.2.2.2.2.2.2.2.2.2.2.2.1
          · rw [h30, if_pos (nI_in hw (by omega)), nI_clamp (by omega)]
            exact d_wB g.1 hw ((g.2.2 30 (by decide)).trans h30) _
        · exact d_wA g.1 hw ((g.2.2 30 (by decide)).trans e30)
    · rw [e2, inr_b, inr_b, if_neg e1, al_bad h, Option.bind_some]
      exact SM.thr ((d_w27 (al_xx h (by decide)) (by show ¬ (1 : Int32) = 0; decide)).imp (fun _ g => g.1))
  · rw [if_neg hw, if_neg (show ¬ (1 : Int32) = 0 by decide), if_pos (by rw [q16]; omega), fail_b, al_bad h, Option.bind_some]
    exact SM.thr ((d_w14 (al_xx h (by decide))).imp (fun _ g => g.1))
end Fr
