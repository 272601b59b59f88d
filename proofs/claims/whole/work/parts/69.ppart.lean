/-! a partition -/
section Pt
variable {T : Nat → Int32} {E t0 t κ : Nat} {w : Int64} {np : Nat} {S M S' M' : XS}
theorem fp_both (h : DN np S M) (hn : np ≤ 8) (h3 : xgi S 3 1 = nI np) (h15 : xgi M 0 15 = nI np) (nm : Int64) : ∀ (d a n m : Nat), np - a = d → a ≤ np → d < n → d < m → (f_CF_findPartition_2 n S nm (nI a) = some (-1) ∧ f_MO_partitionOf_2 m M nm (nI a) = some (-1)) ∨ (∃ k, k < np ∧ f_CF_findPartition_2 n S nm (nI a) = some (nI k) ∧ f_MO_partitionOf_2 m M nm (nI a) = some (nI k)) := by
  intro d
  induction d with
  | zero =>
    intro a n m hd ha hn1 hm1
    obtain ⟨n, rfl⟩ : ∃ k, n = k + 1 := ⟨n - 1, by omega⟩
    obtain ⟨m, rfl⟩ : ∃ k, m = k + 1 := ⟨m - 1, by omega⟩
    unfold f_CF_findPartition_2 f_MO_partitionOf_2
    rw [h3, h15, if_pos (nI_le (by omega) (by omega)), if_pos (nI_le (by omega) (by omega))]
    exact Or.inl ⟨rfl, rfl⟩
  | succ d ih =>
    intro a n m hd ha hn1 hm1
    obtain ⟨n, rfl⟩ : ∃ k, n = k + 1 := ⟨n - 1, by omega⟩
    obtain ⟨m, rfl⟩ : ∃ k, m = k + 1 := ⟨m - 1, by omega⟩
    unfold f_CF_findPartition_2 f_MO_partitionOf_2
    rw [h3, h15, if_neg (nI_ge (by omega) (by omega)), if_neg (nI_ge (by omega) (by omega)), if_pos (nI_in (by omega) (by omega)), if_pos (nI_in (by omega) (by omega)), nI_clamp (by omega), if_pos (cpP (by omega)), (h a (by omega)).1.1, nI_1]
    simp only [cmp0]
    by_cases e : xgl M 5 a = nm
    · rw [if_pos e, if_pos e]
      exact Or.inr ⟨a, by omega, rfl, rfl⟩
    · rw [if_neg e, if_neg e]
      exact ih (a + 1) n m (by omega) (by omega) (by omega) (by omega)
theorem fp (h : DN np S M) (hn : np ≤ 8) (h3 : xgi S 3 1 = nI np) (h15 : xgi M 0 15 = nI np) (nm : Int64) : (f_CF_findPartition S nm = some (-1) ∧ f_MO_partitionOf M nm = some (-1)) ∨ (∃ k, k < np ∧ f_CF_findPartition S nm = some (nI k) ∧ f_MO_partitionOf M nm = some (nI k)) :=
  fp_both h hn h3 h15 nm np 0 4096 4096 rfl (by omega) (by omega) (by omega)
theorem d_67 (h : XX T E S M) (hh : ¬ xgi M 0 11 = 0) : OK (f_MO_readPartition_67 M) (XX T E S) := by
  unfold f_MO_readPartition_67
  rw [d_hard hh, Option.bind_some, if_pos rfl]
  exact OK.mk h
theorem d_39p (h : XX T E S M) (hh : ¬ xgi M 0 11 = 0) : OK (f_MO_readPartition_39 M) (XX T E S) := by
  unfold f_MO_readPartition_39
  rw [d_hard hh, Option.bind_some, if_pos rfl]
  exact d_67 h hh
theorem d_26 (h : XX T E S M) : OK (f_MO_readPartition_26 M) (XX T E S) := by
  unfold f_MO_readPartition_26
  split
  · rename_i e
    rcases d_good h with ⟨g1, g2⟩ | ⟨g1, g2, g3⟩
    · exact d_39p h g2
    · rw [e] at g3
      exact absurd g3 (by decide)
  · exact (d_bad h 1).bind (fun M1 g => d_39p g.1 g.2.2)
theorem d_partR (h : XX T E S M) : OK ((f_MO_good M).bind fun q4 => if q4 = 0 then (f_MO_readPartition_26 M) else (if (xgi M 0 15) = (8 : Int32) then ((f_MO_bad M (4 : Int32)).bind fun q6 => f_MO_readPartition_26 q6) else (f_MO_readPartition_26 M))) (XX T E S) := by
  rcases d_good h with ⟨g1, g2⟩ | ⟨g1, g2, g3⟩
  · rw [g1, Option.bind_some, if_pos rfl]
    exact d_26 h
  · rw [g1, Option.bind_some, if_neg (show ¬ (1 : Int32) = 0 by decide)]
    split
    · exact (d_bad h 4).bind (fun M1 g => d_26 g.1)
    · exact d_26 h
theorem d_partition (h : XX T E S M) : OK (f_MO_readPartition M) (XX T E S) := by
  unfold f_MO_readPartition
  exact (d_need h 0).bind (fun M1 g => d_partR g.1)
/-- the reference behind { of a partition, at a fault -/
theorem d_mem (h : XX T E S M) {p : Nat} (hp : p < 8) : OK ((f_MO_part M (1 : Int32) (256 : Int32) (4096 : Int32) (256 : Int32)).bind fun q30 => if ¬ ((nI p) < 0 ∨ 8 ≤ p) then (f_MO_readPartition_135 4096 (xpi q30.2 6 p q30.1) (nI p)) else none) (XX T E S) := by
  refine (d_part h 1 256 4096 256).bind (fun q g => ?_)
  rw [if_pos (nI_inn hp (by omega))]
  exact d_135 (g.1.mi (by decide) (by decide)) (by decide) _
theorem s_partition (h : AL T E t κ w S M) (hP : P1 np S M) : SM (f_RD_readPartition S) (f_MO_readPartition M) (fun _ S' M' => np < 8 ∧ QP T E t (np + 1) S' M') (XX T E) := by
  obtain ⟨hnp, hD, hC, hS3, hM15⟩ := hP
  unfold f_RD_readPartition f_RD_openPartition f_MO_readPartition
  have hA0 : AL T E t κ w (xpi (xpi S 179 2 0) 179 3 (-1)) M := (h.si (by decide) (fun _ => by decide)).si (by decide) (fun _ => by decide)
  rw [xT2_as]
  refine (s_need hA0 (a := 2) (w := 0) (by decide +kernel) rfl).bind (fun _ S1 M1 k1 => ?_) (fun S' M1 g => d_partR g)
  obtain ⟨a1, a2, t1, κ1, v1, a3, a4, a5⟩ := k1
  have sA : ∀ k, k < np → SA k S S1 := fun k hk => ((SA.pi (by omega)).tr (SA.pi (by omega))).tr (SA.fs a1)
  have hD1 : DN np S1 M1 := hD.cg sA (fun _ _ => MA.fm a2)
  have hC1 : CR S1 M1 := by
    refine CR.fs ?_ a1 a2
    unfold CR
    rw [gii, if_neg (by omega), gii, if_neg (by omega), gii, if_neg (by omega), gii, if_neg (by omega), gii, if_neg (by omega), gii, if_neg (by omega), gii, if_neg (by omega), gii, if_neg (by omega), gii, if_neg (by omega), gii, if_neg (by omega)]
    exact hC
  have hS3' : xgi S1 3 1 = nI np := by
    rw [a1.1 3 1 (by decide), gii, if_neg (by omega), gii, if_neg (by omega)]; exact hS3
  have hM15' : xgi M1 0 15 = nI np := by rw [a2.2.1 15 (by decide)]; exact hM15
  have h1792 : xgi S1 179 2 = 0 := by rw [a1.1 179 2 (by decide), gii, if_neg (by omega), gii, if_pos ⟨rfl, rfl⟩]
  have h1793 : xgi S1 179 3 = -1 := by rw [a1.1 179 3 (by decide), gii, if_pos ⟨rfl, rfl⟩]
  unfold f_CF_isFull
  rw [al_good a5, Option.bind_some, if_neg (show ¬ (1 : Int32) = 0 by decide), hS3', hM15']
  have l8 : (nI np < 8) = (np < 8) := lt_lit (by omega) (by omega) rfl
  have q8 : (nI np = 8) = (np = 8) := eq_lit (by omega) (by omega) rfl
  by_cases h8 : np < 8
  · rw [if_pos (l8.mpr h8), Option.bind_some, if_pos rfl, if_neg (by rw [q8]; omega)]
    unfold f_RD_openPartition_37 f_MO_readPartition_26
    rcases al_name a5 with ⟨e1, e2, e3, e4, e5⟩ | ⟨e1, e2⟩
    · rw [e3, if_pos rfl, e5, inl_b]
      unfold f_MO_readPartition_39
      rw [al_good a5, Option.bind_some, if_neg (show ¬ (1 : Int32) = 0 by decide), e4]
      rcases fp hD1 hnp hS3' hM15' v1 with ⟨f1, f2⟩ | ⟨k, hk, f1, f2⟩
      · rw [f1, f2, Option.bind_some, Option.bind_some, if_pos rfl, if_pos rfl]
        unfold f_RD_openPartition_65 f_MO_readPartition_67 f_CF_addPartition f_CF_isFull
        obtain ⟨S2, p1, p2, p3, p4, p5, p6, p7, p8⟩ := pa_begin (S := S1) h8 v1
        obtain ⟨M2, m1, m2, m3⟩ := mo_clear (M := xpl M1 5 np v1) h8
        rw [al_good a5, Option.bind_some, if_neg (show ¬ (1 : Int32) = 0 by decide), hS3', hM15', if_pos (l8.mpr h8), Option.bind_some, if_pos rfl, if_pos (nI_in h8 (by omega)), if_pos (nI_in h8 (by omega)), nI_clamp (by omega), if_pos (cpP h8), p1, Option.bind_some, e4, m1, Option.bind_some]
        have q3 : xgi S2 3 1 = nI np := by rw [p7 3 1 (fun s hs => by omega) (by omega) (by omega)]; exact hS3'
        have q15 : xgi M2 0 15 = nI np := by rw [m2, if_neg (by omega), if_neg (by omega), if_neg (by omega), if_neg (by omega), if_neg (by omega), if_neg (by omega)]; exact hM15'
        rw [q3, Option.bind_some, q15, nI_1]
        have hmr : ∀ i j, i < 7 ∨ i = 12 ∨ 13 < i → xgi M2 i j = xgi M1 i j := fun i j hi => by
          rw [m2, if_neg (by omega), if_neg (by omega), if_neg (by omega), if_neg (by omega), if_neg (by omega), if_neg (by omega)]
          rfl
        have hml : ∀ i j, ¬ (i = 5 ∧ j = np) → xgl M2 i j = xgl M1 i j := fun i j hi => by rw [m3, gll, if_neg hi]
        have hA2 : AL T E t1 κ1 v1 (xpi S2 3 1 (nI (np + 1))) (xpi M2 0 15 (nI (np + 1))) := by
          refine AL.m0 (AL.si (a5.set ⟨fun j => ?_, ?_, ?_, fun i hi => ⟨?_, ?_⟩⟩ ⟨fun j => ?_, ?_, fun j => ?_, fun j => ?_, fun j => ?_⟩ (fun j => ?_) ?_ (fun j h1 h2 => ?_) ?_) (by decide) (fun _ => by omega)) (by decide)
          · rw [p7 1 j (fun s hs => by omega) (by omega) (by omega)]; exact a5.2.2.1.1 j
          · rw [p7 0 1 (fun s hs => by omega) (by omega) (by omega)]; exact a5.2.2.1.2.1
          · rw [p7 0 5 (fun s hs => by omega) (by omega) (by omega)]; exact a5.2.2.1.2.2.1
          · rw [p7 i 0 (fun s hs => by omega) (fun e => ?_) (by omega)]
            · exact (a5.2.2.1.2.2.2 i hi).1
            · rcases hi with q | q | ⟨q1, q2, q3, q4⟩
              · omega
              · omega
              · rw [e.1, show 6 + 21 * np - 5 = 1 + 21 * np by omega, Nat.add_mul_mod_self_left] at q3
                omega
          · rw [p7 i 1 (fun s hs => by omega) (fun e => ?_) (fun e => ?_)]
            · exact (a5.2.2.1.2.2.2 i hi).2
            · rcases hi with q | q | ⟨q1, q2, q3, q4⟩
              · omega
              · omega
              · rw [e.1, show 6 + 21 * np - 5 = 1 + 21 * np by omega, Nat.add_mul_mod_self_left] at q3
                omega
            · rcases hi with q | q | ⟨q1, q2, q3, q4⟩
              · omega
              · omega
              · rw [e.1, show 5 + 21 * np - 5 = 0 + 21 * np by omega, Nat.add_mul_mod_self_left] at q3
                omega
          · rw [hmr 4 j (by omega)]; exact a5.2.2.2.1.1 j
          · rw [hmr 0 5 (by omega)]; exact a5.2.2.2.1.2.1
          · rw [hml 1 j (by omega)]; exact a5.2.2.2.1.2.2.1 j
          · rw [hml 2 j (by omega)]; exact a5.2.2.2.1.2.2.2.1 j
          · rw [hml 3 j (by omega)]; exact a5.2.2.2.1.2.2.2.2 j
          · exact p7 2 j (fun s hs => by omega) (by omega) (by omega)
          · exact p8 2 6 (by omega)
          · exact hmr 0 j (by omega)
          · exact hml 0 10 (by omega)
        have hI2 : IP np 0 (fun _ => 0) (fun _ => 0) (fun _ => 0) 1000 (xpi S2 3 1 (nI (np + 1))) (xpi M2 0 15 (nI (np + 1))) := by
          have sA2 : ∀ k, k < np → SA k S1 (xpi S2 3 1 (nI (np + 1))) := fun k hk i b1 b2 j => ⟨by
            rw [gii, if_neg (by omega)]; exact p7 i j (fun s hs => by omega) (by omega) (by omega), p8 i j (by omega)⟩
          have mA2 : ∀ k, k < np → MA k M1 (xpi M2 0 15 (nI (np + 1))) := fun k hk => by
            refine ⟨fun x hx => ?_, ?_, fun q hq => ⟨?_, ?_, ?_⟩, fun j b1 b2 => ?_, ?_, ?_, ?_, fun j hj => ?_⟩
            · rw [gii, if_neg (by omega), m2, if_neg (by omega), if_neg (by omega), if_neg (by omega), if_neg (by omega), if_neg (by omega), if_neg (by omega)]; rfl
            · rw [gii, if_neg (by omega), m2, if_neg (by omega), if_neg (by omega), if_neg (by omega), if_neg (by omega), if_neg (by omega), if_neg (by omega)]; rfl
            · rw [gii, if_neg (by omega)]; exact hmr 14 _ (by omega)
            · rw [gii, if_neg (by omega)]; exact hmr 15 _ (by omega)
            · exact hml 17 _ (by omega)
            · rw [gii, if_neg (by omega)]; exact hmr 16 _ (by omega)
            · exact hml 5 _ (by omega)
            · rw [gii, if_neg (by omega), m2, if_neg (by omega), if_neg (by omega), if_neg (by omega), if_neg (by omega), if_neg (by omega), if_neg (by omega)]; rfl
            · rw [gii, if_neg (by omega)]; exact hmr 6 _ (by omega)
            · rw [gii, if_neg (by omega), m2, if_neg (by omega), if_neg (by omega), if_neg (by omega), if_neg (by omega), if_neg (by omega), if_neg (by omega)]; rfl
          refine ⟨h8, hD1.cg sA2 mA2, ⟨?_, ?_, fun j hj => ?_⟩, TH.new (fun s hs => ?_) (fun s hs => ?_) ?_, ?_, ?_, ?_, ?_, ?_⟩
          · show xgl S2 (5 + 21 * np) 0 = xgl M2 5 np
            rw [p6, m3, gll, if_pos ⟨rfl, rfl⟩]
          · rw [gii, if_neg (by omega), p5, gii, if_neg (by omega), m2, if_neg (by omega), if_neg (by omega), if_neg (by omega), if_neg (by omega), if_neg (by omega), if_pos ⟨rfl, rfl⟩]
          · rw [gii, if_neg (by omega), p3 j hj, gii, if_neg (by omega), m2, if_neg (by omega), if_pos (by omega)]
          · rw [gii, if_neg (by omega)]; exact p2 s hs
          · rw [gii, if_neg (by omega), m2, if_pos (by omega)]
          · rw [gii, if_neg (by omega), m2, if_neg (by omega), if_neg (by omega), if_pos ⟨rfl, rfl⟩]
          · unfold CR
            refine ⟨⟨?_, ?_, ?_, ?_, ?_⟩, ?_, ?_, ?_, ?_, ?_⟩
            · rw [gii, if_neg (by omega), p7 173 4 (fun s hs => by omega) (by omega) (by omega)]; exact hC1.1.1
            · rw [gii, if_neg (by omega), p7 176 4 (fun s hs => by omega) (by omega) (by omega)]; exact hC1.1.2.1
            · rw [gii, if_neg (by omega), p7 3 4 (fun s hs => by omega) (by omega) (by omega)]; exact hC1.1.2.2.1
            · rw [gii, if_neg (by omega), p7 3 5 (fun s hs => by omega) (by omega) (by omega)]; exact hC1.1.2.2.2.1
            · rw [gii, if_neg (by omega), p7 3 6 (fun s hs => by omega) (by omega) (by omega)]; exact hC1.1.2.2.2.2
            · rw [gii, if_neg (by omega), hmr 0 29 (by omega)]; exact hC1.2.1
            · rw [gii, if_neg (by omega), hmr 0 30 (by omega)]; exact hC1.2.2.1
            · rw [gii, if_neg (by omega), hmr 0 31 (by omega)]; exact hC1.2.2.2.1
            · rw [gii, if_neg (by omega), hmr 0 32 (by omega)]; exact hC1.2.2.2.2.1
            · rw [gii, if_neg (by omega), hmr 0 33 (by omega)]; exact hC1.2.2.2.2.2
          · rw [gii, if_pos ⟨rfl, rfl⟩]
          · rw [gii, if_pos ⟨rfl, rfl⟩]
          · rw [gii, if_neg (by omega), p7 179 2 (fun s hs => by omega) (by omega) (by omega), h1792, gii, if_neg (by omega), m2, if_neg (by omega), if_neg (by omega), if_neg (by omega), if_pos ⟨rfl, rfl⟩]
          · rw [gii, if_neg (by omega), p7 179 3 (fun s hs => by omega) (by omega) (by omega), h1793, gii, if_neg (by omega), m2, if_neg (by omega), if_neg (by omega), if_neg (by omega), if_neg (by omega), if_pos ⟨rfl, rfl⟩]
        rw [xT2_as]
        refine (s_nx hA2).bind (fun _ S3 M3 k3 => ?_) (fun S' M3 g => (d_sign g 123).bind (fun M4 g4 => d_mem g4.1 h8))
        obtain ⟨b1, b2, t3, κ3, v3, b3, b4, b5⟩ := k3
        rw [xT2_as]
        refine (s_sign3 b5 (a := 4) (u := 123) (by decide +kernel) rfl).bind (fun _ S4 M4 k4 => ?_) (fun S' M4 g => d_mem g h8)
        obtain ⟨⟨c1, c2, t4, κ4, v4, c3, c4, c5⟩, ck⟩ := k4
        have hI4 := (hI2.fs b1 b2).fs c1 c2
        rw [inl_b]
        unfold f_CF_partitionAt
        rw [hI4.2.2.2.2.2.1, nI_pred, if_neg (nI_pos (by omega)), if_neg (nI_ge (by omega) (by omega)), if_pos (nI_in h8 (by omega)), nI_clamp (by omega), Option.bind_some]
        show SM ((f_RD_readSetting S4 5 256 4096 256).bind _) _ _ _
        refine (s_part c5 (a := 5) (w := 1) (by decide +kernel) rfl (Or.inr (Or.inr rfl))).bind (fun r S5 b k5 => ?_) (fun S' b g => ?_)
        · obtain ⟨g1, ⟨d1, d2, t5, κ5, v5, d3, d4, d5⟩, -⟩ := k5
          have hI5 := hI4.fs d1 d2
          rw [if_pos (cpP h8), if_pos (nI_inn h8 (by omega)), g1]
          have hA6 : AL T E t5 κ5 v5 (xpi S5 (5 + 21 * np) 1 r) (xpi b.2 6 np r) := (d5.si (by omega) (fun hr => absurd hr (by
              rintro (q | q | ⟨q1, q2, q3, q4⟩)
              · omega
              · omega
              · rw [show 5 + 21 * np - 5 = 0 + 21 * np by omega, Nat.add_mul_mod_self_left] at q3
                omega))).mi (by decide) (by decide)
          have hI6 : IP np 0 (fun _ => 0) (fun _ => 0) (fun _ => 0) 1000 (xpi S5 (5 + 21 * np) 1 r) (xpi b.2 6 np r) := by
            obtain ⟨h1, h2, h3, h4, h5, h6, h7, h8', h9⟩ := hI5
            refine ⟨h1, h2.cg (fun k hk => SA.pi (by omega)) (fun k hk => MA.pi (by omega) (by omega) (by omega) (by omega) (by omega)), ⟨h3.1, ?_, fun j hj => ?_⟩, TH.new (fun s hs => ?_) (fun s hs => (h4.1 s hs).2.2) h4.2.2.1, ?_, ?_, h7, ?_, ?_⟩
            · rw [gii, if_neg (by omega)]; exact h3.2.1
            · rw [gii, if_neg (by omega)]; exact h3.2.2 j hj
            · rw [gii, if_neg (by omega)]; exact (h4.1 s hs).2.1
            · unfold CR
              rw [gii, if_neg (by omega), gii, if_neg (by omega), gii, if_neg (by omega), gii, if_neg (by omega), gii, if_neg (by omega)]
              exact h5
            · rw [gii, if_neg (by omega)]; exact h6
            · rw [gii, if_neg (by omega)]; exact h8'
            · rw [gii, if_neg (by omega)]; exact h9
          have hlt : 0 < t3 := by have := b4 (by omega); omega
          refine (s_things (t0 := t) (p := np) (E - t5) 0 4096 4096 t5 κ5 v5 _ _ (Nat.le_refl _) (by omega) (by omega) (by omega) (by omega) hA6 ⟨⟨_, _, _, _, hI6⟩, ?_⟩).imp (fun _ S7 M7 g => ⟨h8, g⟩) (fun _ _ g => g)
          unfold IM
          rw [gii, if_pos ⟨rfl, rfl⟩, gii, if_pos ⟨rfl, rfl⟩]
        · rw [if_pos (nI_inn h8 (by omega))]
          exact d_135 (g.mi (by decide) (by decide)) (by decide) _
      · rw [f1, f2, Option.bind_some, Option.bind_some, if_neg (nm1 (by omega)), if_neg (nm1 (by omega)), fail_b, inr_b, al_fail a5, Option.bind_some]
        exact SM.thr (d_67 (al_xx a5 (by decide)) (by show ¬ (3 : Int32) = 0; decide))
    · rw [e2, inr_b, inr_b, if_neg e1, al_bad a5, Option.bind_some]
      exact SM.thr (d_39p (al_xx a5 (by decide)) (by show ¬ (1 : Int32) = 0; decide))
  · rw [if_neg (by rw [l8]; exact h8), Option.bind_some, if_neg (show ¬ (1 : Int32) = 0 by decide), if_pos (by rw [q8]; omega), fail_b, inr_b, al_bad a5, Option.bind_some]
    exact SM.thr (d_26 (al_xx a5 (by decide)))
end Pt
