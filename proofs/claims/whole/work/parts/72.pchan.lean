/-! a channel -/
section Ch
variable {T : Nat → Int32} {E t0 t κ : Nat} {w : Int64} {np nc c : Nat} {S M S' M' : XS}
theorem P2.fs (h : P2 np nc S M) (hs : FS S S') (hm : FM M M') : P2 np nc S' M' := by
  obtain ⟨h1, h2, h3, h4, h5, h6, h7, h8, h9, h10, h11, h12⟩ := h
  refine ⟨h1, h2.fs hs hm, ?_, ?_, h5, h6.cg (fun j _ => hs.1 _ _ (by decide)) (fun i _ => ⟨hm.1 _ _ (by decide), hm.1 _ _ (by decide), hm.1 _ _ (by decide), hm.1 _ _ (by decide)⟩) (fun j _ => hm.1 _ _ (by decide)), ?_, ?_, ?_, ?_, ⟨?_, ?_⟩, ⟨?_, ?_⟩⟩
  · rw [hs.1 _ _ (by decide)]; exact h3
  · rw [hm.2.1 _ (by decide)]; exact h4
  · rw [hs.1 _ _ (by decide)]; exact h7
  · rw [hm.2.1 _ (by decide)]; exact h8
  · rw [hs.1 _ _ (by decide), hm.2.1 _ (by decide)]; exact h9
  · rw [hs.1 _ _ (by decide), hm.2.1 _ (by decide)]; exact h10
  · rw [hs.1 _ _ (by decide)]; exact h11.1
  · rw [hs.1 _ _ (by decide)]; exact h11.2
  · rw [hm.2.1 _ (by decide)]; exact h12.1
  · rw [hm.2.1 _ (by decide)]; exact h12.2
theorem P2.add (h : P2 np nc S M) (hc : nc < 16) (hA : AL T E t κ w S M) : ∃ S', f_RO_add S 173 0 (-1) = some S' ∧ AL T E t κ w S' M ∧ IC np nc 0 (fun _ => -1) S' M := by
  obtain ⟨h1, h2, h3, h4, h5, h6, h7, h8, h9, h10, h11, h12⟩ := h
  have hK := hA.2.2.1.2.2.2 173 (Or.inl rfl)
  obtain ⟨S', e1, e2, e3⟩ := ro_add (S := S) (r := 173) (m := 16) (w := 8) (c := nc) (Or.inl rfl) rfl rfl hK.1 hK.2 h7 hc (by decide) (by decide) 0 (-1)
  refine ⟨S', e1, ?_, h1, h2.cg (fun k hk i q1 q2 j => ⟨?_, ?_⟩) (fun _ _ => MA.rf), ?_, h4, hc, h6.cg (fun j hj => ?_) (fun i _ => ⟨rfl, rfl, rfl, rfl⟩) (fun _ _ => rfl), ?_, h8, ?_, ?_, ⟨?_, ?_⟩, h12, fun v hv => ?_⟩
  · refine hA.set ⟨fun j => ?_, ?_, ?_, fun i hi => ⟨?_, ?_⟩⟩ hA.2.2.2.1 (fun j => ?_) ?_ (fun _ _ _ => rfl) rfl
    · rw [e2, if_neg (by omega), if_neg (by omega)]; exact hA.2.2.1.1 j
    · rw [e2, if_neg (by omega), if_neg (by omega)]; exact hA.2.2.1.2.1
    · rw [e2, if_neg (by omega), if_neg (by omega)]; exact hA.2.2.1.2.2.1
    · rw [e2, if_neg (by omega), if_neg (by omega)]; exact (hA.2.2.1.2.2.2 i hi).1
    · rw [e2, if_neg (by omega), if_neg (by omega)]; exact (hA.2.2.1.2.2.2 i hi).2
    · rw [e2, if_neg (by omega), if_neg (by omega)]
    · rw [e3, if_neg (by omega)]
  · rw [e2, if_neg (by omega), if_neg (by omega)]
  · rw [e3, if_neg (by omega)]
  · rw [e2, if_neg (by omega), if_neg (by omega)]; exact h3
  · rw [e2, if_neg (by omega), if_neg (by omega)]
  · rw [e2, if_pos ⟨rfl, rfl⟩]
  · rw [e2, if_neg (by omega), if_neg (by omega), Int32.add_zero]; exact h9
  · rw [e2, if_neg (by omega), if_neg (by omega)]; exact h10
  · rw [e2, if_neg (by omega), if_neg (by omega)]; exact h11.1
  · rw [e2, if_neg (by omega), if_neg (by omega)]; exact h11.2
  · rw [e2, if_neg (by omega), if_pos (by omega)]
theorem d_136b (h : XX T E S M) (hc : c < 16) (a2 : Int32) : OK ((f_MO_good (xpi M 21 c 0)).bind fun q34 => f_MO_readChannel_158 4096 (xpi M 21 c 0) (nI c) a2 0 q34) (XX T E S) := by
  have hx : XX T E S (xpi M 21 c 0) := h.mi (by decide) (by decide)
  rcases d_good hx with ⟨g1, g2⟩ | ⟨g1, g2, g3⟩
  · rw [g1, Option.bind_some]
    exact d_1580 hx hc (by decide) _ _
  · rw [g1, Option.bind_some]
    exact d_1581 hx hc (by decide) (g := 0) (by decide) (by rw [gii, if_pos ⟨rfl, rfl⟩]; rfl) _ _
theorem d_136 (h : XX T E S M) (hc : c < 16) (a2 u0 : Int32) : OK (f_MO_readChannel_136 M (nI c) a2 u0 (nI c)) (XX T E S) := by
  unfold f_MO_readChannel_136
  rw [if_pos (nI_in hc (by omega)), nI_clamp (by omega)]
  refine (d_sign (h.mi (by decide) (by decide)) 62).bind (fun M1 k => ?_)
  rw [if_pos (nI_inn hc (by omega))]
  exact d_136b k.1 hc a2
theorem d_98b (h : XX T E S M) (hc : c < 16) : OK ((f_MO_accept M (20 : Int32)).bind fun q24 => if q24.1 = 0 then (if ¬ (nI c < 0 ∨ 16 ≤ c) then ((f_MO_readEnd q24.2 (1 : Int32) (xgi q24.2 18 c)).bind fun q27 => f_MO_readChannel_136 q27.2 (nI c) q24.1 q27.1 (nI c)) else none) else (f_MO_readChannel_136 q24.2 (nI c) q24.1 (-1 : Int32) (nI c))) (XX T E S) := by
  rw [d_accept h, Option.bind_some, if_pos rfl, if_pos (nI_inn hc (by omega))]
  exact (d_end h 1 _).bind (fun q k => d_136 k.1 hc _ _)
theorem d_98 (h : XX T E S M) (hc : c < 16) (u0 : Int32) : OK (f_MO_readChannel_98 M (nI c) u0 (nI c)) (XX T E S) := by
  unfold f_MO_readChannel_98
  rw [if_pos (nI_in hc (by omega)), nI_clamp (by omega)]
  exact (d_sign (h.mi (by decide) (by decide)) 123).bind (fun M1 k => d_98b k.1 hc)
theorem d_63 (h : XX T E S M) (hc : c < 16) : OK (f_MO_readChannel_63 M (nI c)) (XX T E S) := by
  unfold f_MO_readChannel_63
  rw [if_pos (nI_in hc (by omega))]
  split
  · exact (d_number h 1 8 1).bind (fun q k => d_98 k.1 hc _)
  · exact (d_number h 0 100000 1).bind (fun q k => d_98 k.1 hc _)
theorem d_47 (h : XX T E S M) (hc : c < 16) (u0 : Int32) : OK (f_MO_readChannel_47 M (nI c) u0 (nI c)) (XX T E S) := by
  unfold f_MO_readChannel_47
  rw [if_pos (nI_in hc (by omega)), if_pos (nI_in hc (by omega))]
  split
  · exact (d_need (h.mi (by decide) (by decide)) 18).bind (fun M1 k => d_63 k.1 hc)
  · exact d_63 (h.mi (by decide) (by decide)) hc
/-- behind the number -/
theorem s_79 {md am : Int32} (h : AL T E t κ w S M) (ht : t0 ≤ t) (hP : P2 np nc S M) (hc : nc < 16) (hmd : md = 0 ∨ md = 1) (h18 : xgi M 18 nc = md) : SM (f_RD_readChannel_79 S md am) (f_MO_readChannel_98 M (nI nc) am (nI nc)) (fun _ S' M' => QC T E t0 np (nc + 1) S' M') (XX T E) := by
  obtain ⟨S1, e1, hA1, hC1⟩ := hP.add hc h
  unfold f_RD_readChannel_79 f_MO_readChannel_98
  rw [e1, Option.bind_some, hC1.last hA1 (v := 0) (z := 0) (by decide) rfl, Option.bind_some]
  have hC2 := hC1.wS (v := 0) (by decide) md
  have hA2 : AL T E t κ w (xpi S1 175 (8 * nc + 0) md) M := hA1.s175
  rw [hC2.last hA2 (v := 1) (z := 1) (by decide) rfl, Option.bind_some, if_pos (nI_in hc (by omega)), nI_clamp (by omega)]
  have hC3 := (hC2.wS (v := 1) (by decide) am).wM (i := 19) (j := nc) (a := am) (Or.inl ⟨by decide, by decide, Nat.le_refl _⟩)
  have hA3 : AL T E t κ w (xpi (xpi S1 175 (8 * nc + 0) md) 175 (8 * nc + 1) am) (xpi M 19 nc am) := (hA2.s175).mi (by decide) (by decide)
  have h18' : xgi (xpi M 19 nc am) 18 nc = md := by rw [gii, if_neg (by omega)]; exact h18
  have h19' : xgi (xpi M 19 nc am) 19 nc = am := by rw [gii, if_pos ⟨rfl, rfl⟩]
  refine (s_sign hA3 (a := 4) (u := 123) (by decide +kernel) rfl).bind (fun _ S4 M4 k4 => ?_) (fun S' M4 k => d_98b k hc)
  obtain ⟨b1, b2, t4, κ4, v4, b3, b4, b5⟩ := k4
  have hC4 := hC3.fs b1 b2
  have q18 : xgi M4 18 nc = md := (b2.1 18 nc (by decide)).trans h18'
  have q19 : xgi M4 19 nc = am := (b2.1 19 nc (by decide)).trans h19'
  -- behind the source
  have step : ∀ (t5 κ5 : Nat) (v5 : Int64) (S5 M5 : XS) (a ci : Int32), t ≤ t5 → AL T E t5 κ5 v5 S5 M5 → IC np nc 0 (nup (nup (fun _ => -1) 0 md) 1 am) S5 M5 → xgi M5 18 nc = md → xgi M5 19 nc = am → (ci = 0 ∧ ¬ a = -1) ∨ (ci = 1 ∧ a = -1) →
      SM ((f_RO_setLast S5 173 (2 : Int32) a).bind fun q52 => if a = (-1 : Int32) then (f_RD_readChannel_143 (xpi q52 3 4 ((xgi q52 3 4) + (1 : Int32))) md) else (f_RD_readChannel_143 q52 md)) (f_MO_readChannel_136 M5 (nI nc) ci a (nI nc)) (fun _ S' M' => QC T E t0 np (nc + 1) S' M') (XX T E) := by
    intro t5 κ5 v5 S5 M5 a ci ht5 hA5 hC5 g18 g19 hci
    rw [hC5.last hA5 (v := 2) (z := 2) (by decide) rfl, Option.bind_some]
    unfold f_MO_readChannel_136
    rw [if_pos (nI_in hc (by omega)), nI_clamp (by omega)]
    have hC6 := (hC5.wS (v := 2) (by decide) a).wM (i := 20) (j := nc) (a := a) (Or.inl ⟨by decide, by decide, Nat.le_refl _⟩)
    have hA6 : AL T E t5 κ5 v5 (xpi S5 175 (8 * nc + 2) a) (xpi M5 20 nc a) := (hA5.s175).mi (by decide) (by decide)
    -- the class's total
    have go : ∀ (S6 : XS), AL T E t5 κ5 v5 S6 (xpi M5 20 nc a) → IC np nc ci (nup (nup (nup (fun _ => -1) 0 md) 1 am) 2 a) S6 (xpi M5 20 nc a) → SM (f_RD_readChannel_143 S6 md) ((f_MO_sign (xpi M5 20 nc a) (62 : Int32)).bind fun q31 => if ¬ (nI nc < 0 ∨ 16 ≤ nc) then ((f_MO_good (xpi q31 21 nc (0 : Int32))).bind fun q34 => f_MO_readChannel_158 4096 (xpi q31 21 nc (0 : Int32)) (nI nc) ci (0 : Int32) q34) else none) (fun _ S' M' => QC T E t0 np (nc + 1) S' M') (XX T E) := by
      intro S6 hA hC
      unfold f_RD_readChannel_143 f_RD_readGoals
      refine (s_sign hA (a := 24) (u := 62) (by decide +kernel) rfl).bind (fun _ S7 M7 k7 => ?_) (fun S' M7 k => ?_)
      · obtain ⟨d1, d2, t7, κ7, v7, d3, d4, d5⟩ := k7
        have hA8 : AL T E t7 κ7 v7 S7 (xpi M7 21 nc 0) := d5.mi (by decide) (by decide)
        rw [if_pos (nI_inn hc (by omega)), al_good hA8, Option.bind_some]
        refine s_goals (md := md) 4 0 4096 4096 t7 κ7 v7 S7 (xpi M7 21 nc 0) _ 0 1 rfl (by omega) (by omega) (by omega) (Or.inl ⟨rfl, by omega⟩) (Or.inl rfl) (by rcases hci with q | q; exact Or.inl q.1; exact Or.inr q.1) hmd (by omega) hA8 ((hC.fs d1 d2).wM (Or.inl ⟨by decide, by decide, Nat.le_refl _⟩)) ⟨?_, ?_, ?_, ?_, rfl, fun j hj => by omega, fun j _ hj => ?_⟩
        · rw [gii, if_neg (by omega), d2.1 18 nc (by decide), gii, if_neg (by omega)]; exact g18
        · rw [gii, if_neg (by omega), d2.1 19 nc (by decide), gii, if_neg (by omega)]; exact g19
        · rw [gii, if_neg (by omega), d2.1 20 nc (by decide), gii, if_pos ⟨rfl, rfl⟩]; rfl
        · rw [gii, if_pos ⟨rfl, rfl⟩]; rfl
        · unfold nup
          rw [if_neg (by omega), if_neg (by omega), if_neg (by omega)]
      · rw [if_pos (nI_inn hc (by omega))]
        exact d_136b k hc _
    rcases hci with ⟨rfl, hn⟩ | ⟨rfl, rfl⟩
    · rw [if_neg hn]
      exact go _ hA6 hC6
    · rw [if_pos rfl]
      refine go _ (hA6.si (by decide) (fun hr => absurd hr (by decide))) ?_
      obtain ⟨h1, h2, h3, h4, h5, h6, h7, h8, h9, h10, h11, h12, h13⟩ := hC6
      refine ⟨h1, h2.cg (fun k hk => SA.pi (by omega)) (fun _ _ => MA.rf), ?_, h4, h5, h6.cg (fun j _ => ?_) (fun _ _ => ⟨rfl, rfl, rfl, rfl⟩) (fun _ _ => rfl), ?_, h8, ?_, ?_, ⟨?_, ?_⟩, h12, fun v hv => ?_⟩
      · rw [gii, if_neg (by omega)]; exact h3
      · rw [gii, if_neg (by omega)]
      · rw [gii, if_neg (by omega)]; exact h7
      · rw [gii, if_pos ⟨rfl, rfl⟩, h9, Int32.add_zero]
      · rw [gii, if_neg (by omega)]; exact h10
      · rw [gii, if_neg (by omega)]; exact h11.1
      · rw [gii, if_neg (by omega)]; exact h11.2
      · rw [gii, if_neg (by omega)]; exact h13 v hv
  rw [al_acc b5 (w := 20) (c := 20) (by decide) rfl]
  by_cases hk : κ4 = 1 ∧ v4 = kwc 20
  · rw [if_pos hk, Option.bind_assoc]
    unfold f_RD_readEnd
    rw [al_is_k b5 (a := 22) (w := 20) (by decide +kernel), if_pos hk, Option.bind_some, if_neg (show ¬ (1 : Int32) = 0 by decide), xT2_as]
    refine (s_nx b5).bind (fun _ S5 M5 k5 => ?_) (fun S' M5 k => ?_)
    · obtain ⟨d1, d2, t5, κ5, v5, d3, d4, d5⟩ := k5
      rw [inl_b, Option.bind_some, if_neg (show ¬ (1 : Int32) = 0 by decide)]
      exact step t5 κ5 v5 S5 M5 (-1) 1 (by omega) d5 (hC4.fs d1 d2) ((d2.1 18 nc (by decide)).trans q18) ((d2.1 19 nc (by decide)).trans q19) (Or.inr ⟨rfl, rfl⟩)
    · rw [Option.bind_some, if_neg (show ¬ (1 : Int32) = 0 by decide)]
      exact d_136 k hc _ _
  · rw [if_neg hk, Option.bind_some, if_pos rfl, if_pos (nI_inn hc (by omega)), q18]
    refine (s_end b5 hC4 (a := 22) (kw := 20) (by decide +kernel) hk 1 md).bind (fun r S5 b k5 => ?_) (fun S' b k => d_136 k hc _ _)
    obtain ⟨f1, ⟨k, hk8, rfl⟩, ⟨t5, κ5, v5, f3, f5⟩, hC5, hK5⟩ := k5
    rw [f1]
    exact step t5 κ5 v5 S5 b.2 (nI k) 0 (by omega) f5 hC5 ((hK5 18 nc (by decide)).trans q18) ((hK5 19 nc (by decide)).trans q19) (Or.inl ⟨rfl, nm1 (by omega)⟩)
theorem P2.w18 {a : Int32} (h : P2 np nc S M) : P2 np nc S (xpi M 18 nc a) := by
  obtain ⟨h1, h2, h3, h4, h5, h6, h7, h8, h9, h10, h11, h12⟩ := h
  exact ⟨h1, h2.cg (fun k _ => SA.rf) (fun k hk => MA.pi (by omega) (by omega) (by omega) (by omega) (by omega)), h3, h4, h5, h6.cg (fun _ _ => rfl) (fun b hb => ⟨by rw [gii, if_neg (by omega)], rfl, rfl, rfl⟩) (fun b hb => rfl), h7, h8, h9, h10, h11, h12⟩
theorem s_channel (h : AL T E t κ w S M) (hk : κ = 1 ∧ w = kwc 17) (hP : P2 np nc S M) : SM (f_RD_readChannel S) (f_MO_readChannel M) (fun _ S' M' => nc < 16 ∧ QC T E t np (nc + 1) S' M') (XX T E) := by
  have hnc := hP.2.2.2.2.1
  have hK := h.2.2.1.2.2.2 173 (Or.inl rfl)
  unfold f_RD_readChannel f_MO_readChannel
  rw [ro_full (S := S) (r := 173) (m := 16) (c := nc) (Or.inl rfl) hK.1 hP.2.2.2.2.2.2.1 (by decide) (by omega), Option.bind_some, hP.2.2.2.2.2.2.2.1, xb_id]
  have q16 : (nI nc = 16) = (nc = 16) := eq_lit (by omega) (by omega) rfl
  by_cases hc : nc < 16
  · rw [if_pos hc, if_pos rfl, if_neg (by rw [q16]; omega)]
    unfold f_RD_readChannel_23
    rw [al_expY h (a := 21) (k := 17) (by decide +kernel) hk, xT2_as]
    have hd : ∀ (S' M1 : XS), XX T E S' M1 → OK ((f_MO_accept M1 (19 : Int32)).bind fun q4 => if q4.1 = 0 then (f_MO_readChannel_47 q4.2 (xgi M1 0 29) (0 : Int32) (xgi M1 0 29)) else (f_MO_readChannel_47 q4.2 (xgi M1 0 29) (1 : Int32) (xgi M1 0 29))) (XX T E S') ∨ ¬ xgi M1 0 29 = nI nc := by
      intro S' M1 k
      by_cases e : xgi M1 0 29 = nI nc
      · left
        rw [d_accept k, Option.bind_some, if_pos rfl, e]
        exact d_47 k hc _
      · exact Or.inr e
    refine (s_nxF h).bind (fun _ S1 M1 k1 => ?_) (fun S' M1 k => ?_)
    · obtain ⟨a1, a2, t1, κ1, v1, a3, a4, a5⟩ := k1
      have hP1 := hP.fs a1 a2
      rw [inl_b, hP1.2.2.2.2.2.2.2.1, al_acc a5 (w := 19) (c := 19) (by decide) rfl]
      -- behind the mode
      have num : ∀ (t2 κ2 : Nat) (v2 : Int64) (S2 M2 : XS) (md : Int32), t ≤ t2 → AL T E t2 κ2 v2 S2 M2 → P2 np nc S2 M2 → (md = 0 ∨ md = 1) → xgi M2 18 nc = md → SM (if md = (1 : Int32) then ((f_WO_expectNumber S2 (1 : Int32) (8 : Int32) (1 : Int32)).bind (xT2 fun v31 S32 => f_RD_readChannel_79 S32 md v31)) else ((f_WO_expectNumber S2 (0 : Int32) (100000 : Int32) (1 : Int32)).bind (xT2 fun v26 S27 => f_RD_readChannel_79 S27 md v26))) (f_MO_readChannel_63 M2 (nI nc)) (fun _ S' M' => nc < 16 ∧ QC T E t np (nc + 1) S' M') (XX T E) := by
        intro t2 κ2 v2 S2 M2 md ht2 hA2 hP2 hmd h18
        have fin : ∀ lo hi : Int32, SM ((f_WO_expectNumber S2 lo hi (1 : Int32)).bind (xT2 fun v31 S32 => f_RD_readChannel_79 S32 md v31)) ((f_MO_number M2 lo hi (1 : Int32)).bind fun q18 => f_MO_readChannel_98 q18.2 (nI nc) q18.1 (nI nc)) (fun _ S' M' => nc < 16 ∧ QC T E t np (nc + 1) S' M') (XX T E) := by
          intro lo hi
          refine (s_number hA2 (Or.inl rfl)).bind (fun r S3 b k3 => ?_) (fun S' b k => d_98 k hc _)
          obtain ⟨c1, ⟨b1, b2, t3, κ3, v3, b3, b4, b5⟩, -⟩ := k3
          rw [c1]
          exact (s_79 b5 (t0 := t) (by omega) (hP2.fs b1 b2) hc hmd ((b2.1 18 nc (by decide)).trans h18)).imp (fun _ _ _ g => ⟨hc, g⟩) (fun _ _ g => g)
        unfold f_MO_readChannel_63
        rw [if_pos (nI_in hc (by omega)), nI_clamp (by omega), h18]
        rcases hmd with rfl | rfl
        · rw [if_neg (show ¬ (0 : Int32) = 1 by decide), if_neg (show ¬ (0 : Int32) = 1 by decide)]
          exact fin 0 100000
        · rw [if_pos rfl, if_pos rfl]
          exact fin 1 8
      rcases al_two a5 (a := 17) (w0 := 18) (w1 := 19) (by decide +kernel) with ⟨k1, k2, k3, k4⟩ | ⟨k1, k2, k3, k4⟩ | ⟨k2, k3, k4⟩
      · rw [if_neg k3, k4, inl_b, Option.bind_some, if_pos rfl]
        unfold f_MO_readChannel_47
        rw [if_pos (nI_in hc (by omega)), if_pos (nI_in hc (by omega)), nI_clamp (by omega)]
        have hA2 : AL T E t1 κ1 v1 S1 (xpi M1 18 nc 0) := a5.mi (by decide) (by decide)
        rw [if_pos (by rw [gii, if_pos ⟨rfl, rfl⟩]), al_needY hA2 (a := 18) (z := 18) (by decide) rfl ⟨k1, k2⟩]
        refine (s_nx hA2).bind (fun _ S2 M2 k5 => ?_) (fun S' M2 k => d_63 k hc)
        obtain ⟨b1, b2, t2, κ2, v2, b3, b4, b5⟩ := k5
        exact num t2 κ2 v2 S2 M2 0 (by omega) b5 (hP1.w18.fs b1 b2) (Or.inl rfl) (by rw [b2.1 18 nc (by decide), gii, if_pos ⟨rfl, rfl⟩])
      · rw [if_pos ⟨k1, k2⟩, k4, inl_b, Option.bind_assoc]
        refine (s_nx a5).bind (fun _ S2 M2 k5 => ?_) (fun S' M2 k => ?_)
        · obtain ⟨b1, b2, t2, κ2, v2, b3, b4, b5⟩ := k5
          rw [Option.bind_some, if_neg (show ¬ (1 : Int32) = 0 by decide)]
          unfold f_MO_readChannel_47
          have e18 : xgi (xpi M2 18 nc 1) 18 nc = 1 := by rw [gii, if_pos ⟨rfl, rfl⟩]
          dsimp only
          rw [if_pos (nI_in hc (by omega)), if_pos (nI_in hc (by omega)), nI_clamp (by omega), e18, if_neg (show ¬ (1 : Int32) = 0 by decide)]
          exact num t2 κ2 v2 S2 _ 1 (by omega) (b5.mi (by decide) (by decide)) (hP1.fs b1 b2).w18 (Or.inr rfl) (by rw [gii, if_pos ⟨rfl, rfl⟩])
        · rw [Option.bind_some, if_neg (show ¬ (1 : Int32) = 0 by decide)]
          exact d_47 k hc _
      · rw [if_neg k3, k4, inr_b, Option.bind_some, if_pos rfl]
        unfold f_MO_readChannel_47
        rw [if_pos (nI_in hc (by omega)), if_pos (nI_in hc (by omega)), nI_clamp (by omega)]
        have hA2 : AL T E t1 κ1 v1 S1 (xpi M1 18 nc 0) := a5.mi (by decide) (by decide)
        rw [if_pos (by rw [gii, if_pos ⟨rfl, rfl⟩]), al_needN hA2 (a := 18) (z := 18) (by decide) rfl k2, Option.bind_some]
        exact SM.thr (d_63 (al_xx hA2 (by decide)) hc)
    · have e29 : xgi M1 0 29 = nI nc := by rw [k.2.2 29 (by decide)]; exact hP.2.2.2.2.2.2.2.1
      rcases hd S' M1 k.1 with g | g
      · exact g
      · exact absurd e29 g
  · rw [if_neg hc, if_neg (show ¬ (1 : Int32) = 0 by decide), if_pos (by rw [q16]; omega), fail_b, al_fail h]
    exact SM.thr (OK.mk (al_xx h (by decide)))
end Ch
