/-! the frame, and load -/
def RL (S M : XS) : Prop := ∃ T, BY T ∧ (∀ j, xgi S 1 j = T j) ∧ (∀ j, xgi M 4 j = T j) ∧ (∀ i, xR i → xgi S i 0 = nI (xMost i) ∧ xgi S i 1 = nI (xWid i)) ∧ ((∀ j, xgl M 1 j = mwords.getD j 0) ∧ (∀ j, xgl M 2 j = mkinds.getD j 0) ∧ (∀ j, xgl M 3 j = mactions.getD j 0)) ∧ (∃ L, L ≤ 2000 ∧ xgi S 0 1 = nI L ∧ xgi M 0 5 = nI L) ∧ xgi S 2 7 = xgi M 0 13 ∧ xgi S 2 8 = xgi M 0 14 ∧ ((xgi S 0 5 = 0 ∧ xgi M 0 15 = 0 ∧ xgi M 0 29 = 0 ∧ xgi M 0 30 = 0 ∧ xgi M 0 31 = 0 ∧ xgi M 0 32 = 0 ∧ xgi M 0 33 = 0) ∨ (xgi S 0 5 = 1 ∧ ∃ np nc nw, P3 np nc nw S M))
section Ld
variable {T : Nat → Int32} {E t0 t κ : Nat} {w : Int64} {np nc nw : Nat} {S M S' M' : XS}
theorem d_170 (h : XX T E S M) {m : Nat} (hm : 0 < m) : OK (f_MO_frame_17 m M 0) (fun M' => XX T E S M' ∧ ¬ xgi M' 0 11 = 0) := by
  obtain ⟨m, rfl⟩ : ∃ k, m = k + 1 := ⟨m - 1, by omega⟩
  unfold f_MO_frame_17
  rw [if_pos rfl, xb_id]
  exact (d_sign h 125).imp (fun _ g => ⟨g.1, g.2.2⟩)
theorem d_17 (h : XX T E S M) {m : Nat} (hm : 1 < m) : OK ((f_MO_good M).bind fun q12 => if q12 = 0 then (f_MO_frame_17 m M (0 : Int32)) else ((f_MO_isSign M (125 : Int32)).bind fun q14 => if q14 = 0 then (f_MO_frame_17 m M (1 : Int32)) else (f_MO_frame_17 m M (0 : Int32)))) (fun M' => XX T E S M' ∧ ¬ xgi M' 0 11 = 0) := by
  rcases d_good h with ⟨g1, g2⟩ | ⟨g1, g2, g3⟩
  · rw [g1, Option.bind_some, if_pos rfl]
    exact d_170 h (by omega)
  · rw [g1, Option.bind_some, if_neg (show ¬ (1 : Int32) = 0 by decide), d_isSign h, Option.bind_some, if_pos rfl]
    obtain ⟨m, rfl⟩ : ∃ k, m = k + 1 := ⟨m - 1, by omega⟩
    unfold f_MO_frame_17
    rw [if_neg (show ¬ (1 : Int32) = 0 by decide)]
    refine (d_window h).bind (fun M1 k => ?_)
    rw [d_hard k.2, Option.bind_some, if_pos rfl]
    exact d_170 k.1 (by omega)
theorem d_17f (h : XX T E S M) : OK ((f_MO_good M).bind fun q6 => f_MO_frame_17 4096 M q6) (fun M' => XX T E S M' ∧ ¬ xgi M' 0 11 = 0) := by
  rcases d_good h with ⟨g1, g2⟩ | ⟨g1, g2, g3⟩
  · rw [g1, Option.bind_some]
    exact d_170 h (by decide)
  · rw [g1, Option.bind_some]
    unfold f_MO_frame_17
    rw [if_neg (show ¬ (1 : Int32) = 0 by decide)]
    refine (d_window h).bind (fun M1 k => ?_)
    rw [d_hard k.2, Option.bind_some, if_pos rfl]
    exact d_170 k.1 (by decide)
theorem d_frame (h : XX T E S M) : OK (f_MO_frame M) (fun M' => XX T E S M' ∧ ¬ xgi M' 0 11 = 0) := by
  unfold f_MO_frame
  exact (d_need h 22).bind (fun M1 k => (d_sign k.1 123).bind (fun M2 k2 => d_17f k2.1))
def QF (T : Nat → Int32) (E np nc : Nat) (S' M' : XS) : Prop := (∃ t' κ v, AL T E t' κ v S' M') ∧ ∃ nw, P3 np nc nw S' M'
theorem s_wins : ∀ (d nw n m t κ : Nat) (w : Int64) (S M : XS) (fl : Int32), 17 - nw = d → nw ≤ 16 → 30 ≤ n + nw → 30 ≤ m + nw → AL T E t κ w S M → P3 np nc nw S M → fl = (if nw = 0 then 1 else if κ = 3 ∧ w = lN 125 then 0 else 1) →
    SM (f_RD_readFrame_20 n S (nI nw)) (f_MO_frame_17 m M fl) (fun _ S' M' => QF T E np nc S' M') (fun S' M' => XX T E S' M' ∧ (¬ xgi M' 0 11 = 0 ∨ xgi M' 0 8 = 5)) := by
  have hX : ∀ S M : XS, XX T E S M → XX T E S M ∧ (¬ xgi M 0 11 = 0 ∨ xgi M 0 8 = 5) := fun S M k => ⟨k, by
    rcases d_good k with ⟨g1, g2⟩ | ⟨g1, g2, g3⟩
    · exact Or.inl g2
    · exact Or.inr g3⟩
  intro d
  induction d with
  | zero => intro nw n m t κ w S M fl hd hnw; omega
  | succ d ih =>
    intro nw n m t κ w S M fl hd hnw hn hm h hP hfl
    obtain ⟨n, rfl⟩ : ∃ k, n = k + 1 := ⟨n - 1, by omega⟩
    obtain ⟨m, rfl⟩ : ∃ k, m = k + 1 := ⟨m - 1, by omega⟩
    have body : SM ((f_RD_readWindow S).bind (xT2 fun _ S19 => f_RD_readFrame_20 n S19 (nI nw + (1 : Int32)))) ((f_MO_readWindow M).bind fun q10 => (f_MO_good q10).bind fun q12 => if q12 = 0 then (f_MO_frame_17 m q10 (0 : Int32)) else ((f_MO_isSign q10 (125 : Int32)).bind fun q14 => if q14 = 0 then (f_MO_frame_17 m q10 (1 : Int32)) else (f_MO_frame_17 m q10 (0 : Int32)))) (fun _ S' M' => QF T E np nc S' M') (fun S' M' => XX T E S' M' ∧ (¬ xgi M' 0 11 = 0 ∨ xgi M' 0 8 = 5)) := by
      refine (s_window h hP).bind (fun _ S1 M1 k1 => ?_) (fun S' M1 k => (d_17 k (by omega)).imp (fun _ g => ⟨g.1, Or.inl g.2⟩))
      obtain ⟨hw, ⟨t1, κ1, v1, g1, g2⟩, g3⟩ := k1
      rw [nI_1, al_good g2, Option.bind_some, if_neg (show ¬ (1 : Int32) = 0 by decide), al_sg g2 (u := 125) (by decide) (c := 125) rfl, Option.bind_some]
      have hgo := fun fl hfl => ih (nw + 1) n m t1 κ1 v1 S1 M1 fl (by omega) (by omega) (by omega) (by omega) g2 g3 hfl
      by_cases h9 : κ1 = 3 ∧ v1 = lN 125
      · rw [if_pos h9, if_neg (show ¬ (1 : Int32) = 0 by decide)]
        exact hgo 0 (by rw [if_neg (by omega), if_pos h9])
      · rw [if_neg h9, if_pos rfl]
        exact hgo 1 (by rw [if_neg (by omega), if_neg h9])
    unfold f_RD_readFrame_20 f_MO_frame_17
    rw [if_neg (by rw [gt_lit (x := 16) (n := 16) (by omega) (by omega) rfl]; omega)]
    by_cases hc0 : nw = 0
    · rw [if_pos (by rw [hc0]; rfl), hfl, if_pos hc0, if_neg (show ¬ (1 : Int32) = 0 by decide)]
      exact body
    · rw [if_neg (nI_ne0 (by omega) (by omega)), al_is_s h (a := 7) (u := 125) (by decide +kernel), Option.bind_some, hfl, if_neg hc0]
      by_cases h9 : κ = 3 ∧ w = lN 125
      · rw [if_pos h9, if_pos h9, if_neg (show ¬ (1 : Int32) = 0 by decide), if_pos rfl, xb_id]
        refine ((s_sign h (a := 7) (u := 125) (by decide +kernel) rfl).imp (fun _ S3 M3 k3 => ?_) (fun _ _ k => hX _ _ k)).idl
        obtain ⟨d1, d2, t3, κ3, v3, d3, d4, d5⟩ := k3
        exact ⟨⟨t3, κ3, v3, d5⟩, nw, hP.fs d1 d2⟩
      · rw [if_neg h9, if_neg h9, if_pos rfl, if_neg (show ¬ (1 : Int32) = 0 by decide)]
        exact body
theorem s_frame (h : AL T E t κ w S M) (hP : P3 np nc 0 S M) : SM (f_RD_readFrame S) (f_MO_frame M) (fun _ S' M' => QF T E np nc S' M') (XX T E) := by
  unfold f_RD_readFrame f_MO_frame
  refine (s_need h (a := 27) (w := 22) (by decide +kernel) rfl).bind (fun _ S1 M1 k1 => ?_) (fun S' M1 k => (d_sign k 123).bind (fun M2 k2 => (d_17f k2.1).imp (fun _ g => g.1)))
  obtain ⟨a1, a2, t1, κ1, v1, a3, a4, a5⟩ := k1
  refine (s_sign a5 (a := 4) (u := 123) (by decide +kernel) rfl).bind (fun _ S2 M2 k2 => ?_) (fun S' M2 k => (d_17f k).imp (fun _ g => g.1))
  obtain ⟨b1, b2, t2, κ2, v2, b3, b4, b5⟩ := k2
  rw [al_good b5, Option.bind_some]
  exact (s_wins 17 0 4096 4096 t2 κ2 v2 S2 M2 1 rfl (by omega) (by omega) (by omega) b5 ((hP.fs a1 a2).fs b1 b2) rfl).imp (fun _ _ _ g => g) (fun _ _ g => g.1)
/-! the end of a load -/
def XL (S' : XS) (b : Int32 × XS) : Prop := xgi b.2 0 0 = 1 ∧ RL S' b.2
def QL (r : Int32) (S' : XS) (b : Int32 × XS) : Prop := b.1 = r ∧ xgi b.2 0 0 = 0 ∧ RL S' b.2
theorem d_81 (hb : BY T) (h : XX T E S M) (hh : ¬ xgi M 0 11 = 0) : OK (f_MO_load_81 M) (XL S) := by
  obtain ⟨hKS, hKM, h7, hD⟩ := h
  rcases hD with ⟨g1, g2⟩ | ⟨g1, -⟩
  · unfold f_MO_load_81 f_MO_load_115 f_MO_forget
    have hn : ¬ xgi M 0 11 ≤ 0 := by rw [g1]; exact Int32.not_le.mpr h7
    simp only [gii, Nat.reduceEqDiff, and_false, if_false, and_self, if_true, false_and, hn, Option.bind_some]
    refine OK.mk ⟨rfl, T, hb, hKS.1, fun j => hKM.1 j, hKS.2.2.2, ⟨hKM.2.2.1, hKM.2.2.2.1, hKM.2.2.2.2⟩, ⟨0, by omega, hKS.2.1, rfl⟩, g1.symm, g2.symm, Or.inl ⟨hKS.2.2.1, rfl, rfl, rfl, rfl, rfl, rfl⟩⟩
  · exact absurd g1 hh
theorem s_81 (h : AL T E t κ w S M) (hP : P3 np nc nw S M) : SM (some (.inl (xgi (xpi S 0 5 (1 : Int32)) 3 1, xpi S 0 5 (1 : Int32))) : Option ((Int32 × XS) ⊕ XS)) (f_MO_load_81 M) QL XL := by
  have h0 := al_0 h
  obtain ⟨hb, hE, hKS, hKM, f, hR, hZ⟩ := h
  unfold f_MO_load_81 f_MO_load_115
  have hle : (0 : Int32) ≤ 0 := by decide
  simp only [gii, Nat.reduceEqDiff, and_false, if_false, and_self, if_true, false_and, h0, hle]
  refine SM.ret ⟨?_, rfl, T, hb, fun j => hKS.1 j, fun j => hKM.1 j, fun i hi => ?_, ⟨hKM.2.2.1, hKM.2.2.2.1, hKM.2.2.2.2⟩, ⟨0, by omega, hKS.2.1, rfl⟩, ?_, ?_, Or.inr ⟨rfl, np, nc, nw, hP.cg (fun i j q => ?_) (fun i j q => rfl) (fun i j q => ?_) (fun j q => ?_) (fun i j q => rfl)⟩⟩
  · exact hP.2.2.2.1.trans hP.2.2.1.symm
  · have := hKS.2.2.2 i hi
    rw [gii, if_neg (by omega), gii, if_neg (by omega)]
    exact this
  · exact hZ.1
  · exact hZ.2.1.trans hZ.2.2.symm
  · rw [gii, if_neg (by omega)]
  · rw [gii, if_neg (by omega), gii, if_neg (by omega), gii, if_neg (by omega), gii, if_neg (by omega)]
  · rw [gii, if_neg (by omega), gii, if_neg (by omega), gii, if_neg (by omega), gii, if_neg (by omega)]
theorem d_tail (hb : BY T) (h : XX T E S M) : OK ((f_MO_frame M).bind fun q15 => (f_MO_good q15).bind fun q17 => if q17 = 0 then (f_MO_load_81 q15) else (if (xgi q15 0 8) = 0 then (f_MO_load_81 q15) else ((f_MO_bad q15 (1 : Int32)).bind fun q19 => f_MO_load_81 q19))) (XL S) := by
  refine (d_frame h).bind (fun M1 k => ?_)
  rw [d_hard k.2, Option.bind_some, if_pos rfl]
  exact d_81 hb k.1 k.2
theorem s_tail (h : AL T E t κ w S M) (hP : P2 np nc S M) : SM (f_CT_load_100 S) ((f_MO_frame M).bind fun q15 => (f_MO_good q15).bind fun q17 => if q17 = 0 then (f_MO_load_81 q15) else (if (xgi q15 0 8) = 0 then (f_MO_load_81 q15) else ((f_MO_bad q15 (1 : Int32)).bind fun q19 => f_MO_load_81 q19))) QL XL := by
  have hb := h.1
  unfold f_CT_load_100
  refine (s_frame h hP.p3).bind (fun _ S1 M1 k1 => ?_) (fun S' M1 k => ?_)
  · obtain ⟨⟨t1, κ1, v1, g2⟩, nw, g3⟩ := k1
    rw [al_good g2, Option.bind_some, if_neg (show ¬ (1 : Int32) = 0 by decide), al_tk g2]
    unfold f_WO_expectEnd
    rw [al_ki g2]
    have hk4 := al_k g2
    by_cases h0 : κ1 = 0
    · rw [if_pos (by rw [h0]; rfl), inl_b, if_pos ((tkn_k (v := v1) hk4).2.2.2.2.2.mpr h0)]
      exact s_81 g2 g3
    · rw [if_neg (nI_ne0 (by omega) (by omega)), if_neg (fun e => h0 ((tkn_k (v := v1) hk4).2.2.2.2.2.mp e)), fail_b, inr_b, al_bad g2, Option.bind_some]
      exact SM.thr (d_81 hb (al_xx g2 (by decide)) (by show ¬ (1 : Int32) = 0; decide))
  · rcases d_good k with ⟨g1, g2⟩ | ⟨g1, g2, g3⟩
    · rw [g1, Option.bind_some, if_pos rfl]
      exact d_81 hb k g2
    · rw [g1, Option.bind_some, if_neg (show ¬ (1 : Int32) = 0 by decide), g3, if_neg (by decide)]
      exact (d_bad k 1).bind (fun M2 k2 => d_81 hb k2.1 k2.2.2)
theorem d_42 (hb : BY T) (h : XX T E S M) {m : Nat} (hm : 0 < m) : OK (f_MO_load_42 m M) (XL S) := by
  obtain ⟨m, rfl⟩ : ∃ k, m = k + 1 := ⟨m - 1, by omega⟩
  unfold f_MO_load_42
  rw [d_isWord h, Option.bind_some, if_pos rfl]
  exact d_tail hb h
theorem d_27 (hb : BY T) (h : XX T E S M) {m : Nat} (hm : 0 < m) : OK (f_MO_load_27 m M) (XL S) := by
  obtain ⟨m, rfl⟩ : ∃ k, m = k + 1 := ⟨m - 1, by omega⟩
  unfold f_MO_load_27
  rw [d_isWord h, Option.bind_some, if_pos rfl]
  exact d_42 hb h (by decide)
theorem s_chans : ∀ (d nc n m t κ : Nat) (w : Int64) (S M : XS), 17 - nc = d → nc ≤ 16 → 30 ≤ n + nc → 30 ≤ m + nc → AL T E t κ w S M → P2 np nc S M → SM (f_CT_load_69 n S (nI nc)) (f_MO_load_42 m M) QL XL := by
  intro d
  induction d with
  | zero => intro nc n m t κ w S M hd hnc; omega
  | succ d ih =>
    intro nc n m t κ w S M hd hnc hn hm h hP
    obtain ⟨n, rfl⟩ : ∃ k, n = k + 1 := ⟨n - 1, by omega⟩
    obtain ⟨m, rfl⟩ : ∃ k, m = k + 1 := ⟨m - 1, by omega⟩
    unfold f_CT_load_69 f_MO_load_42
    rw [if_neg (by rw [gt_lit (x := 16) (n := 16) (by omega) (by omega) rfl]; omega), al_is_k h (a := 21) (w := 17) (by decide +kernel), al_kw h (w := 17) (c := 17) (by decide) rfl, Option.bind_some, Option.bind_some]
    by_cases hk : κ = 1 ∧ w = kwc 17
    · rw [if_pos hk, if_neg (show ¬ (1 : Int32) = 0 by decide), if_neg (show ¬ (1 : Int32) = 0 by decide), nI_1]
      refine (s_channel h hk hP).bind (fun _ S1 M1 k1 => ?_) (fun S' M1 k => d_42 h.1 k (by omega))
      obtain ⟨hc, ⟨t1, κ1, v1, g1, g2⟩, g3⟩ := k1
      exact ih (nc + 1) n m t1 κ1 v1 S1 M1 (by omega) (by omega) (by omega) (by omega) g2 g3
    · rw [if_neg hk, if_pos rfl, if_pos rfl]
      exact s_tail h hP
theorem s_parts : ∀ (d np n m t κ : Nat) (w : Int64) (S M : XS), 9 - np = d → 0 < np → np ≤ 8 → 20 ≤ n + np → 20 ≤ m + np → AL T E t κ w S M → P1 np S M → SM (f_CT_load_32 n S (nI np)) (f_MO_load_27 m M) QL XL := by
  intro d
  induction d with
  | zero => intro np n m t κ w S M hd _ hnp; omega
  | succ d ih =>
    intro np n m t κ w S M hd h0 hnp hn hm h hP
    obtain ⟨n, rfl⟩ : ∃ k, n = k + 1 := ⟨n - 1, by omega⟩
    obtain ⟨m, rfl⟩ : ∃ k, m = k + 1 := ⟨m - 1, by omega⟩
    unfold f_CT_load_32 f_MO_load_27
    rw [if_neg (by rw [gt_lit (x := 8) (n := 8) (by omega) (by omega) rfl]; omega), if_neg (nI_ne0 h0 (by omega)), al_is_k h (a := 2) (w := 0) (by decide +kernel), al_kw h (w := 0) (c := 0) (by decide) rfl, Option.bind_some, Option.bind_some]
    by_cases hk : κ = 1 ∧ w = kwc 0
    · rw [if_pos hk, if_neg (show ¬ (1 : Int32) = 0 by decide), if_neg (show ¬ (1 : Int32) = 0 by decide), nI_1]
      refine (s_partition h hP).bind (fun _ S1 M1 k1 => ?_) (fun S' M1 k => d_27 h.1 k (by omega))
      obtain ⟨hc, ⟨t1, κ1, v1, g1, g2⟩, g3⟩ := k1
      exact ih (np + 1) n m t1 κ1 v1 S1 M1 (by omega) (by omega) (by omega) (by omega) (by omega) g2 g3
    · rw [if_neg hk, if_pos rfl, if_pos rfl]
      unfold f_CT_load_67
      exact s_chans 17 0 4096 4096 t κ w S M rfl (by omega) (by omega) (by omega) h hP.p2
theorem s_load (h : RL S M) : SM (f_CT_load S) (f_MO_load M) QL XL := by
  obtain ⟨T, hb, hS1, hM4, hrow, ⟨ht1, ht2, ht3⟩, ⟨L, hL, hSL, hML⟩, -, -, -⟩ := h
  unfold f_CT_load f_CF_clear f_RO_clear f_WO_begin f_MO_load f_MO_forget
  rw [if_pos (Or.inl rfl), Option.bind_some, if_pos (Or.inr (Or.inl rfl)), Option.bind_some, Option.bind_some, Option.bind_some, hSL, if_neg (by rw [gt_lit (x := 2000) (n := 2000) (by omega) (by omega) rfl]; omega), xT2_as]
  refine (s_next (T := T) (E := L) (t := 0) hb hL (by omega) ⟨fun j => ?_, ?_, ?_, fun i hi => ⟨?_, ?_⟩⟩ ⟨fun j => ?_, ?_, fun j => ?_, fun j => ?_, fun j => ?_⟩ ?_ ?_ ?_ ?_).bind (fun _ S1 M1 k1 => ?_) (fun S' M1 k => ?_)
  · simp only [gii, Nat.reduceEqDiff, false_and, and_false, if_false]; exact hS1 j
  · simp only [gii, Nat.reduceEqDiff, false_and, and_false, if_false, and_self, if_true]
  · simp only [gii, Nat.reduceEqDiff, false_and, and_false, if_false, and_self, if_true]
  · have := (hrow i hi).1
    simp only [gii, Nat.reduceEqDiff, and_false, if_false]
    exact this
  · have := (hrow i hi).2
    have h0 : ¬ i = 0 := by omega
    have h2 : ¬ i = 2 := by omega
    have h3 : ¬ i = 3 := by omega
    simp only [gii, Nat.reduceEqDiff, and_false, if_false, h0, h2, h3, false_and]
    exact this
  · simp only [gii, Nat.reduceEqDiff, false_and, and_false, if_false]; exact hM4 j
  · simp only [gii, Nat.reduceEqDiff, false_and, and_false, if_false]; exact hML
  · exact ht1 j
  · exact ht2 j
  · exact ht3 j
  · simp only [gii, Nat.reduceEqDiff, false_and, and_false, if_false, and_self, if_true]
  · simp only [gii, Nat.reduceEqDiff, false_and, and_false, if_false, and_self, if_true]
    rfl
  · simp only [gii, and_self, if_true]
    rfl
  · simp only [gii, Nat.reduceEqDiff, and_false, if_false, and_self, if_true]
  · obtain ⟨a1, a2, f, t1, κ1, v1, a3, a4, a5⟩ := k1
    rw [inl_b]
    have hA : AL T L t1 κ1 v1 S1 M1 := by
      refine ⟨hb, hL, KS.fs ⟨fun j => ?_, ?_, ?_, fun i hi => ⟨?_, ?_⟩⟩ a1, KM.fm ⟨fun j => ?_, ?_, fun j => ?_, fun j => ?_, fun j => ?_⟩ a2, f, a5, FZ.fs ⟨?_, ?_, ?_⟩ a1 a2⟩
      · simp only [gii, Nat.reduceEqDiff, false_and, and_false, if_false]; exact hS1 j
      · simp only [gii, Nat.reduceEqDiff, false_and, and_false, if_false, and_self, if_true]
      · simp only [gii, Nat.reduceEqDiff, false_and, and_false, if_false, and_self, if_true]
      · have := (hrow i hi).1
        simp only [gii, Nat.reduceEqDiff, and_false, if_false]
        exact this
      · have := (hrow i hi).2
        have h0 : ¬ i = 0 := by omega
        have h2 : ¬ i = 2 := by omega
        have h3 : ¬ i = 3 := by omega
        simp only [gii, Nat.reduceEqDiff, and_false, if_false, h0, h2, h3, false_and]
        exact this
      · simp only [gii, Nat.reduceEqDiff, false_and, and_false, if_false]; exact hM4 j
      · simp only [gii, Nat.reduceEqDiff, false_and, and_false, if_false]; exact hML
      · exact ht1 j
      · exact ht2 j
      · exact ht3 j
      · simp only [gii, Nat.reduceEqDiff, and_false, if_false, and_self, if_true]
      · simp only [gii, and_self, if_true]
      · simp only [gii, Nat.reduceEqDiff, and_false, if_false, and_self, if_true]
    have hP : P1 0 S1 M1 := by
      refine ⟨by omega, fun k hk => by omega, CR.fs ⟨⟨?_, ?_, ?_, ?_, ?_⟩, ?_, ?_, ?_, ?_, ?_⟩ a1 a2, ?_, ?_⟩
      · simp only [gii, Nat.reduceEqDiff, false_and, and_false, if_false, and_self, if_true]
      · simp only [gii, Nat.reduceEqDiff, false_and, and_false, if_false, and_self, if_true]
      · simp only [gii, Nat.reduceEqDiff, false_and, and_false, if_false, and_self, if_true]
      · simp only [gii, Nat.reduceEqDiff, false_and, and_false, if_false, and_self, if_true]
      · simp only [gii, Nat.reduceEqDiff, false_and, and_false, if_false, and_self, if_true]
      · simp only [gii, Nat.reduceEqDiff, false_and, and_false, if_false, and_self, if_true]
      · simp only [gii, Nat.reduceEqDiff, false_and, and_false, if_false, and_self, if_true]
      · simp only [gii, Nat.reduceEqDiff, false_and, and_false, if_false, and_self, if_true]
      · simp only [gii, Nat.reduceEqDiff, false_and, and_false, if_false, and_self, if_true]
      · simp only [gii, Nat.reduceEqDiff, false_and, and_false, if_false, and_self, if_true]
      · rw [a1.1 3 1 (by decide)]
        simp only [gii, Nat.reduceEqDiff, false_and, and_false, if_false, and_self, if_true]
        rfl
      · rw [a2.2.1 15 (by decide)]
        simp only [gii, Nat.reduceEqDiff, and_false, if_false, and_self, if_true]
        rfl
    unfold f_CT_load_32
    rw [if_neg (by decide), if_pos rfl]
    refine (s_partition hA hP).bind (fun _ S2 M2 k2 => ?_) (fun S' M2 k => d_27 hb k (by decide))
    obtain ⟨hc, ⟨t2, κ2, v2, g1, g2⟩, g3⟩ := k2
    exact s_parts 8 1 4095 4096 t2 κ2 v2 S2 M2 rfl (by omega) (by omega) (by omega) (by omega) g2 g3
  · exact (d_partition k).bind (fun M2 k2 => d_27 hb k2 (by decide))
end Ld
