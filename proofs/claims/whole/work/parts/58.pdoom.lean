/-! the reference behind a fault: it goes on, and keeps the fault -/
def DF (M M' : XS) : Prop := (∀ i j, ¬ (i = 0 ∧ (j = 11 ∨ j = 12)) → xgi M' i j = xgi M i j) ∧ (∀ i j, xgl M' i j = xgl M i j)
theorem DF.rf {M : XS} : DF M M := ⟨fun _ _ _ => rfl, fun _ _ => rfl⟩
theorem DF.tr {M M1 M2 : XS} (h : DF M M1) (k : DF M1 M2) : DF M M2 := ⟨fun i j q => (k.1 i j q).trans (h.1 i j q), fun i j => (k.2 i j).trans (h.2 i j)⟩
theorem DF.fp {M : XS} {x y : Int32} : DF M (xpi (xpi M 0 11 x) 0 12 y) := ⟨fun i j q => by rw [gii, if_neg (by omega), gii, if_neg (by omega)], fun _ _ => rfl⟩
section Dm
variable {T : Nat → Int32} {E : Nat} {S M : XS}
theorem XX.ne (h : XX T E S M) : ¬ xgi S 2 7 = 0 := fun e => by
  have := h.2.2.1
  rw [e] at this
  exact absurd this (by decide)
theorem XX.mi {i j : Nat} {x : Int32} (h : XX T E S M) (hi : ¬ i = 0) (hi2 : ¬ i = 4) : XX T E S (xpi M i j x) := by
  refine ⟨h.1, h.2.1.i0 (by omega), h.2.2.1, ?_⟩
  unfold Dm
  rw [gii, if_neg (by omega), gii, if_neg (by omega), gii, if_neg (by omega), gii, if_neg (by omega)]
  exact h.2.2.2
theorem XX.m0 {j : Nat} {x : Int32} (h : XX T E S M) (hj : 12 < j) : XX T E S (xpi M 0 j x) := by
  refine ⟨h.1, h.2.1.i0 (by omega), h.2.2.1, ?_⟩
  unfold Dm
  rw [gii, if_neg (by omega), gii, if_neg (by omega), gii, if_neg (by omega), gii, if_neg (by omega)]
  exact h.2.2.2
theorem XX.ml {i j : Nat} {x : Int64} (h : XX T E S M) (hi : 3 < i) : XX T E S (xpl M i j x) := ⟨h.1, h.2.1.l0 (by omega), h.2.2.1, h.2.2.2⟩
theorem d_good (h : XX T E S M) : (f_MO_good M = some 0 ∧ ¬ xgi M 0 11 = 0) ∨ (f_MO_good M = some 1 ∧ xgi M 0 11 = 0 ∧ xgi M 0 8 = 5) := by
  unfold f_MO_good
  rcases h.2.2.2 with ⟨g1, g2⟩ | ⟨g1, g2, g3, g4⟩
  · rw [if_neg (by rw [g1]; exact h.ne)]
    exact Or.inl ⟨rfl, by rw [g1]; exact h.ne⟩
  · rw [if_pos g1]
    exact Or.inr ⟨rfl, g1, g3⟩
theorem d_hard (h : ¬ xgi M 0 11 = 0) : f_MO_good M = some 0 := by unfold f_MO_good; rw [if_neg h]
theorem d_isSign (h : XX T E S M) (c : Int32) : f_MO_isSign M c = some 0 := by
  unfold f_MO_isSign
  rcases d_good h with ⟨g1, g2⟩ | ⟨g1, g2, g3⟩
  · rw [g1]; rfl
  · rw [g1, g3]; rfl
theorem d_isWord (h : XX T E S M) (c : Int32) : f_MO_isWord M c = some 0 := by
  unfold f_MO_isWord
  rcases d_good h with ⟨g1, g2⟩ | ⟨g1, g2, g3⟩
  · rw [g1]; rfl
  · rw [g1, g3]; rfl
theorem d_accept (h : XX T E S M) (c : Int32) : f_MO_accept M c = some (0, M) := by
  unfold f_MO_accept
  rw [d_isWord h]
  rfl
theorem d_bad (h : XX T E S M) (k : Int32) : OK (f_MO_bad M k) (fun M' => XX T E S M' ∧ DF M M' ∧ ¬ xgi M' 0 11 = 0) := by
  unfold f_MO_bad f_MO_fail
  rcases h.2.2.2 with ⟨g1, g2⟩ | ⟨g1, g2, g3, g4⟩
  · have hn : ¬ xgi M 0 11 = 0 := by rw [g1]; exact h.ne
    rw [if_neg hn, if_neg hn, Option.bind_some, ite_self]
    exact OK.mk ⟨h, DF.rf, hn⟩
  · rw [if_pos g3, if_pos g1, Option.bind_some]
    refine OK.mk ⟨⟨h.1, (h.2.1.i0 (by omega)).i0 (by omega), h.2.2.1, Or.inl ⟨g2.symm, g4⟩⟩, DF.fp, ?_⟩
    show ¬ (2 : Int32) = 0
    decide
theorem d_fail (h : ¬ xgi M 0 11 = 0) (k p : Int32) : f_MO_fail M k p = some M := by unfold f_MO_fail; rw [if_neg h]
theorem d_sign (h : XX T E S M) (c : Int32) : OK (f_MO_sign M c) (fun M' => XX T E S M' ∧ DF M M' ∧ ¬ xgi M' 0 11 = 0) := by
  unfold f_MO_sign
  rw [d_isSign h, Option.bind_some, if_pos rfl, xb_id]
  exact d_bad h 1
theorem d_need (h : XX T E S M) (c : Int32) : OK (f_MO_need M c) (fun M' => XX T E S M' ∧ DF M M' ∧ ¬ xgi M' 0 11 = 0) := by
  unfold f_MO_need
  rw [d_isWord h, Option.bind_some, if_pos rfl, xb_id]
  exact d_bad h 1
theorem d_number (h : XX T E S M) (a b c : Int32) : OK (f_MO_number M a b c) (fun q => XX T E S q.2 ∧ DF M q.2 ∧ ¬ xgi q.2 0 11 = 0 ∧ q.1 = 0) := by
  unfold f_MO_number
  rcases d_good h with ⟨g1, g2⟩ | ⟨g1, g2, g3⟩
  · rw [g1, Option.bind_some, if_pos rfl]
    exact OK.mk ⟨h, DF.rf, g2, rfl⟩
  · rw [g1, Option.bind_some, if_neg (by decide), g3, if_neg (by decide)]
    exact (d_bad h 1).bind (fun M' k => OK.mk ⟨k.1, k.2.1, k.2.2, rfl⟩)
theorem d_part (h : XX T E S M) (w a b c : Int32) : OK (f_MO_part M w a b c) (fun q => XX T E S q.2 ∧ DF M q.2 ∧ ¬ xgi q.2 0 11 = 0) := by
  unfold f_MO_part
  refine (d_need h w).bind (fun M1 k1 => (d_number k1.1 a b c).bind (fun q k2 => (d_sign k2.1 59).bind (fun M3 k3 => OK.mk ⟨k3.1, (k1.2.1.tr k2.2.1).tr k3.2.1, k3.2.2⟩)))
end Dm
/-! both at a word: writes elsewhere -/
section Al
variable {T : Nat → Int32} {E t κ : Nat} {v : Int64} {S M : XS}
theorem AL.set {S' M' : XS} (h : AL T E t κ v S M) (h1 : KS T S') (h2 : KM T E M') (h3 : ∀ j, xgi S' 2 j = xgi S 2 j) (h4 : xgl S' 2 6 = xgl S 2 6) (h5 : ∀ j, 5 < j → j < 13 → xgi M' 0 j = xgi M 0 j) (h6 : xgl M' 0 10 = xgl M 0 10) : AL T E t κ v S' M' := by
  obtain ⟨hb, hE, hS, hM, f, hR, hZ⟩ := h
  refine ⟨hb, hE, h1, h2, f, ?_, (h3 7).trans hZ.1, (h3 8).trans hZ.2.1, (h5 12 (by decide) (by decide)).trans hZ.2.2⟩
  unfold RT
  rw [h3, h3, h3, h3, h3, h4, h5 6 (by decide) (by decide), h5 7 (by decide) (by decide), h5 8 (by decide) (by decide), h5 9 (by decide) (by decide), h5 11 (by decide) (by decide), h6]
  exact hR
theorem AL.si {i j : Nat} {x : Int32} (h : AL T E t κ v S M) (hi : 2 < i) (hj : xR i → 1 < j) : AL T E t κ v (xpi S i j x) M :=
  h.set (h.2.2.1.i0 (by omega) hj) h.2.2.2.1 (fun k => by rw [gii, if_neg (by omega)]) rfl (fun _ _ _ => rfl) rfl
theorem AL.sl {i j : Nat} {x : Int64} (h : AL T E t κ v S M) (hi : 2 < i) : AL T E t κ v (xpl S i j x) M :=
  h.set h.2.2.1.l0 h.2.2.2.1 (fun k => rfl) (by rw [gll, if_neg (by omega)]) (fun _ _ _ => rfl) rfl
theorem AL.mi {i j : Nat} {x : Int32} (h : AL T E t κ v S M) (hi : ¬ i = 0) (hi2 : ¬ i = 4) : AL T E t κ v S (xpi M i j x) :=
  h.set h.2.2.1 (h.2.2.2.1.i0 (by omega)) (fun k => rfl) rfl (fun _ _ _ => by rw [gii, if_neg (by omega)]) rfl
theorem AL.m0 {j : Nat} {x : Int32} (h : AL T E t κ v S M) (hj : 12 < j) : AL T E t κ v S (xpi M 0 j x) :=
  h.set h.2.2.1 (h.2.2.2.1.i0 (by omega)) (fun k => rfl) rfl (fun _ _ _ => by rw [gii, if_neg (by omega)]) rfl
theorem AL.ml {i j : Nat} {x : Int64} (h : AL T E t κ v S M) (hi : 3 < i) : AL T E t κ v S (xpl M i j x) :=
  h.set h.2.2.1 (h.2.2.2.1.l0 (by omega)) (fun k => rfl) rfl (fun _ _ _ => rfl) (by rw [gll, if_neg (by omega)])
theorem s_part (h : AL T E t κ v S M) {a w : Nat} (hl : kwl a w) {c lo hi st : Int32} (hc : c = nI w) (hst : st = 1 ∨ st = 4 ∨ st = 256) : SM (f_RD_readSetting S a lo hi st) (f_MO_part M c lo hi st) (fun r S' b => b.1 = r ∧ NX T E t S M S' b.2 ∧ lo ≤ r ∧ r ≤ hi ∧ ∃ k, k < 1000000 ∧ r = nI k) (fun S' b => XX T E S' b.2) := by
  unfold f_RD_readSetting f_MO_part
  refine (s_need h hl hc).bind (fun _ S1 M1 k1 => ?_) (fun S' M1 k => ?_)
  · obtain ⟨a1, a2, t1, κ1, v1, a3, a4, a5⟩ := k1
    refine (s_number a5 hst).bind (fun r S2 b k2 => ?_) (fun S' b k => ?_)
    · obtain ⟨c1, ⟨c2, c3, t2, κ2, v2, c4, c5, c6⟩, c7, c8, c9⟩ := k2
      refine (s_sign c6 (a := 6) (u := 59) (by decide +kernel) rfl).bind (fun _ S3 M3 k3 => ?_) (fun S' M3 k => OK.mk k)
      obtain ⟨e1, e2, t3, κ3, v3, e3, e4, e5⟩ := k3
      exact SM.ret ⟨c1, ⟨(a1.tr c2).tr e1, (a2.tr c3).tr e2, t3, κ3, v3, by omega, fun q => by have := e4 q; omega, e5⟩, c7, c8, c9⟩
    · exact (d_sign k 59).bind (fun M3 k3 => OK.mk k3.1)
  · exact (d_number k lo hi st).bind (fun q k2 => (d_sign k2.1 59).bind (fun M3 k3 => OK.mk k3.1))
end Al
