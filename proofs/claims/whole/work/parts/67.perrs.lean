/-! errors: one, and all -/
theorem inr_b {α β : Type} (S : XS) (K : α → XS → Option ((β × XS) ⊕ XS)) : (some (.inr S) : Option ((α × XS) ⊕ XS)).bind (xT2 K) = some (.inr S) := rfl
theorem bx_as {α β : Type} (o : Option XS) (f : XS → Option ((α × XS) ⊕ XS)) (K : α → XS → Option ((β × XS) ⊕ XS)) : (o.bind f).bind (xT2 K) = o.bind fun q => (f q).bind (xT2 K) := by cases o <;> rfl
def eB (S : XS) (a1 : Nat) (a2 : Int32) : Option ((Int32 × XS) ⊕ XS) :=
  (f_WO_expectOneOf S 19).bind (xT2 fun v27 S28 => if (a2 &&& ((1 : Int32) <<< (v27 &&& 31))) = 0 then ((f_WO_next S28).bind (xT2 fun _ S33 => (f_WO_expect S33 15).bind (xT2 fun _ S38 => (f_RD_readAction S38).bind (xT2 fun v42 S43 => if xP a1 then ((f_PA_setAction S43 a1 v27 v42).bind fun q47 => (f_WO_expect q47 6).bind (xT2 fun _ S51 => some (.inl (v27, S51)))) else none)))) else ((f_WO_fail S28 (7 : Int32)).bind (xT2 fun _ S56 => some (.inl (v27, S56)))))
theorem eB_loop (n : Nat) (S : XS) (a1 : Nat) (a2 a3 : Int32) : f_RD_readErrors_55 (n + 1) S a1 a2 a3 = if (4 : Int32) < a3 then ((f_WO_expect S 7).bind (xT2 fun _ S23 => some (.inl ((), S23)))) else (if a3 = 0 then (eB S a1 a2).bind (xT2 fun v S51 => f_RD_readErrors_55 n S51 a1 (a2 ||| ((1 : Int32) <<< (v &&& 31))) (a3 + 1)) else ((f_WO_is S 7).bind fun q83 => if q83 = 0 then (eB S a1 a2).bind (xT2 fun v S51 => f_RD_readErrors_55 n S51 a1 (a2 ||| ((1 : Int32) <<< (v &&& 31))) (a3 + 1)) else ((f_WO_expect S 7).bind (xT2 fun _ S87 => some (.inl ((), S87)))))) := by
  conv => lhs; unfold f_RD_readErrors_55
  unfold eB
  simp only [xT2_as, ite_b, bx_as, none_b, inl_b, fail_b, inr_b]
section Es
variable {T : Nat → Int32} {E t0 t κ : Nat} {w : Int64} {p : Nat} {S M : XS}
theorem s_sign3 (h : AL T E t κ w S M) {a u : Nat} (hl : sgl a u) {c : Int32} (hc : c = nI u) : SM (f_WO_expect S a) (f_MO_sign M c) (fun _ S' M' => NX T E t S M S' M' ∧ κ = 3) (XX T E) := by
  unfold f_WO_expect f_MO_sign
  rw [al_is_s h hl, al_sg h hl.2.1 hc]
  simp only [Option.bind_some, xb_id]
  by_cases h9 : κ = 3 ∧ w = lN u
  · simp only [if_pos h9]
    rw [if_neg (by decide), if_neg (by decide)]
    exact ((s_nx h).imp (fun _ _ _ g => ⟨g, h9.1⟩) (fun _ _ g => g)).idl
  · simp only [if_neg h9, if_true]
    rw [fail_b, al_bad h]
    exact SM.thr (OK.mk (al_xx h (by decide)))
theorem kd_cod : (spl (lit 19)).map cod = mkinds ∧ lwd (spl (lit 19)) ∧ (spl (lit 20)).map cod = mactions ∧ lwd (spl (lit 20)) := by decide +kernel
/-- KINDS told, as bits -/
theorem tb : ∀ τ, τ < 16 → ∀ k, k < 4 → (((nI τ &&& ((1 : Int32) <<< (nI k &&& 31))) = 0) ↔ τ.testBit k = false) ∧ (nI τ ||| ((1 : Int32) <<< (nI k &&& 31))) = nI (τ ||| 2 ^ k) ∧ (τ ||| 2 ^ k) < 16 := by decide +kernel
def pcn (τ : Nat) : Nat := τ % 2 + τ / 2 % 2 + τ / 4 % 2 + τ / 8 % 2
theorem tb2 : ∀ τ, τ < 16 → pcn τ ≤ 4 ∧ ∀ k, k < 4 → τ.testBit k = false → pcn (τ ||| 2 ^ k) = pcn τ + 1 := by decide +kernel
theorem tb3 : ∀ τ, τ < 16 → ∀ k, k < 4 → ∀ j, j < 4 → (τ ||| 2 ^ k).testBit j = (decide (j = k) || τ.testBit j) := by decide +kernel
def TD (τ : Nat) (M : XS) : Prop := τ < 16 ∧ ∀ j, j < 4 → xgi M 12 j = if τ.testBit j = true then 1 else 0
theorem TD.fm {τ : Nat} {M M' : XS} (h : TD τ M) (k : FM M M') : TD τ M' := ⟨h.1, fun j hj => by rw [k.1 12 j (by decide)]; exact h.2 j hj⟩
theorem TD.mi {τ i j : Nat} {a : Int32} {M : XS} (h : TD τ M) (hi : ¬ i = 12) : TD τ (xpi M i j a) := ⟨h.1, fun k hk => by rw [gii, if_neg (by omega)]; exact h.2 k hk⟩
theorem TD.add {τ k : Nat} {M : XS} (h : TD τ M) (hk : k < 4) : TD (τ ||| 2 ^ k) (xpi M 12 k 1) := by
  refine ⟨(tb τ h.1 k hk).2.2, fun j hj => ?_⟩
  rw [tb3 τ h.1 k hk j hj, gii]
  by_cases e : j = k
  · rw [if_pos ⟨rfl, e⟩, if_pos (by simp [e])]
  · rw [if_neg (by omega), h.2 j hj]
    simp [e]
theorem d_68 (h : XX T E S M) (hh : ¬ xgi M 0 11 = 0) (a b c : Int32) : f_MO_readError_68 M a b c = some M := by
  unfold f_MO_readError_68
  rw [d_hard hh, Option.bind_some, if_pos rfl]
theorem d_err8 (h : XX T E S M) (a b : Int32) : OK ((f_MO_actionHere M).bind fun q10 => if q10 = (-1 : Int32) then ((f_MO_bad M (1 : Int32)).bind fun q12 => f_MO_readError_68 q12 a b q10) else (f_MO_readError_68 M a b q10)) (XX T E S) := by
  refine (d_action h).bind (fun q hq => ?_)
  by_cases e : q = -1
  · rw [if_pos e]
    refine (d_bad h 1).bind (fun M1 g => ?_)
    rw [d_68 g.1 g.2.2]
    exact OK.mk g.1
  · rw [if_neg e]
    rcases d_good h with ⟨g1, g2⟩ | ⟨g1, g2, g3⟩
    · rw [d_68 h g2]
      exact OK.mk h
    · exact absurd (hq g3) e
theorem s_err1 {τ : Nat} (h : AL T E t κ w S M) (hI : IPM p S M) (hT : TD τ M) : SM (eB S (5 + 21 * p) (nI τ)) (f_MO_readError M (nI p)) (fun r S' M' => ∃ k, k < 4 ∧ τ.testBit k = false ∧ r = nI k ∧ QG T E t p S' M' ∧ TD (τ ||| 2 ^ k) M') (XX T E) := by
  obtain ⟨⟨n, c, so, ix, hI⟩, hm⟩ := hI
  have hp := hI.1
  unfold eB f_MO_readError f_WO_expectOneOf
  rw [al_kind h, al_which h (a := 19) (by decide) kd_cod.2.1, kd_cod.1, Option.bind_some, Option.bind_some]
  have hcase : (if κ = 1 then kix mkinds w 0 else -1) = -1 ∨ ∃ k, k < 4 ∧ κ = 1 ∧ (if κ = 1 then kix mkinds w 0 else -1) = nI k := by
    by_cases h1 : κ = 1
    · rw [if_pos h1]
      rcases kix_or w mkinds 0 with e | ⟨k, -, e2, e3⟩
      · exact Or.inl e
      · exact Or.inr ⟨k, by have : mkinds.length = 4 := rfl
                            omega, h1, e3⟩
    · rw [if_neg h1]
      exact Or.inl rfl
  rcases hcase with e | ⟨k, hk, hk1, e⟩
  · rw [e, if_pos rfl, if_pos rfl, fail_b, inr_b, al_bad h, Option.bind_some]
    exact SM.thr (OK.mk (al_xx h (by decide)))
  · rw [e, if_neg (nm1 (by omega)), if_neg (nm1 (by omega)), inl_b, if_pos (nI_in hk (by omega)), nI_clamp (by omega)]
    by_cases ht : τ.testBit k = false
    · have e12 : xgi M 12 k = 0 := by rw [hT.2 k hk, ht]; rfl
      rw [if_pos ((tb τ hT.1 k hk).1.mpr ht), e12, if_pos rfl, if_pos (nI_inn hk (by omega)), nb1]
      have hT1 := hT.add hk
      have hA1 : AL T E t κ w S (xpi M 12 k 1) := h.mi (by decide) (by decide)
      refine (s_nx hA1).bind (fun _ S1 M1 k1 => ?_) (fun S' M1 g => ?_)
      · obtain ⟨a1, a2, t1, κ1, v1, a3, a4, a5⟩ := k1
        refine (s_sign3 a5 (a := 15) (u := 58) (by decide +kernel) rfl).bind (fun _ S2 M2 k2 => ?_) (fun S' M2 g => d_err8 g _ _)
        obtain ⟨⟨b1, b2, t2, κ2, v2, b3, b4, b5⟩, bk⟩ := k2
        have hlt : t < t1 := a4 (by omega)
        have hI2 := ((hI.told (j := k) (a := 1)).fs a1 a2).fs b1 b2
        have hm2 : IM p S2 M2 := (IM.wM' (i' := 12) (j' := k) (a' := 1) hm (by decide)).fs a1 a2 |>.fs b1 b2
        have hT2 := (hT1.fm a2).fm b2
        unfold f_RD_readAction f_WO_expectOneOf
        rw [al_action b5, al_which b5 (a := 20) (by decide) kd_cod.2.2.2, kd_cod.2.2.1, Option.bind_some, Option.bind_some]
        have hcase2 : (if κ2 = 1 then kix mactions v2 0 else -1) = -1 ∨ ∃ a, a < 7 ∧ (if κ2 = 1 then kix mactions v2 0 else -1) = nI a := by
          by_cases h1 : κ2 = 1
          · rw [if_pos h1]
            rcases kix_or v2 mactions 0 with e | ⟨k, -, e2, e3⟩
            · exact Or.inl e
            · exact Or.inr ⟨k, by have : mactions.length = 7 := rfl
                                  omega, e3⟩
          · rw [if_neg h1]
            exact Or.inl rfl
        rcases hcase2 with e2 | ⟨a, ha, e2⟩
        · rw [e2, if_pos rfl, if_pos rfl, fail_b, inr_b, inr_b, al_bad b5, Option.bind_some, d_68 (al_xx b5 (by decide)) (by show ¬ (1 : Int32) = 0; decide)]
          exact SM.thr (OK.mk (al_xx b5 (by decide)))
        · rw [e2, if_neg (nm1 (by omega)), if_neg (nm1 (by omega)), inl_b]
          unfold f_MO_readError_68
          rw [al_good b5, Option.bind_some, if_neg (show ¬ (1 : Int32) = 0 by decide), show (4 : Int32) = nI 4 from rfl, pk_mul, nI_add, if_pos (nI_in (by omega) (by omega)), nI_clamp (n := 4 * p + k) (by omega), if_pos (nI_in hp (by omega)), if_pos (nI_in hp (by omega)), nI_clamp (n := p) (by omega)]
          -- the step behind the action
          have fin : ∀ (S3 M3 : XS), AL T E t2 κ2 v2 S3 M3 → IP p n c so ix 1000 (xpi S3 (5 + 21 * p + 1) k (nI a)) M3 → IM p S3 M3 → TD (τ ||| 2 ^ k) M3 →
              SM ((f_WO_next S3).bind (xT2 fun _ S43 => if xP (5 + 21 * p) then ((f_PA_setAction S43 (5 + 21 * p) (nI k) (nI a)).bind fun q47 => (f_WO_expect q47 6).bind (xT2 fun _ S51 => some (.inl (nI k, S51)))) else none)) ((f_MO_next M3).bind fun q24 => (f_MO_sign q24 59).bind fun q26 => some q26) (fun r S' M' => ∃ k, k < 4 ∧ τ.testBit k = false ∧ r = nI k ∧ QG T E t p S' M' ∧ TD (τ ||| 2 ^ k) M') (XX T E) := by
            intro S3 M3 hA3 hI3 hm3 hT3
            refine (s_nx hA3).bind (fun _ S4 M4 k4 => ?_) (fun S' M4 g => (d_sign g 59).bind (fun _ g => OK.mk g.1))
            obtain ⟨d1, d2, t4, κ4, v4, d3, d4, d5⟩ := k4
            have eset : f_PA_setAction S4 (5 + 21 * p) (nI k) (nI a) = some (xpi S4 (5 + 21 * p + 1) k (nI a)) := by
              unfold f_PA_setAction
              rw [if_neg (nI_pos (by omega)), if_neg (by rw [ge_lit (x := 4) (n := 4) (by omega) (by omega) rfl]; omega), if_pos (cpP hp), if_pos (nI_in hk (by omega)), nI_clamp (by omega)]
            rw [if_pos (cpP hp), eset, Option.bind_some]
            have hA4 : AL T E t4 κ4 v4 (xpi S4 (5 + 21 * p + 1) k (nI a)) M4 := d5.si (by omega) (fun hr => absurd hr (by
              rintro (q | q | ⟨q1, q2, q3, q4⟩)
              · omega
              · omega
              · rw [show 5 + 21 * p + 1 - 5 = 1 + 21 * p by omega, Nat.add_mul_mod_self_left] at q3
                omega))
            refine (s_sign hA4 (a := 6) (u := 59) (by decide +kernel) rfl).bind (fun _ S5 M5 k5 => ?_) (fun S' M5 g => OK.mk g)
            obtain ⟨f1, f2, t5, κ5, v5, f3, f4, f5⟩ := k5
            exact SM.ret ⟨k, hk, ht, rfl, ⟨⟨t5, κ5, v5, by omega, f5⟩, ⟨n, c, so, ix, (hI3.fs (d1.cpi (by omega)) d2).fs f1 f2⟩, (((hm3.fs d1 d2).wS (by omega))).fs f1 f2⟩, (hT3.fm d2).fm f2⟩
          have hw := hI2.set (i := 5 + 21 * p + 1) (j := k) (i' := 9) (j' := 4 * p + k) (a := nI a) (a' := nI a) (Or.inl ⟨by omega, rfl, hk, rfl, rfl⟩)
          have hAw : AL T E t2 κ2 v2 S2 (xpi M2 9 (4 * p + k) (nI a)) := b5.mi (by decide) (by decide)
          by_cases h6 : nI a = (6 : Int32)
          · rw [if_pos h6, if_pos h6]
            have e179 : xgi S2 179 3 = xgi M2 8 p := hI2.2.2.2.2.2.2.2.2
            have e8 : xgi (xpi M2 9 (4 * p + k) (nI a)) 8 p = xgi S2 179 3 := by rw [gii, if_neg (by omega)]; exact e179.symm
            rw [e8]
            by_cases h7 : xgi S2 179 3 = -1
            · rw [if_pos h7, if_pos h7, xT2_as]
              have efr : xgi (xpi M2 9 (4 * p + k) (nI a)) 0 6 = xgi S2 2 2 := by rw [gii, if_neg (by omega)]; exact (al_fr b5).symm
              rw [efr]
              refine fin _ _ ((hAw.si (i := 179) (j := 3) (x := xgi S2 2 2) (by omega) (fun _ => by decide)).mi (by decide) (by decide)) ?_ ((IM.wM' (i' := 9) (j' := 4 * p + k) (a' := nI a) hm2 (by decide)).set (by omega) (by decide)) ((hT2.mi (by decide)).mi (by decide))
              have hw2 := hw.set (i := 179) (j := 3) (i' := 8) (j' := p) (a := xgi S2 2 2) (a' := xgi S2 2 2) (Or.inr ⟨rfl, Or.inl ⟨rfl, rfl⟩, rfl, rfl⟩)
              have ecomm : xpi (xpi S2 179 3 (xgi S2 2 2)) (5 + 21 * p + 1) k (nI a) = xpi (xpi S2 (5 + 21 * p + 1) k (nI a)) 179 3 (xgi S2 2 2) := by
                unfold xpi
                refine Prod.ext ?_ rfl
                funext i j
                show (if i = 5 + 21 * p + 1 ∧ j = k then nI a else if i = 179 ∧ j = 3 then xgi S2 2 2 else S2.1 i j) = (if i = 179 ∧ j = 3 then xgi S2 2 2 else if i = 5 + 21 * p + 1 ∧ j = k then nI a else S2.1 i j)
                by_cases q : i = 179 ∧ j = 3
                · rw [if_pos q, if_pos q, if_neg (by omega)]
                · rw [if_neg q, if_neg q]
              rw [ecomm]
              exact hw2
            · rw [if_neg h7, if_neg h7, xT2_as]
              exact fin _ _ hAw hw (IM.wM' hm2 (by decide)) (hT2.mi (by decide))
          · rw [if_neg h6, if_neg h6, xT2_as]
            exact fin _ _ hAw hw (IM.wM' hm2 (by decide)) (hT2.mi (by decide))
      · exact (d_sign g 58).bind (fun M2 g2 => d_err8 g2.1 _ _)
    · have ht' : τ.testBit k = true := by
        cases hq : τ.testBit k with
        | true => rfl
        | false => exact absurd hq ht
      have e12 : xgi M 12 k = 1 := by rw [hT.2 k hk, ht']; rfl
      rw [if_neg (fun e9 => ht ((tb τ hT.1 k hk).1.mp e9)), e12, if_neg (show ¬ (1 : Int32) = 0 by decide), fail_b, al_fail h, Option.bind_some]
      exact SM.thr (OK.mk (al_xx h (by decide)))
/-- the reference's loop behind a fault -/
theorem d_62 (h : XX T E S M) {m : Nat} (hm : 2 < m) (a : Int32) : OK ((f_MO_good M).bind fun q19 => if q19 = 0 then (f_MO_readErrors_62 m M a (0 : Int32)) else ((f_MO_isSign M (125 : Int32)).bind fun q21 => if q21 = 0 then (f_MO_readErrors_62 m M a (1 : Int32)) else (f_MO_readErrors_62 m M a (0 : Int32)))) (XX T E S) := by
  have h0 : ∀ (M1 : XS) (m1 : Nat), 0 < m1 → XX T E S M1 → OK (f_MO_readErrors_62 m1 M1 a 0) (XX T E S) := by
    intro M1 m1 hm1 h1
    obtain ⟨m1, rfl⟩ : ∃ k, m1 = k + 1 := ⟨m1 - 1, by omega⟩
    unfold f_MO_readErrors_62
    rw [if_pos rfl, xb_id]
    exact (d_sign h1 125).imp (fun _ g => g.1)
  rcases d_good h with ⟨g1, g2⟩ | ⟨g1, g2, g3⟩
  · rw [g1, Option.bind_some, if_pos rfl]
    exact h0 M m (by omega) h
  · rw [g1, Option.bind_some, if_neg (show ¬ (1 : Int32) = 0 by decide), d_isSign h, Option.bind_some, if_pos rfl]
    obtain ⟨m, rfl⟩ : ∃ k, m = k + 1 := ⟨m - 1, by omega⟩
    unfold f_MO_readErrors_62 f_MO_readError
    rw [if_neg (show ¬ (1 : Int32) = 0 by decide), d_kind h g3, Option.bind_some, if_pos rfl, xb_id]
    refine (d_bad h 1).bind (fun M1 g => ?_)
    rw [d_hard g.2.2, Option.bind_some, if_pos rfl]
    exact h0 M1 m (by omega) g.1
theorem s_errs : ∀ (d cnt n m τ t κ : Nat) (w : Int64) (S M : XS) (fl : Int32), 5 - cnt = d → pcn τ = cnt → 10 ≤ n + cnt → 10 ≤ m + cnt → t0 < t → AL T E t κ w S M → IPM p S M → TD τ M → fl = (if cnt = 0 then 1 else if κ = 3 ∧ w = lN 125 then 0 else 1) →
    SM (f_RD_readErrors_55 n S (5 + 21 * p) (nI τ) (nI cnt)) (f_MO_readErrors_62 m M (nI p) fl) (fun _ S' M' => QG T E t0 p S' M') (XX T E) := by
  intro d
  induction d with
  | zero =>
    intro cnt n m τ t κ w S M fl hd hc _ _ _ _ _ hT _
    have := (tb2 τ hT.1).1
    omega
  | succ d ih =>
    intro cnt n m τ t κ w S M fl hd hc hn hm ht h hI hT hfl
    have hp4 := (tb2 τ hT.1).1
    obtain ⟨n, rfl⟩ : ∃ k, n = k + 1 := ⟨n - 1, by omega⟩
    obtain ⟨m, rfl⟩ : ∃ k, m = k + 1 := ⟨m - 1, by omega⟩
    have body : SM ((eB S (5 + 21 * p) (nI τ)).bind (xT2 fun v S51 => f_RD_readErrors_55 n S51 (5 + 21 * p) (nI τ ||| ((1 : Int32) <<< (v &&& 31))) (nI cnt + 1))) ((f_MO_readError M (nI p)).bind fun q17 => (f_MO_good q17).bind fun q19 => if q19 = 0 then (f_MO_readErrors_62 m q17 (nI p) (0 : Int32)) else ((f_MO_isSign q17 (125 : Int32)).bind fun q21 => if q21 = 0 then (f_MO_readErrors_62 m q17 (nI p) (1 : Int32)) else (f_MO_readErrors_62 m q17 (nI p) (0 : Int32)))) (fun _ S' M' => QG T E t0 p S' M') (XX T E) := by
      refine (s_err1 h hI hT).bind (fun r S1 M1 k1 => ?_) (fun S' M1 g => d_62 g (by omega) _)
      obtain ⟨k, hk, hkt, rfl, ⟨⟨t1, κ1, v1, ht1, hA1⟩, hI1⟩, hT1⟩ := k1
      rw [(tb τ hT.1 k hk).2.1, nI_1, al_good hA1, Option.bind_some, if_neg (show ¬ (1 : Int32) = 0 by decide), al_sg hA1 (u := 125) (by decide) (c := 125) rfl, Option.bind_some]
      have hgo := fun fl hfl => ih (cnt + 1) n m (τ ||| 2 ^ k) t1 κ1 v1 S1 M1 fl (by omega) (by rw [(tb2 τ hT.1).2 k hk hkt]; omega) (by omega) (by omega) (by omega) hA1 hI1 hT1 hfl
      by_cases h9 : κ1 = 3 ∧ v1 = lN 125
      · rw [if_pos h9, if_neg (show ¬ (1 : Int32) = 0 by decide)]
        exact hgo 0 (by rw [if_neg (by omega), if_pos h9])
      · rw [if_neg h9, if_pos rfl]
        exact hgo 1 (by rw [if_neg (by omega), if_neg h9])
    have fin : SM ((f_WO_expect S 7).bind (xT2 fun _ S87 => some (.inl ((), S87)))) ((f_MO_sign M (125 : Int32)).bind fun q15 => some q15) (fun _ S' M' => QG T E t0 p S' M') (XX T E) := by
      rw [xb_id]
      refine ((s_sign h (a := 7) (u := 125) (by decide +kernel) rfl).imp (fun _ S3 M3 k3 => ?_) (fun _ _ k => k)).idl
      obtain ⟨d1, d2, t3, κ3, v3, d3, d4, d5⟩ := k3
      obtain ⟨⟨n1, c1, so1, ix1, hI1⟩, hm1⟩ := hI
      exact ⟨⟨t3, κ3, v3, by omega, d5⟩, ⟨n1, c1, so1, ix1, hI1.fs d1 d2⟩, hm1.fs d1 d2⟩
    rw [eB_loop]
    unfold f_MO_readErrors_62
    rw [if_neg (by rw [gt_lit (x := 4) (n := 4) (by omega) (by omega) rfl]; omega)]
    by_cases hc0 : cnt = 0
    · rw [if_pos (by rw [hc0]; rfl), hfl, if_pos hc0, if_neg (show ¬ (1 : Int32) = 0 by decide)]
      exact body
    · rw [if_neg (nI_ne0 (by omega) (by omega)), al_is_s h (a := 7) (u := 125) (by decide +kernel), Option.bind_some, hfl, if_neg hc0]
      by_cases h9 : κ = 3 ∧ w = lN 125
      · rw [if_pos h9, if_pos h9, if_neg (show ¬ (1 : Int32) = 0 by decide), if_pos rfl]
        exact fin
      · rw [if_neg h9, if_neg h9, if_pos rfl, if_neg (show ¬ (1 : Int32) = 0 by decide)]
        exact body
theorem mo_39 (a : Int32) : ∀ (d i m : Nat) (M : XS), 4 - i = d → i ≤ 4 → d < m → ∃ M', f_MO_readErrors_39 m M a (nI i) = ((f_MO_good M').bind fun q11 => f_MO_readErrors_62 4096 M' a q11) ∧ (∀ x y, xgi M' x y = if x = 12 ∧ i ≤ y ∧ y < 4 then 0 else xgi M x y) ∧ (∀ x y, xgl M' x y = xgl M x y) := by
  intro d
  induction d with
  | zero =>
    intro i m M hd hi hm
    obtain ⟨m, rfl⟩ : ∃ k, m = k + 1 := ⟨m - 1, by omega⟩
    refine ⟨M, ?_, fun x y => by rw [if_neg (by omega)], fun _ _ => rfl⟩
    unfold f_MO_readErrors_39
    rw [if_pos (by rw [ge_lit (x := 4) (n := 4) (by omega) (by omega) rfl]; omega)]
  | succ d ih =>
    intro i m M hd hi hm
    obtain ⟨m, rfl⟩ : ∃ k, m = k + 1 := ⟨m - 1, by omega⟩
    unfold f_MO_readErrors_39
    rw [if_neg (by rw [ge_lit (x := 4) (n := 4) (by omega) (by omega) rfl]; omega), if_pos (nI_in (by omega) (by omega)), nI_clamp (by omega), nb0, nI_1]
    obtain ⟨M', e1, e2, e3⟩ := ih (i + 1) m (xpi M 12 i 0) (by omega) (by omega) (by omega)
    refine ⟨M', e1, fun x y => ?_, fun x y => e3 x y⟩
    rw [e2, gii]
    by_cases h1 : x = 12 ∧ i ≤ y ∧ y < 4
    · rw [if_pos h1]
      by_cases h2 : y = i
      · rw [if_neg (by omega), if_pos ⟨h1.1, h2⟩]
      · rw [if_pos (by omega)]
    · rw [if_neg h1, if_neg (by omega), if_neg (by omega)]
end Es
