/-! goals of a channel -/
theorem i10 : ((1 : Int32) = 0) = False := eq_false (by decide)
theorem i00 : ((0 : Int32) = 0) = True := eq_true rfl
def gN (n : Nat) (q : XS) (a1 o g k : Int32) : Option ((Unit × XS) ⊕ XS) := if a1 = (1 : Int32) then (f_RD_readGoals_19 n q a1 o g (0 : Int32) k) else ((f_WO_is q 26).bind fun z => if z = 0 then (f_RD_readGoals_19 n q a1 o g (0 : Int32) k) else ((f_WO_next q).bind (xT2 fun _ S' => f_RD_readGoals_19 n S' a1 o g (1 : Int32) k)))
theorem gB (n : Nat) (S : XS) (a1 a3 a4 a5 a6 : Int32) : f_RD_readGoals_19 (n + 1) S a1 a3 a4 a5 a6 = if (4 : Int32) < a6 then (f_RD_readGoals_125 S a3 a4) else (if a5 = 0 then (f_RD_readGoals_125 S a3 a4) else (if a4 = (4 : Int32) then some (.inr (xpi (xpi S 2 7 4) 2 8 (xgi S 2 2))) else ((f_RD_readEnd S 25 (0 : Int32) a1).bind (xT2 fun v3 S4 => (f_RO_setLast S4 173 ((4 : Int32) + a4) v3).bind fun q => gN n q a1 (if a3 = 0 then (if v3 = (-1 : Int32) then 1 else 0) else 1) (a4 + 1) (a6 + 1))))) := by
  conv => lhs; unfold f_RD_readGoals_19
  unfold gN
  simp only [fail_b, i10, i00, if_true, if_false]
  by_cases h3 : a3 = 0
  · simp only [h3, if_true]
    have e : ∀ (v3 : Int32) (S4 : XS) (F : Int32 → XS → Option ((Unit × XS) ⊕ XS)), (if v3 = (-1 : Int32) then (f_RO_setLast S4 173 ((4 : Int32) + a4) v3).bind (F 1) else (f_RO_setLast S4 173 ((4 : Int32) + a4) v3).bind (F 0)) = (f_RO_setLast S4 173 ((4 : Int32) + a4) v3).bind (F (if v3 = (-1 : Int32) then 1 else 0)) := fun v3 S4 F => by split <;> rfl
    have e2 := fun v3 S4 => e v3 S4 (fun o q => if a1 = (1 : Int32) then (f_RD_readGoals_19 n q a1 o (a4 + 1) (0 : Int32) (a6 + 1)) else ((f_WO_is q 26).bind fun z => if z = 0 then (f_RD_readGoals_19 n q a1 o (a4 + 1) (0 : Int32) (a6 + 1)) else ((f_WO_next q).bind (xT2 fun _ S' => f_RD_readGoals_19 n S' a1 o (a4 + 1) (1 : Int32) (a6 + 1)))))
    simp only [e2]
  · simp only [h3, if_false]
def mW (M : XS) (c J : Nat) (v : Int32) : XS := xpi (xpi M 22 J v) 21 c ((xgi (xpi M 22 J v) 21 c) + 1)
def mN (m : Nat) (Q : XS) (c : Nat) (a2 o : Int32) : Option XS := if xgi Q 18 c = 0 then ((f_MO_isSign Q (44 : Int32)).bind fun z => if z = 0 then (f_MO_readChannel_158 m Q (nI c) a2 o (0 : Int32)) else ((f_MO_next Q).bind fun q => if (xgi q 21 c) = (4 : Int32) then ((f_MO_bad q (4 : Int32)).bind fun q' => f_MO_readChannel_158 m q' (nI c) a2 o (0 : Int32)) else (f_MO_readChannel_158 m q (nI c) a2 o (1 : Int32)))) else (f_MO_readChannel_158 m Q (nI c) a2 o (0 : Int32))
def mE9 (M : XS) (a2 a3 : Int32) : Option XS := (f_MO_sign M (125 : Int32)).bind fun q36 => if a2 = 0 then (f_MO_readChannel_306 q36 a3 (0 : Int32) (xgi q36 0 32)) else (f_MO_readChannel_306 q36 a3 (1 : Int32) (xgi q36 0 32))
theorem mB {c : Nat} (hc : c < 16) (m : Nat) (M : XS) (a2 a3 a4 : Int32) : f_MO_readChannel_158 (m + 1) M (nI c) a2 a3 a4 = if a4 = 0 then mE9 M a2 a3 else ((f_MO_accept M (21 : Int32)).bind fun q39 => if q39.1 = 0 then ((f_MO_readEnd q39.2 (0 : Int32) (xgi q39.2 18 c)).bind fun q106 => if ¬ ((((4 : Int32) * nI c) + (xgi q39.2 21 c)) < 0 ∨ 64 ≤ (((4 : Int32) * nI c) + (xgi q39.2 21 c)).toNatClampNeg) then mN m (mW q106.2 c (((4 : Int32) * nI c) + (xgi q39.2 21 c)).toNatClampNeg q106.1) c a2 (if a3 = 0 then 0 else 1) else none) else (if ¬ ((((4 : Int32) * nI c) + (xgi q39.2 21 c)) < 0 ∨ 64 ≤ (((4 : Int32) * nI c) + (xgi q39.2 21 c)).toNatClampNeg) then mN m (mW q39.2 c (((4 : Int32) * nI c) + (xgi q39.2 21 c)).toNatClampNeg (-1)) c a2 1 else none)) := by
  have hG : ¬ (nI c < 0 ∨ 16 ≤ c) := nI_inn hc (by omega)
  have hcl : (nI c).toNatClampNeg = c := nI_clamp (by omega)
  conv => lhs; unfold f_MO_readChannel_158
  unfold mN mW mE9
  simp only [hcl, if_pos hG, i10, i00, if_true, if_false]
  by_cases h4 : a4 = 0
  · simp only [h4, if_true]
  · simp only [h4, if_false]
    congr 1
    funext q
    by_cases h3 : a3 = 0
    · by_cases h1 : q.1 = 0
      · simp only [h3, h1, if_true]
      · simp only [h3, h1, if_true, if_false]
    · by_cases h1 : q.1 = 0
      · simp only [h3, h1, if_true, if_false]
      · simp only [h3, h1, if_false]
def P2 (np nc : Nat) (S M : XS) : Prop := np ≤ 8 ∧ DN np S M ∧ xgi S 3 1 = nI np ∧ xgi M 0 15 = nI np ∧ nc ≤ 16 ∧ CHR nc S M ∧ xgi S 173 4 = nI nc ∧ xgi M 0 29 = nI nc ∧ xgi S 3 4 = xgi M 0 32 ∧ xgi S 3 5 = xgi M 0 33 ∧ (xgi S 176 4 = 0 ∧ xgi S 3 6 = 0) ∧ (xgi M 0 30 = 0 ∧ xgi M 0 31 = 0)
def CG (nc g : Nat) (md : Int32) (x : Nat → Int32) (M : XS) : Prop := xgi M 18 nc = md ∧ xgi M 19 nc = x 1 ∧ xgi M 20 nc = x 2 ∧ xgi M 21 nc = nI g ∧ x 0 = md ∧ (∀ j, j < g → xgi M 22 (4 * nc + j) = x (4 + j)) ∧ (∀ j, g ≤ j → j < 4 → x (4 + j) = -1)
def QC (T : Nat → Int32) (E t np nc : Nat) (S' M' : XS) : Prop := (∃ t' κ v, t ≤ t' ∧ AL T E t' κ v S' M') ∧ P2 np nc S' M'
section Go
variable {T : Nat → Int32} {E t0 t κ : Nat} {w : Int64} {np nc g : Nat} {ci md : Int32} {x : Nat → Int32} {S M S' M' : XS}
theorem IC.wS (h : IC np nc ci x S M) {v : Nat} (hv : v < 8) (a : Int32) : IC np nc ci (nup x v a) (xpi S 175 (8 * nc + v) a) M := by
  obtain ⟨h1, h2, h3, h4, h5, h6, h7, h8, h9, h10, h11, h12, h13⟩ := h
  refine ⟨h1, h2.cg (fun k hk => SA.pi (by omega)) (fun k _ => MA.rf), ?_, h4, h5, h6.cg (fun j hj => ?_) (fun i _ => ⟨rfl, rfl, rfl, rfl⟩) (fun j _ => rfl), ?_, h8, ?_, ?_, ⟨?_, ?_⟩, h12, fun b hb => ?_⟩
  · rw [gii, if_neg (by omega)]; exact h3
  · rw [gii, if_neg (by omega)]
  · rw [gii, if_neg (by omega)]; exact h7
  · rw [gii, if_neg (by omega)]; exact h9
  · rw [gii, if_neg (by omega)]; exact h10
  · rw [gii, if_neg (by omega)]; exact h11.1
  · rw [gii, if_neg (by omega)]; exact h11.2
  · unfold nup
    rw [gii]
    by_cases e : b = v
    · rw [if_pos e, if_pos (by rw [e]; exact ⟨rfl, rfl⟩)]
    · rw [if_neg e, if_neg (by omega)]; exact h13 b hb
theorem IC.wM (h : IC np nc ci x S M) {i j : Nat} {a : Int32} (hi : (17 < i ∧ i < 22 ∧ nc ≤ j) ∨ (i = 22 ∧ 4 * nc ≤ j)) : IC np nc ci x S (xpi M i j a) := by
  obtain ⟨h1, h2, h3, h4, h5, h6, h7, h8, h9, h10, h11, h12, h13⟩ := h
  refine ⟨h1, h2.cg (fun k _ => SA.rf) (fun k hk => MA.pi (by omega) (by omega) (by omega) (by omega) (by omega)), h3, ?_, h5, h6.cg (fun _ _ => rfl) (fun b hb => ⟨?_, ?_, ?_, ?_⟩) (fun b hb => ?_), h7, ?_, ?_, ?_, h11, ⟨?_, ?_⟩, h13⟩
  · rw [gii, if_neg (by omega)]; exact h4
  · rw [gii, if_neg (by omega)]
  · rw [gii, if_neg (by omega)]
  · rw [gii, if_neg (by omega)]
  · rw [gii, if_neg (by omega)]
  · rw [gii, if_neg (by omega)]
  · rw [gii, if_neg (by omega)]; exact h8
  · rw [gii, if_neg (by omega)]; exact h9
  · rw [gii, if_neg (by omega)]; exact h10
  · rw [gii, if_neg (by omega)]; exact h12.1
  · rw [gii, if_neg (by omega)]; exact h12.2
theorem IC.last (h : IC np nc ci x S M) (hA : AL T E t κ w S M') {v : Nat} (hv : v < 8) {z : Int32} (hz : z = nI v) (a : Int32) : f_RO_setLast S 173 z a = some (xpi S 175 (8 * nc + v) a) := by
  have hK := hA.2.2.1.2.2.2 173 (Or.inl rfl)
  have := ro_last (S := S) (r := 173) (m := 16) (w := 8) (c := nc) (j := v) (Or.inl rfl) rfl rfl hK.2 h.2.2.2.2.2.2.1 h.2.2.2.2.1 (by decide) (by decide) hv hz a
  rw [Nat.mul_comm nc 8] at this
  exact this
theorem AL.s175 (hA : AL T E t κ w S M) {j : Nat} {a : Int32} : AL T E t κ w (xpi S 175 j a) M := hA.si (by decide) (fun hr => absurd hr (by decide))
theorem CG.mk' (h : CG nc g md x M) (hk : MK M M') : CG nc g md x M' := by
  obtain ⟨h1, h2, h3, h4, h5, h6, h7⟩ := h
  exact ⟨by rw [hk 18 nc (by decide)]; exact h1, by rw [hk 19 nc (by decide)]; exact h2, by rw [hk 20 nc (by decide)]; exact h3, by rw [hk 21 nc (by decide)]; exact h4, h5, fun j hj => by rw [hk 22 _ (by decide)]; exact h6 j hj, h7⟩
/-- a goal is kept -/
theorem CG.add (h : CG nc g md x M) (hg : g < 4) (a : Int32) : CG nc (g + 1) md (nup x (4 + g) a) (mW M nc (4 * nc + g) a) := by
  obtain ⟨h1, h2, h3, h4, h5, h6, h7⟩ := h
  unfold mW
  refine ⟨?_, ?_, ?_, ?_, ?_, fun j hj => ?_, fun j hj hj4 => ?_⟩
  · rw [gii, if_neg (by omega), gii, if_neg (by omega)]; exact h1
  · rw [gii, if_neg (by omega), gii, if_neg (by omega)]
    unfold nup
    rw [if_neg (by omega)]; exact h2
  · rw [gii, if_neg (by omega), gii, if_neg (by omega)]
    unfold nup
    rw [if_neg (by omega)]; exact h3
  · rw [gii, if_pos ⟨rfl, rfl⟩, gii, if_neg (by omega), h4, nI_1]
  · unfold nup
    rw [if_neg (by omega)]; exact h5
  · rw [gii, if_neg (by omega), gii]
    unfold nup
    by_cases e : j = g
    · rw [if_pos ⟨rfl, by omega⟩, if_pos (by omega)]
    · rw [if_neg (by omega), if_neg (by omega)]; exact h6 j (by omega)
  · unfold nup
    rw [if_neg (by omega)]; exact h7 j (by omega) hj4
theorem IC.mW' (h : IC np nc ci x S M) (hg : g < 4) (a : Int32) : IC np nc ci x S (mW M nc (4 * nc + g) a) := (h.wM (Or.inr ⟨rfl, by omega⟩)).wM (Or.inl ⟨by decide, by decide, Nat.le_refl _⟩)
theorem AL.mW' (h : AL T E t κ w S M) {c J : Nat} {a : Int32} : AL T E t κ w S (mW M c J a) := (h.mi (by decide) (by decide)).mi (by decide) (by decide)
theorem XX.mW' (h : XX T E S M) {c J : Nat} {a : Int32} : XX T E S (mW M c J a) := (h.mi (by decide) (by decide)).mi (by decide) (by decide)
theorem d_E9 (h : XX T E S M) (a2 a3 : Int32) : OK (mE9 M a2 a3) (XX T E S) := by
  unfold mE9
  refine (d_sign h 125).bind (fun M1 k => ?_)
  have : ∀ t0 t1 : Int32, OK (f_MO_readChannel_306 M1 a3 t0 t1) (XX T E S) := by
    intro u1 u2
    unfold f_MO_readChannel_306 f_MO_readChannel_324
    split
    · exact OK.mk (((k.1.m0 (by decide)).m0 (by decide)).m0 (by decide))
    · exact OK.mk (((k.1.m0 (by decide)).m0 (by decide)).m0 (by decide))
  split
  · exact this _ _
  · exact this _ _
theorem d_1580 (h : XX T E S M) {c m : Nat} (hc : c < 16) (hm : 0 < m) (a2 a3 : Int32) : OK (f_MO_readChannel_158 m M (nI c) a2 a3 0) (XX T E S) := by
  obtain ⟨m, rfl⟩ : ∃ k, m = k + 1 := ⟨m - 1, by omega⟩
  rw [mB hc, if_pos rfl]
  exact d_E9 h a2 a3
theorem d_mN (h : XX T E S M) {c m : Nat} (hc : c < 16) (hm : 0 < m) (a2 o : Int32) : OK (mN m M c a2 o) (XX T E S) := by
  unfold mN
  split
  · rw [d_isSign h, Option.bind_some, if_pos rfl]
    exact d_1580 h hc hm a2 o
  · exact d_1580 h hc hm a2 o
theorem j4 {c g : Nat} (hc : c < 16) (hg : g < 4) : ¬ ((((4 : Int32) * nI c) + nI g) < 0 ∨ 64 ≤ (((4 : Int32) * nI c) + nI g).toNatClampNeg) ∧ (((4 : Int32) * nI c) + nI g).toNatClampNeg = 4 * c + g := by
  rw [show (4 : Int32) = nI 4 from rfl, pk_mul, nI_add]
  exact ⟨nI_in (by omega) (by omega), nI_clamp (by omega)⟩
theorem d_1581 (h : XX T E S M) {c m : Nat} (hc : c < 16) (hm : 1 < m) (hg : g < 4) (h21 : xgi M 21 c = nI g) (a2 a3 : Int32) : OK (f_MO_readChannel_158 m M (nI c) a2 a3 1) (XX T E S) := by
  obtain ⟨m, rfl⟩ : ∃ k, m = k + 1 := ⟨m - 1, by omega⟩
  rw [mB hc, if_neg (show ¬ (1 : Int32) = 0 by decide), d_accept h, Option.bind_some, if_pos rfl]
  refine (d_end h 0 _).bind (fun q k => ?_)
  rw [h21, if_pos (j4 hc hg).1]
  exact d_mN k.1.mW' hc (by omega) a2 _
theorem s_goals : ∀ (d g n m t κ : Nat) (w : Int64) (S M : XS) (x : Nat → Int32) (out more : Int32), 4 - g = d → g ≤ 4 → 10 ≤ n + g → 10 ≤ m + g → (more = 1 ∧ g < 4) ∨ more = 0 → out = 0 ∨ out = 1 → ci = 0 ∨ ci = 1 → md = 0 ∨ md = 1 → t0 ≤ t → AL T E t κ w S M → IC np nc ci x S M → CG nc g md x M →
    SM ((f_RD_readGoals_19 n S md out (nI g) more (nI g)).bind (xT2 fun _ S62 => (f_WO_expect S62 7).bind (xT2 fun _ S67 => some (.inl ((), S67))))) (f_MO_readChannel_158 m M (nI nc) ci out more) (fun _ S' M' => QC T E t0 np (nc + 1) S' M') (XX T E) := by
  intro d
  -- the end of the channel
  have fin : ∀ (g n m t κ : Nat) (w : Int64) (S M : XS) (x : Nat → Int32) (out : Int32), g ≤ 4 → 0 < n → 0 < m → out = 0 ∨ out = 1 → ci = 0 ∨ ci = 1 → t0 ≤ t → AL T E t κ w S M → IC np nc ci x S M → CG nc g md x M → SM ((f_RD_readGoals_19 n S md out (nI g) 0 (nI g)).bind (xT2 fun _ S62 => (f_WO_expect S62 7).bind (xT2 fun _ S67 => some (.inl ((), S67))))) (f_MO_readChannel_158 m M (nI nc) ci out 0) (fun _ S' M' => QC T E t0 np (nc + 1) S' M') (XX T E) := by
    intro g n m t κ w S M x out hg hn hm ho hi ht h hC hG
    obtain ⟨n, rfl⟩ : ∃ k, n = k + 1 := ⟨n - 1, by omega⟩
    obtain ⟨m, rfl⟩ : ∃ k, m = k + 1 := ⟨m - 1, by omega⟩
    have hnc := hC.2.2.2.2.1
    rw [gB, if_neg (by rw [gt_lit (x := 4) (n := 4) (by omega) (by omega) rfl]; omega), if_pos rfl, mB hnc, if_pos rfl]
    unfold f_RD_readGoals_125 mE9
    rw [hC.last h (v := 3) (z := 3) (by decide) rfl, Option.bind_some]
    have hC3 := hC.wS (v := 3) (by decide) (nI g)
    have hA3 : AL T E t κ w (xpi S 175 (8 * nc + 3) (nI g)) M := h.s175
    -- the class's totals
    have key : ∀ (S1 : XS), AL T E t κ w S1 M → (∀ i j, ¬ (i = 3 ∧ j = 5) → xgi S1 i j = xgi (xpi S 175 (8 * nc + 3) (nI g)) i j) → (∀ i j, xgl S1 i j = xgl S i j) → xgi S1 3 5 = xgi S 3 5 + out →
        SM ((f_WO_expect S1 7).bind (xT2 fun _ S67 => some (.inl ((), S67)))) ((f_MO_sign M (125 : Int32)).bind fun q36 => if ci = 0 then (f_MO_readChannel_306 q36 out (0 : Int32) (xgi q36 0 32)) else (f_MO_readChannel_306 q36 out (1 : Int32) (xgi q36 0 32))) (fun _ S' M' => QC T E t0 np (nc + 1) S' M') (XX T E) := by
      intro S1 hA1 e1 e2 e3
      refine (s_sign hA1 (a := 7) (u := 125) (by decide +kernel) rfl).bind (fun _ S2 M2 k2 => ?_) (fun S' M2 k => ?_)
      · obtain ⟨b1, b2, t2, κ2, v2, b3, b4, b5⟩ := k2
        have hG2 := hG.mk' (MK.fm b2)
        have hx : ∀ (q : Int32), f_MO_readChannel_306 M2 out q (xgi M2 0 32) = some (xpi (xpi (xpi M2 0 32 (xgi M2 0 32 + q)) 0 33 (xgi M2 0 33 + out)) 0 29 (xgi M2 0 29 + 1)) := by
          intro q
          unfold f_MO_readChannel_306 f_MO_readChannel_324
          rcases ho with rfl | rfl
          · rw [if_pos rfl]
            rfl
          · rw [if_neg (show ¬ (1 : Int32) = 0 by decide)]
            rfl
        have hsum : (if ci = 0 then (f_MO_readChannel_306 M2 out (0 : Int32) (xgi M2 0 32)) else (f_MO_readChannel_306 M2 out (1 : Int32) (xgi M2 0 32))) = some (xpi (xpi (xpi M2 0 32 (xgi M2 0 32 + ci)) 0 33 (xgi M2 0 33 + out)) 0 29 (xgi M2 0 29 + 1)) := by
          rcases hi with rfl | rfl
          · rw [if_pos rfl, hx]
          · rw [if_neg (show ¬ (1 : Int32) = 0 by decide), hx]
        rw [hsum]
        obtain ⟨h1, h2, h3, h4, h5, h6, h7, h8, h9, h10, h11, h12, h13⟩ := hC3
        have es : ∀ i j, ¬ i = 2 → ¬ (i = 3 ∧ j = 5) → xgi S2 i j = xgi (xpi S 175 (8 * nc + 3) (nI g)) i j := fun i j q1 q2 => (b1.1 i j q1).trans (e1 i j q2)
        have el : ∀ i j, ¬ i = 2 → xgl S2 i j = xgl S i j := fun i j q1 => (b1.2.1 i j q1).trans (e2 i j)
        have hm9 : ∀ i j, ¬ i = 0 → xgi (xpi (xpi (xpi M2 0 32 (xgi M2 0 32 + ci)) 0 33 (xgi M2 0 33 + out)) 0 29 (xgi M2 0 29 + 1)) i j = xgi M i j := fun i j q => by
          rw [gii, if_neg (by omega), gii, if_neg (by omega), gii, if_neg (by omega)]
          exact b2.1 i j q
        refine SM.ret ⟨⟨t2, κ2, v2, by omega, ((b5.m0 (by decide)).m0 (by decide)).m0 (by decide)⟩, h1, ?_, ?_, ?_, by omega, ?_, ?_, ?_, ?_, ?_, ⟨?_, ?_⟩, ⟨?_, ?_⟩⟩
        · refine h2.cg (fun k hk i q1 q2 j => ⟨es i j (by omega) (by omega), el i j (by omega)⟩) (fun k hk => ?_)
          exact ⟨fun s _ => hm9 _ _ (by decide), hm9 _ _ (by decide), fun q _ => ⟨hm9 _ _ (by decide), hm9 _ _ (by decide), b2.2.2 _ _ (by decide)⟩, fun j _ _ => hm9 _ _ (by decide), b2.2.2 _ _ (by decide), hm9 _ _ (by decide), hm9 _ _ (by decide), fun j _ => hm9 _ _ (by decide)⟩
        · rw [es 3 1 (by decide) (by omega)]; exact h3
        · rw [gii, if_neg (by omega), gii, if_neg (by omega), gii, if_neg (by omega), b2.2.1 15 (by decide)]; exact h4
        · intro i hi
          by_cases e : i = nc
          · subst e
            obtain ⟨c1, c2, c3, c4, c5, c6, c7⟩ := hG
            have hv := fun v hv => (es 175 (8 * i + v) (by decide) (by omega)).trans (h13 v hv)
            refine ⟨?_, ?_, ?_, g, hg, ?_, ?_, fun j hj => ?_⟩
            · rw [hm9 18 i (by decide), c1]
              exact (hv 0 (by decide)).trans c5
            · rw [hm9 19 i (by decide), c2]
              exact hv 1 (by decide)
            · rw [hm9 20 i (by decide), c3]
              exact hv 2 (by decide)
            · exact hv 3 (by decide)
            · rw [hm9 21 i (by decide), c4]
            · rw [show 8 * i + 4 + j = 8 * i + (4 + j) by omega, hv (4 + j) (by omega), hm9 22 _ (by decide)]
              unfold nup
              rw [if_neg (by omega)]
              by_cases hjg : j < g
              · rw [if_pos hjg, c6 j hjg]
              · rw [if_neg hjg, c7 j (by omega) hj]
          · have h6' := h6.cg (S' := S2) (M' := xpi (xpi (xpi M2 0 32 (xgi M2 0 32 + ci)) 0 33 (xgi M2 0 33 + out)) 0 29 (xgi M2 0 29 + 1)) (fun j hj => es 175 j (by decide) (by omega)) (fun b hb => ⟨hm9 _ _ (by decide), hm9 _ _ (by decide), hm9 _ _ (by decide), hm9 _ _ (by decide)⟩) (fun j hj => hm9 _ _ (by decide))
            exact h6' i (by omega)
        · rw [es 173 4 (by decide) (by omega)]; exact h7
        · rw [gii, if_pos ⟨rfl, rfl⟩, b2.2.1 29 (by decide), h8, nI_1]
        · rw [gii, if_neg (by omega), gii, if_neg (by omega), gii, if_pos ⟨rfl, rfl⟩, b2.2.1 32 (by decide), es 3 4 (by decide) (by omega)]; exact h9
        · rw [gii, if_neg (by omega), gii, if_pos ⟨rfl, rfl⟩, b2.2.1 33 (by decide), b1.1 3 5 (by decide), e3]
          have h10' : xgi S 3 5 = xgi M 0 33 := by rw [gii, if_neg (by omega)] at h10; exact h10
          rw [h10']
        · rw [es 176 4 (by decide) (by omega)]; exact h11.1
        · rw [es 3 6 (by decide) (by omega)]; exact h11.2
        · rw [gii, if_neg (by omega), gii, if_neg (by omega), gii, if_neg (by omega), b2.2.1 30 (by decide)]; exact h12.1
        · rw [gii, if_neg (by omega), gii, if_neg (by omega), gii, if_neg (by omega), b2.2.1 31 (by decide)]; exact h12.2
      · have hx : ∀ (q1 q2 : Int32), OK (f_MO_readChannel_306 M2 out q1 q2) (XX T E S') := by
          intro u1 u2
          unfold f_MO_readChannel_306 f_MO_readChannel_324
          split
          · exact OK.mk (((k.m0 (by decide)).m0 (by decide)).m0 (by decide))
          · exact OK.mk (((k.m0 (by decide)).m0 (by decide)).m0 (by decide))
        split
        · exact hx _ _
        · exact hx _ _
    rcases ho with rfl | rfl
    · rw [if_pos rfl, inl_b]
      exact key _ hA3 (fun i j _ => rfl) (fun _ _ => rfl) (by rw [gii, if_neg (by omega), Int32.add_zero])
    · rw [if_neg (show ¬ (1 : Int32) = 0 by decide), inl_b]
      exact key _ (hA3.si (by decide) (fun hr => absurd hr (by decide))) (fun i j q => by rw [gii, if_neg q]) (fun _ _ => rfl) (by rw [gii, if_pos ⟨rfl, rfl⟩, gii, if_neg (by omega)])
  induction d with
  | zero =>
    intro g n m t κ w S M x out more hd hg4 hn hm hmore ho hi hmd ht h hC hG
    rcases hmore with ⟨-, hg⟩ | rfl
    · omega
    · exact fin g n m t κ w S M x out hg4 (by omega) (by omega) ho hi ht h hC hG
  | succ d ih =>
    intro g n m t κ w S M x out more hd hg4 hn hm hmore ho hi hmd ht h hC hG
    rcases hmore with ⟨rfl, hg⟩ | rfl
    · obtain ⟨n, rfl⟩ : ∃ k, n = k + 1 := ⟨n - 1, by omega⟩
      obtain ⟨m, rfl⟩ : ∃ k, m = k + 1 := ⟨m - 1, by omega⟩
      have hnc := hC.2.2.2.2.1
      rw [gB, if_neg (by rw [gt_lit (x := 4) (n := 4) (by omega) (by omega) rfl]; omega), if_neg (show ¬ (1 : Int32) = 0 by decide), if_neg (by rw [eq_lit (x := 4) (n := 4) (by omega) (by omega) rfl]; omega), mB hnc, if_neg (show ¬ (1 : Int32) = 0 by decide), show (4 : Int32) + nI g = nI (4 + g) from nI_add 4 g, nI_1, xT2_as]
      -- behind the goal
      have step : ∀ (t1 κ1 : Nat) (v1 : Int64) (S1 M1 : XS) (a o : Int32), t ≤ t1 → AL T E t1 κ1 v1 S1 M1 → IC np nc ci x S1 M1 → CG nc g md x M1 → o = 0 ∨ o = 1 →
          SM (((f_RO_setLast S1 173 (nI (4 + g)) a).bind fun q => gN n q md o (nI (g + 1)) (nI (g + 1))).bind (xT2 fun _ S62 => (f_WO_expect S62 7).bind (xT2 fun _ S67 => some (.inl ((), S67))))) (mN m (mW M1 nc (4 * nc + g) a) nc ci o) (fun _ S' M' => QC T E t0 np (nc + 1) S' M') (XX T E) := by
        intro t1 κ1 v1 S1 M1 a o ht1 hA1 hC1 hG1 ho1
        rw [hC1.last hA1 (v := 4 + g) (z := nI (4 + g)) (by omega) rfl, Option.bind_some]
        have hC2 := (hC1.wS (v := 4 + g) (by omega) a).mW' hg a
        have hG2 := hG1.add hg a
        have hA2 : AL T E t1 κ1 v1 (xpi S1 175 (8 * nc + (4 + g)) a) (mW M1 nc (4 * nc + g) a) := hA1.s175.mW'
        have rec0 := ih (g + 1) n m t1 κ1 v1 _ _ _ o 0 (by omega) (by omega) (by omega) (by omega) (Or.inr rfl) ho1 hi hmd (by omega) hA2 hC2 hG2
        unfold gN mN
        rw [hG2.1]
        rcases hmd with rfl | rfl
        · rw [if_neg (show ¬ (0 : Int32) = 1 by decide), if_pos rfl, al_is_s hA2 (a := 26) (u := 44) (by decide +kernel), al_sg hA2 (u := 44) (by decide) (c := 44) rfl, Option.bind_some, Option.bind_some]
          by_cases hcom : κ1 = 3 ∧ v1 = lN 44
          · rw [if_pos hcom, if_neg (show ¬ (1 : Int32) = 0 by decide), if_neg (show ¬ (1 : Int32) = 0 by decide), xT2_as]
            refine (s_nxF hA2).bind (fun _ S3 M3 k3 => ?_) (fun S' M3 k => ?_)
            · obtain ⟨b1, b2, t3, κ3, v3, b3, b4, b5⟩ := k3
              have hG3 := hG2.mk' (MK.fm b2)
              have hC3 := hC2.fs b1 b2
              rw [hG3.2.2.2.1]
              have q4 : (nI (g + 1) = 4) = (g + 1 = 4) := eq_lit (by omega) (by omega) rfl
              by_cases h4 : g + 1 = 4
              · rw [if_pos (q4.mpr h4), al_bad b5, Option.bind_some]
                obtain ⟨n, rfl⟩ : ∃ k, n = k + 1 := ⟨n - 1, by omega⟩
                rw [gB, if_neg (by rw [gt_lit (x := 4) (n := 4) (by omega) (by omega) rfl]; omega), if_neg (show ¬ (1 : Int32) = 0 by decide), if_pos (q4.mpr h4), inr_b]
                exact SM.thr (d_1580 (al_xx b5 (by decide)) hnc (by omega) _ _)
              · rw [if_neg (by rw [q4]; exact h4)]
                exact ih (g + 1) n m t3 κ3 v3 S3 M3 _ o 1 (by omega) (by omega) (by omega) (by omega) (Or.inl ⟨rfl, by omega⟩) ho1 hi (Or.inl rfl) (by omega) b5 hC3 hG3
            · have h21 : xgi M3 21 nc = nI (g + 1) := by rw [k.2.1 21 nc (by decide)]; exact hG2.2.2.2.1
              rw [h21]
              have q4 : (nI (g + 1) = 4) = (g + 1 = 4) := eq_lit (by omega) (by omega) rfl
              by_cases h4 : g + 1 = 4
              · rw [if_pos (q4.mpr h4)]
                exact (d_bad k.1 4).bind (fun M4 k4 => d_1580 k4.1 hnc (by omega) _ _)
              · rw [if_neg (by rw [q4]; exact h4)]
                exact d_1581 k.1 hnc (by omega) (g := g + 1) (by omega) h21 _ _
          · rw [if_neg hcom, if_pos rfl, if_pos rfl]
            exact rec0
        · rw [if_pos rfl, if_neg (show ¬ (1 : Int32) = 0 by decide)]
          exact rec0
      obtain ⟨jj1, jj2⟩ := j4 (c := nc) (g := g) hnc hg
      rw [al_acc h (w := 21) (c := 21) (by decide) rfl]
      by_cases hk : κ = 1 ∧ w = kwc 21
      · rw [if_pos hk, Option.bind_assoc]
        unfold f_RD_readEnd
        rw [al_is_k h (a := 25) (w := 21) (by decide +kernel), if_pos hk, Option.bind_some, if_neg (show ¬ (1 : Int32) = 0 by decide), xT2_as]
        refine (s_nxF h).bind (fun _ S1 M1 k1 => ?_) (fun S' M1 k => ?_)
        · obtain ⟨b1, b2, t1, κ1, v1, b3, b4, b5⟩ := k1
          have hG1 := hG.mk' (MK.fm b2)
          rw [inl_b, Option.bind_some, if_neg (show ¬ (1 : Int32) = 0 by decide), hG1.2.2.2.1, if_pos jj1, jj2]
          have eo : (if out = 0 then (if (-1 : Int32) = -1 then (1 : Int32) else 0) else 1) = 1 := by rcases ho with rfl | rfl <;> rfl
          rw [eo]
          exact step t1 κ1 v1 S1 M1 (-1) 1 b3 b5 (hC.fs b1 b2) hG1 (Or.inr rfl)
        · have h21 : xgi M1 21 nc = nI g := by rw [k.2.1 21 nc (by decide)]; exact hG.2.2.2.1
          rw [Option.bind_some, if_neg (show ¬ (1 : Int32) = 0 by decide), h21, if_pos jj1]
          exact d_mN k.1.mW' hnc (by omega) _ _
      · rw [if_neg hk, Option.bind_some, if_pos rfl, hG.1, hG.2.2.2.1]
        refine (s_end h hC (a := 25) (kw := 21) (by decide +kernel) hk 0 md).bind (fun r S1 b k1 => ?_) (fun S' b k => ?_)
        · obtain ⟨e1, ⟨k, hk8, rfl⟩, ⟨t1, κ1, v1, b3, b5⟩, hC1, hK1⟩ := k1
          rw [if_pos jj1, jj2, e1]
          have eo : (if out = 0 then (if (nI k : Int32) = -1 then (1 : Int32) else 0) else 1) = (if out = 0 then 0 else 1) := by rw [if_neg (nm1 (by omega))]
          rw [eo]
          exact step t1 κ1 v1 S1 b.2 (nI k) _ b3 b5 hC1 (hG.mk' hK1) (by rcases ho with rfl | rfl; exact Or.inl rfl; exact Or.inr rfl)
        · rw [if_pos jj1]
          exact d_mN k.mW' hnc (by omega) _ _
    · exact fin g n m t κ w S M x out hg4 (by omega) (by omega) ho hi ht h hC hG
end Go
