/-! the next word, on both sides -/
def tkn (κ : Nat) (v : Int64) : Int32 := if κ = 0 then 0 else if κ = 1 then tk1 v else nI (κ + 1)
def wrd (κ : Nat) (v : Int64) : Int32 := if κ = 1 then kix mwords v 0 else -1
def TV (l : List Int32) (κ : Nat) (v : Int64) : Prop :=
  (κ = 0 ∧ l = []) ∨ (κ = 1 ∧ v = cod l ∧ (∀ c ∈ l, AN c) ∧ 1 ≤ l.length ∧ l.length ≤ 12) ∨ (κ = 2 ∧ (∃ k, k < 1000000 ∧ v = lN k) ∧ ∃ u r, l = nI u :: r ∧ 48 ≤ u ∧ u ≤ 57) ∨ (κ = 3 ∧ ∃ u, u ∈ SG ∧ l = [nI u] ∧ v = lN u)
def RT (T : Nat → Int32) (E f t κ : Nat) (v : Int64) (S M : XS) : Prop :=
  f ≤ t ∧ t ≤ E ∧ xgi S 2 1 = nI E ∧ xgi S 2 2 = nI f ∧ xgi S 2 3 = nI t ∧ xgi S 2 4 = nI κ ∧ (κ = 1 → xgl S 2 6 = v) ∧ (κ = 2 → xgi S 2 5 = v.toInt32) ∧ xgi M 0 6 = nI f ∧ xgi M 0 7 = nI t ∧ xgi M 0 8 = tkn κ v ∧ xgi M 0 9 = wrd κ v ∧ (κ ≠ 0 → xgl M 0 10 = v) ∧ xgi M 0 11 = 0 ∧ TV (TK T f t) κ v
def Qn (T : Nat → Int32) (E j : Nat) (S M : XS) : Unit → XS → XS → Prop := fun _ S' M' => FS S S' ∧ FM M M' ∧ ∃ f t κ v, j ≤ f ∧ (κ ≠ 0 → f < t) ∧ RT T E f t κ v S' M'
def XF' (T : Nat → Int32) (E : Nat) (M : XS) : XS → XS → Prop := fun S' M' => XX T E S' M' ∧ FM M M'
theorem fail_b {α : Type} (S : XS) (a : Int32) (k : Unit → XS → Option ((α × XS) ⊕ XS)) : (f_WO_fail S a).bind (xT2 k) = some (.inr (xpi (xpi S 2 7 a) 2 8 (xgi S 2 2))) := rfl
theorem KS.fail {T : Nat → Int32} {S : XS} {a b : Int32} (h : KS T S) : KS T (xpi (xpi S 2 7 a) 2 8 b) := h.of (fun i j q => by rw [gii, if_neg (by omega), gii, if_neg (by omega)])
theorem XX.bad {T : Nat → Int32} {E : Nat} {S M : XS} {x y : Int32} (hS : KS T S) (hM : KM T E M) (hx : 0 < x) (h11 : xgi M 0 11 = 0 ∧ x = 2 ∧ xgi M 0 8 = 5 ∧ xgi M 0 6 = y) : XX T E (xpi (xpi S 2 7 x) 2 8 y) M := ⟨hS.fail, hM, hx, Or.inr h11⟩
section Nx
variable {T : Nat → Int32} {E j : Nat} {S M : XS}
theorem m_sp {m : Nat} (h7 : xgi M 0 7 = nI j) {u : Nat} (hs : f_MO_see M (nI j) = some (nI u)) (hu : u = 32 ∨ u = 10) : f_MO_next_0 (m + 1) M = f_MO_next_0 m (xpi M 0 7 (nI (j + 1))) := by
  conv => lhs; unfold f_MO_next_0
  rw [h7, hs]
  simp only [Option.bind_some, nI_1]
  rcases hu with rfl | rfl
  · rw [if_pos (by decide)]
  · rw [if_neg (by decide), if_pos (by decide)]
theorem m_end {m : Nat} (h7 : xgi M 0 7 = nI j) (hs : ∀ M', xgi M' 0 5 = xgi M 0 5 → (∀ k, xgi M' 4 k = xgi M 4 k) → f_MO_see M' (nI j) = some (-1)) : f_MO_next_0 (m + 1) M = some (xpi (xpi (xpi M 0 6 (nI j)) 0 9 (-1)) 0 8 0) := by
  unfold f_MO_next_0
  have e2 := hs (xpi M 0 6 (nI j)) rfl (fun _ => rfl)
  simp only [h7, hs M rfl (fun _ => rfl), Option.bind_some, gii, and_self, if_true, e2]
  rw [if_neg (by decide), if_neg (by decide)]
theorem m_let {m u : Nat} (h7 : xgi M 0 7 = nI j) (hu : 97 ≤ u ∧ u ≤ 122) (hs : ∀ M', xgi M' 0 5 = xgi M 0 5 → (∀ k, xgi M' 4 k = xgi M 4 k) → f_MO_see M' (nI j) = some (nI u)) : f_MO_next_0 (m + 1) M = f_MO_readName (xpi (xpi M 0 6 (nI j)) 0 9 (-1)) := by
  unfold f_MO_next_0
  have e2 := hs (xpi M 0 6 (nI j)) rfl (fun _ => rfl)
  simp only [h7, hs M rfl (fun _ => rfl), Option.bind_some, gii, and_self, if_true, e2]
  rw [if_neg (by rw [nn32 u (by omega)]; omega), if_neg (by rw [nn10 u (by omega)]; omega), if_neg (nnm1 u (by omega)), let_y hu]
  simp only [Option.bind_some, xb_id]
  rw [if_neg (by decide)]
theorem m_dig {m u : Nat} (h7 : xgi M 0 7 = nI j) (hu : 48 ≤ u ∧ u ≤ 57) (hs : ∀ M', xgi M' 0 5 = xgi M 0 5 → (∀ k, xgi M' 4 k = xgi M 4 k) → f_MO_see M' (nI j) = some (nI u)) : f_MO_next_0 (m + 1) M = f_MO_readNumber (xpi (xpi M 0 6 (nI j)) 0 9 (-1)) := by
  unfold f_MO_next_0
  have e2 := hs (xpi M 0 6 (nI j)) rfl (fun _ => rfl)
  simp only [h7, hs M rfl (fun _ => rfl), Option.bind_some, gii, and_self, if_true, e2]
  rw [if_neg (by rw [nn32 u (by omega)]; omega), if_neg (by rw [nn10 u (by omega)]; omega), if_neg (nnm1 u (by omega)), let_n (by omega) (by omega)]
  simp only [Option.bind_some, xb_id, if_true]
  rw [dig_y hu]
  simp only [Option.bind_some]
  rw [if_neg (by decide)]
theorem m_oth {m u : Nat} (h7 : xgi M 0 7 = nI j) (hu : u < 256) (h1 : ¬ (97 ≤ u ∧ u ≤ 122)) (h2 : ¬ (48 ≤ u ∧ u ≤ 57)) (h3 : u ≠ 32 ∧ u ≠ 10) (hs : ∀ M', xgi M' 0 5 = xgi M 0 5 → (∀ k, xgi M' 4 k = xgi M 4 k) → f_MO_see M' (nI j) = some (nI u)) :
    f_MO_next_0 (m + 1) M = some (xpi (xpl (xpi (xpi (xpi M 0 6 (nI j)) 0 9 (-1)) 0 7 (nI (j + 1))) 0 10 (nI u).toInt64) 0 8 (if u ∈ SG then 4 else 5)) := by
  unfold f_MO_next_0
  have e2 := hs (xpi M 0 6 (nI j)) rfl (fun _ => rfl)
  simp only [h7, hs M rfl (fun _ => rfl), Option.bind_some, gii, and_self, if_true, e2, Nat.reduceEqDiff, and_false, if_false, nI_1]
  rw [if_neg (by rw [nn32 u (by omega)]; omega), if_neg (by rw [nn10 u (by omega)]; omega), if_neg (nnm1 u (by omega)), let_n (by omega) (by omega)]
  simp only [Option.bind_some, xb_id, if_true]
  rw [dig_n hu (by omega)]
  simp only [Option.bind_some, if_true]
  simp only [eq_lit (k := u) (x := 123) (n := 123) (by omega) (by omega) rfl, eq_lit (k := u) (x := 125) (n := 125) (by omega) (by omega) rfl, eq_lit (k := u) (x := 59) (n := 59) (by omega) (by omega) rfl, eq_lit (k := u) (x := 58) (n := 58) (by omega) (by omega) rfl, eq_lit (k := u) (x := 46) (n := 46) (by omega) (by omega) rfl, eq_lit (k := u) (x := 44) (n := 44) (by omega) (by omega) rfl, eq_lit (k := u) (x := 62) (n := 62) (by omega) (by omega) rfl]
  by_cases h9 : u ∈ SG
  · rw [if_pos h9]
    simp only [SG, List.mem_cons, List.not_mem_nil, or_false] at h9
    repeat' (first | rfl | split)
    omega
  · rw [if_neg h9]
    simp only [SG, List.mem_cons, List.not_mem_nil, or_false, not_or] at h9
    rw [if_neg h9.1, if_neg h9.2.1, if_neg h9.2.2.1, if_neg h9.2.2.2.1, if_neg h9.2.2.2.2.1, if_neg h9.2.2.2.2.2.1, if_neg h9.2.2.2.2.2.2]
theorem c_96 {S' : XS} {t0 : Int32} (h1 : ¬ t0 = 1) (h2 : ¬ t0 = 2) (h3 : ¬ t0 = 3) : f_WO_next_96 S' t0 = f_WO_next_147 (xpi S' 2 4 t0) := by
  unfold f_WO_next_96
  simp only [gii, and_self, if_true]
  rw [if_neg h1, if_neg h2, if_neg h3]
theorem l_tok (hb : BY T) (hE : E ≤ 2000) (hj : j ≤ E) (m : Nat) (hS : KS T S) (hM : KM T E M) (h1 : xgi S 2 1 = nI E) (h2 : xgi S 2 2 = nI j) (h7 : xgi M 0 7 = nI j) (h11 : xgi M 0 11 = 0)
    (hx : j < E → ¬ T j = 32 ∧ ¬ T j = 10) : SM (f_WO_next_60 S) (f_MO_next_0 (m + 1) M) (Qn T E j S M) (XF' T E M) := by
  unfold f_WO_next_60
  simp only [gii, Nat.reduceEqDiff, and_false, if_false, h1, h2]
  have hFM1 : FM M (xpi (xpi M 0 6 (nI j)) 0 9 (-1)) := (FM.pi (by decide) (by decide)).tr (FM.pi (by decide) (by decide))
  by_cases hje : j < E
  · rw [if_neg (by rw [nI_leI (by omega) (by omega)]; omega), if_pos (nI_in (by omega) (by omega)), nI_clamp (by omega)]
    obtain ⟨u, hu, eu⟩ := hb j
    have hsee : ∀ M', xgi M' 0 5 = xgi M 0 5 → (∀ k, xgi M' 4 k = xgi M 4 k) → f_MO_see M' (nI j) = some (nI u) := by
      intro M' e5 e4
      unfold f_MO_see
      rw [e5, hM.2.1, if_neg (by rw [nI_leI (by omega) (by omega)]; omega), if_pos (nI_in (by omega) (by omega)), nI_clamp (by omega), e4, hM.1, eu, sc_k8 u hu]
    rw [show xgi S 1 j = (nI u).toInt8.toInt32 from (hS.1 j).trans eu]
    have hn := hx hje
    rw [eu, bb32 u hu, bb10 u hu] at hn
    simp only [and_false, Nat.reduceEqDiff, false_and, if_false]
    rw [kind_of hu]
    simp only [Option.bind_some]
    by_cases hl : 97 ≤ u ∧ u ≤ 122
    · -- a name
      rw [if_pos hl, m_let h7 hl hsee]
      unfold f_WO_next_96
      simp only [gii, and_self, if_true]
      unfold f_WO_spell f_MO_readName
      have en : T j = nI u := by rw [eu, bbn u (by omega)]
      obtain ⟨t', S', M', g1, g2, g3, g4, g5, g6, g7, g8, g9, g10, g11, g12, g13, g14⟩ := l_name hb (f := j) hE (E - j) j 4096 4096 (xpl (xpi (xpi S 2 3 (nI j)) 2 4 1) 2 6 0) (xpl (xpi (xpi M 0 6 (nI j)) 0 9 (-1)) 0 10 0) rfl (by omega) (by omega) (Nat.le_refl _) hj (fun k => hS.1 k) h1 rfl (hM.fm (hFM1.tr FM.pl)) h7 rfl (by rw [TK_0]; intro c hc; cases hc) (fun _ => by rw [TK_0]; exact ⟨rfl, rfl⟩)
      rw [g3, g4]
      simp only [Option.bind_some]
      have hFS : FS S S' := (((FS.pi (by decide) (by decide)).tr (FS.pi (by decide) (by decide))).tr FS.pl).tr g5
      have hFM : FM M M' := (hFM1.tr FM.pl).tr g6
      have q2 : xgi S' 2 2 = nI j := g7.trans h2
      have q4 : xgi S' 2 4 = 1 := g8.trans rfl
      have hlt : j < t' := g13 hje ⟨u, en, Or.inl hl⟩
      have h11' : xgi M' 0 11 = 0 := (hFM.2.1 11 (by decide)).trans h11
      unfold f_WO_next_147
      rw [q4, if_neg (by decide), if_pos rfl, g9, q2, pk_sub g1]
      simp only [gt_lit (k := t' - j) (x := 12) (n := 12) (by omega) (by omega) rfl]
      rcases g14 with ⟨k1, k2, k3, k4, k5⟩ | ⟨k1, k2⟩
      · rw [if_neg (by omega)]
        unfold f_WO_next_177
        rw [q4, if_neg (by decide)]
        refine SM.ret ⟨hFS, hFM, j, t', 1, cod (TK T j t'), Nat.le_refl _, fun _ => hlt, g1, g2, hFS.2.2.1.trans h1, q2, g9, q4, fun _ => k2, fun h => absurd h (by decide), g11, g10, k5, k4, fun _ => k3, h11', Or.inr (Or.inl ⟨rfl, rfl, g12, ?_, ?_⟩)⟩
        · rw [TK_len]; omega
        · rw [TK_len]; exact k1
      · rw [if_pos (by omega), fail_b, q2]
        exact SM.thr (OK.mk ⟨XX.bad (hS.fs hFS) (hM.fm hFM) (by decide) ⟨h11', rfl, k2, g11⟩, hFM⟩)
    · rw [if_neg hl]
      by_cases hd : 48 ≤ u ∧ u ≤ 57
      · -- a number
        rw [if_pos hd, m_dig h7 hd hsee]
        unfold f_WO_next_96
        simp only [gii, and_self, if_true]
        rw [if_neg (by decide)]
        unfold f_WO_reckon f_MO_readNumber
        have en : T j = nI u := by rw [eu, bbn u (by omega)]
        obtain ⟨t', S', M', g1, g2, g3, g4, g5, g6, g7, g8, g9, g10, g11, g12, g13, g14⟩ := l_num hb (f := j) hE (E - j) j 4096 4096 (xpi (xpi (xpi S 2 3 (nI j)) 2 4 2) 2 5 0) (xpl (xpi (xpi M 0 6 (nI j)) 0 9 (-1)) 0 10 0) rfl (by omega) (by omega) (Nat.le_refl _) hj (fun k => hS.1 k) h1 rfl (hM.fm (hFM1.tr FM.pl)) h7 rfl (fun _ => ⟨0, by rw [Nat.sub_self]; decide, rfl, rfl⟩)
        rw [g3, g4]
        simp only [Option.bind_some]
        have hFS : FS S S' := (((FS.pi (by decide) (by decide)).tr (FS.pi (by decide) (by decide))).tr (FS.pi (by decide) (by decide))).tr g5
        have hFM : FM M M' := (hFM1.tr FM.pl).tr g6
        have q2 : xgi S' 2 2 = nI j := g7.trans h2
        have q4 : xgi S' 2 4 = 2 := g8.trans rfl
        have hlt : j < t' := g13 u hje en hd
        have h11' : xgi M' 0 11 = 0 := (hFM.2.1 11 (by decide)).trans h11
        unfold f_WO_next_147
        rw [q4, if_neg (by decide), if_neg (by decide)]
        unfold f_WO_next_177
        rw [q4, if_pos rfl, g9, q2, pk_sub g1]
        simp only [le_lit (k := t' - j) (x := 6) (n := 6) (by omega) (by omega) rfl]
        rcases g14 with ⟨k1, ⟨k, k2, k3, k4⟩, k5⟩ | ⟨k1, k2⟩
        · rw [if_pos k1]
          have hk : k < 1000000 := Nat.lt_of_lt_of_le k2 (by
            have := Nat.pow_le_pow_right (n := 10) (by decide) k1
            exact this)
          refine SM.ret ⟨hFS, hFM, j, t', 2, lN k, Nat.le_refl _, fun _ => hlt, g1, g2, hFS.2.2.1.trans h1, q2, g9, q4, fun h => absurd h (by decide), fun _ => by rw [lN_i]; exact k3, g11, g10, k5, g12, fun _ => k4, h11', Or.inr (Or.inr (Or.inl ⟨rfl, ⟨k, hk, rfl⟩, u, (List.range' (j + 1) (t' - j - 1)).map T, ?_, hd⟩))⟩
          unfold TK
          conv => lhs; rw [show t' - j = (t' - j - 1) + 1 by omega, List.range'_succ, List.map_cons, en]
        · rw [if_neg (by omega), fail_b, q2]
          exact SM.thr (OK.mk ⟨XX.bad (hS.fs hFS) (hM.fm hFM) (by decide) ⟨h11', rfl, k2, g11⟩, hFM⟩)
      · rw [if_neg hd, m_oth h7 hu hl hd hn hsee]
        by_cases hsg : u ∈ SG
        · -- a sign
          rw [if_pos hsg, if_pos hsg]
          unfold f_WO_next_96
          simp only [gii, and_self, if_true, Nat.reduceEqDiff, and_false, if_false, nI_1]
          rw [if_neg (by decide), if_neg (by decide)]
          unfold f_WO_next_147 f_WO_next_177
          simp only [gii, and_self, if_true, Nat.reduceEqDiff, and_false, if_false]
          rw [if_neg (by decide), if_neg (by decide), if_neg (by decide)]
          have hu7 : u < 128 := by
            simp only [SG, List.mem_cons, List.not_mem_nil, or_false] at hsg
            omega
          have en : T j = nI u := by rw [eu, bbn u hu7]
          refine SM.ret ⟨((FS.pi (by decide) (by decide)).tr (FS.pi (by decide) (by decide))).tr (FS.pi (by decide) (by decide)), ((hFM1.tr (FM.pi (by decide) (by decide))).tr FM.pl).tr (FM.pi (by decide) (by decide)), j, j + 1, 3, lN u, Nat.le_refl _, fun _ => by omega, by omega, hje, h1, h2, rfl, rfl, fun h => absurd h (by decide), fun h => absurd h (by decide), rfl, rfl, rfl, rfl, fun _ => ?_, h11, Or.inr (Or.inr (Or.inr ⟨rfl, u, hsg, ?_, rfl⟩))⟩
          · show (nI u).toInt64 = lN u
            exact nI_l (by omega)
          · rw [TK_s (Nat.le_refl _), TK_0, en]
            rfl
        · -- none
          rw [if_neg hsg, if_neg hsg, c_96 (by decide) (by decide) (by decide)]
          unfold f_WO_next_147
          simp only [gii, and_self, if_true, Nat.reduceEqDiff, and_false, if_false]
          rw [fail_b]
          refine SM.thr (OK.mk ?_)
          have hFS : FS S (xpi (xpi S 2 3 (nI j)) 2 4 4) := (FS.pi (by decide) (by decide)).tr (FS.pi (by decide) (by decide))
          exact ⟨XX.bad (hS.fs hFS) (hM.fm (((hFM1.tr (FM.pi (by decide) (by decide))).tr FM.pl).tr (FM.pi (by decide) (by decide)))) (by decide) ⟨h11, rfl, rfl, h2.symm⟩, ((hFM1.tr (FM.pi (by decide) (by decide))).tr FM.pl).tr (FM.pi (by decide) (by decide))⟩
  · -- the end
    have e : j = E := by omega
    rw [if_pos (by rw [nI_leI (by omega) (by omega)]; omega), c_96 (by decide) (by decide) (by decide), m_end h7 (by
      intro M' e5 e4
      unfold f_MO_see
      rw [e5, hM.2.1, if_pos (by rw [nI_leI (by omega) (by omega)]; omega)])]
    unfold f_WO_next_147 f_WO_next_177
    simp only [gii, and_self, if_true]
    rw [if_neg (by decide), if_neg (by decide), if_neg (by decide)]
    exact SM.ret ⟨(FS.pi (by decide) (by decide)).tr (FS.pi (by decide) (by decide)), hFM1.tr (FM.pi (by decide) (by decide)), j, j, 0, 0, Nat.le_refl _, fun h => absurd rfl h, Nat.le_refl _, hj, h1, h2, rfl, rfl, fun h => absurd h (by decide), fun h => absurd h (by decide), rfl, h7, rfl, rfl, fun h => absurd rfl h, h11, Or.inl ⟨rfl, TK_0⟩⟩
theorem l_skip (hb : BY T) (hE : E ≤ 2000) : ∀ (d j n m : Nat) (S M : XS), E - j = d → d < n → d < m → j ≤ E → KS T S → KM T E M → xgi S 2 1 = nI E → xgi S 2 2 = nI j → xgi M 0 7 = nI j → xgi M 0 11 = 0 → SM (f_WO_next_8 n S) (f_MO_next_0 m M) (Qn T E j S M) (XF' T E M) := by
  intro d
  induction d with
  | zero =>
    intro j n m S M hd hn hm hj hS hM h1 h2 h7 h11
    obtain ⟨n, rfl⟩ : ∃ k, n = k + 1 := ⟨n - 1, by omega⟩
    obtain ⟨m, rfl⟩ : ∃ k, m = k + 1 := ⟨m - 1, by omega⟩
    have h := l_tok hb hE hj m hS hM h1 h2 h7 h11 (fun h => by omega)
    unfold f_WO_next_8
    rw [h1, h2, if_pos (by rw [nI_leI (by omega) (by omega)]; omega)]
    exact h
  | succ d ih =>
    intro j n m S M hd hn hm hj hS hM h1 h2 h7 h11
    obtain ⟨n, rfl⟩ : ∃ k, n = k + 1 := ⟨n - 1, by omega⟩
    obtain ⟨m, rfl⟩ : ∃ k, m = k + 1 := ⟨m - 1, by omega⟩
    obtain ⟨u, hu, eu⟩ := hb j
    have hs := see_in hM hE (show j < E by omega)
    rw [eu, sc_k8 u hu] at hs
    have hgo : SM (f_WO_next_8 n (xpi S 2 2 (nI (j + 1)))) (f_MO_next_0 m (xpi M 0 7 (nI (j + 1)))) (Qn T E j S M) (XF' T E M) := by
      refine (ih (j + 1) n m (xpi S 2 2 (nI (j + 1))) (xpi M 0 7 (nI (j + 1))) (by omega) (by omega) (by omega) (by omega) (hS.fs (FS.pi (by decide) (by decide))) (hM.fm (FM.pi (by decide) (by decide))) h1 rfl rfl h11).imp (fun _ S' M' h => ?_) (fun _ _ h => ⟨h.1, (FM.pi (by decide) (by decide)).tr h.2⟩)
      obtain ⟨a1, a2, f, t, κ, v, a3, a4, a5⟩ := h
      exact ⟨(FS.pi (by decide) (by decide)).tr a1, (FM.pi (by decide) (by decide)).tr a2, f, t, κ, v, by omega, a4, a5⟩
    by_cases h32 : u = 32 ∨ u = 10
    · rw [m_sp h7 hs h32]
      unfold f_WO_next_8
      rw [h1, h2, if_neg (by rw [nI_leI (by omega) (by omega)]; omega), if_pos (nI_in (by omega) (by omega)), nI_clamp (by omega), hS.1 j, eu]
      simp only [bb32 u hu, bb10 u hu, nI_1]
      by_cases h3 : u = 32
      · rw [if_pos h3]
        exact hgo
      · rw [if_neg h3, if_pos (nI_inn (by omega) (by omega)), if_pos (by omega)]
        exact hgo
    · have h := l_tok hb hE hj m hS hM h1 h2 h7 h11 (fun _ => by rw [eu, bb32 u hu, bb10 u hu]; omega)
      unfold f_WO_next_8
      rw [h1, h2, if_neg (by rw [nI_leI (by omega) (by omega)]; omega), if_pos (nI_in (by omega) (by omega)), nI_clamp (by omega), hS.1 j, eu]
      simp only [bb32 u hu, bb10 u hu, nI_1]
      rw [if_neg (by omega), if_pos (nI_inn (by omega) (by omega)), if_neg (by omega)]
      exact h
theorem s_nextF {t : Nat} (hb : BY T) (hE : E ≤ 2000) (ht : t ≤ E) (hS : KS T S) (hM : KM T E M) (h1 : xgi S 2 1 = nI E) (h3 : xgi S 2 3 = nI t) (h7 : xgi M 0 7 = nI t) (h11 : xgi M 0 11 = 0) : SM (f_WO_next S) (f_MO_next M) (Qn T E t S M) (XF' T E M) := by
  unfold f_WO_next f_MO_next
  rw [h3]
  refine (l_skip hb hE (E - t) t 4096 4096 (xpi S 2 2 (nI t)) M rfl (by omega) (by omega) ht (hS.fs (FS.pi (by decide) (by decide))) hM h1 rfl h7 h11).imp (fun _ S' M' h => ?_) (fun _ _ h => h)
  obtain ⟨a1, a2, f, t, κ, v, a3, a4, a5⟩ := h
  exact ⟨(FS.pi (by decide) (by decide)).tr a1, a2, f, t, κ, v, a3, a4, a5⟩
theorem s_next {t : Nat} (hb : BY T) (hE : E ≤ 2000) (ht : t ≤ E) (hS : KS T S) (hM : KM T E M) (h1 : xgi S 2 1 = nI E) (h3 : xgi S 2 3 = nI t) (h7 : xgi M 0 7 = nI t) (h11 : xgi M 0 11 = 0) : SM (f_WO_next S) (f_MO_next M) (Qn T E t S M) (XX T E) := (s_nextF hb hE ht hS hM h1 h3 h7 h11).imp (fun _ _ _ h => h) (fun _ _ h => h.1)
end Nx
