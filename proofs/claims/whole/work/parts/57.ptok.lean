/-! the word at hand, on both sides -/
abbrev lwd (ws : List (List Int32)) : Prop := ∀ w ∈ ws, w ≠ [] ∧ w.length ≤ 12 ∧ ∀ c ∈ w, (97 : Int32) ≤ c ∧ c ≤ 122
theorem lt_AN {c : Int32} (h : (97 : Int32) ≤ c ∧ c ≤ 122) : ∃ u : Nat, c = nI u ∧ 97 ≤ u ∧ u ≤ 122 := by
  obtain ⟨j, hj, e⟩ := nI_of (x := c) (fun h9 => by
    have h1 := h.1
    rw [Int32.le_iff_toInt_le] at h1
    rw [Int32.lt_iff_toInt_lt] at h9
    have : (97 : Int32).toInt = 97 := by decide
    have : (0 : Int32).toInt = 0 := by decide
    omega)
  rw [e, ge_lit (x := 97) (n := 97) hj (by omega) rfl, le_lit (x := 122) (n := 122) hj (by omega) rfl] at h
  exact ⟨j, e, h⟩
theorem wv_w {l : List Int32} {κ : Nat} {v : Int64} (h : TV l κ v) : ∀ (ws : List (List Int32)) (i : Nat), lwd ws → widx ws l i = if κ = 1 then kix (ws.map cod) v i else -1 := by
  intro ws
  induction ws with
  | nil => intro i _; unfold widx; split <;> rfl
  | cons w ws ih =>
    intro i hw
    have hr := ih (i + 1) (fun x hx => hw x (List.mem_cons_of_mem _ hx))
    obtain ⟨k1, k2, k3⟩ := hw w (List.mem_cons_self ..)
    rw [widx, hr]
    rcases h with ⟨rfl, rfl⟩ | ⟨rfl, rfl, g2, g3, g4⟩ | ⟨rfl, g2, u, r, rfl, g3, g4⟩ | ⟨rfl, u, g1, rfl, g3⟩
    · rw [if_neg (fun e => k1 e.symm), if_neg (by decide), if_neg (by decide)]
    · rw [if_pos rfl, if_pos rfl, List.map_cons, kix]
      by_cases e : l = w
      · rw [if_pos e, if_pos (by rw [e])]
      · rw [if_neg e, if_neg (fun e2 => e (cod_inj g2 (fun c hc => by
          obtain ⟨u, a1, a2⟩ := lt_AN (k3 c hc)
          exact ⟨u, a1, Or.inl a2⟩) g4 k2 e2.symm))]
    · rw [if_neg (fun e => by
        obtain ⟨x, a1, a2⟩ := lt_AN (k3 (nI u) (by rw [← e]; exact List.mem_cons_self ..))
        rw [nI_eq (by omega) (by omega)] at a1
        omega), if_neg (by decide), if_neg (by decide)]
    · rw [if_neg (fun e => by
        obtain ⟨x, a1, a2⟩ := lt_AN (k3 (nI u) (by rw [← e]; exact List.mem_cons_self ..))
        simp only [SG, List.mem_cons, List.not_mem_nil, or_false] at g1
        rw [nI_eq (by omega) (by omega)] at a1
        omega), if_neg (by decide), if_neg (by decide)]
theorem wv_s {l : List Int32} {κ u : Nat} {v : Int64} (h : TV l κ v) (hu : u ∈ SG) : widx [[nI u]] l 0 = if κ = 3 ∧ v = lN u then 0 else -1 := by
  have hu2 : u < 128 ∧ ¬ (97 ≤ u ∧ u ≤ 122) ∧ ¬ (48 ≤ u ∧ u ≤ 57) := by
    simp only [SG, List.mem_cons, List.not_mem_nil, or_false] at hu
    omega
  rw [widx, widx]
  rcases h with ⟨rfl, rfl⟩ | ⟨rfl, rfl, g2, g3, g4⟩ | ⟨rfl, g2, x, r, rfl, g3, g4⟩ | ⟨rfl, x, g1, rfl, rfl⟩
  · rw [if_neg (by simp), if_neg (by omega)]
  · rw [if_neg (fun e => by
      obtain ⟨x, a1, a2⟩ := g2 (nI u) (by rw [e]; exact List.mem_cons_self ..)
      rw [nI_eq (by omega) (by omega)] at a1
      omega), if_neg (by omega)]
  · rw [if_neg (fun e => by
      have := (List.cons.inj e).1
      rw [nI_eq (by omega) (by omega)] at this
      omega), if_neg (by omega)]
  · have hx2 : x < 128 := by
      simp only [SG, List.mem_cons, List.not_mem_nil, or_false] at g1
      omega
    by_cases e : x = u
    · rw [if_pos (by rw [e]), if_pos ⟨rfl, by rw [e]⟩]
      rfl
    · rw [if_neg (fun e2 => by
        have := (List.cons.inj e2).1
        rw [nI_eq (by omega) (by omega)] at this
        omega), if_neg (fun e2 => by
        have := e2.2
        rw [lN_eq (by omega) (by omega)] at this
        omega)]
theorem kix_get (v : Int64) : ∀ (l : List Int64) (i k : Nat), i + l.length < 2 ^ 31 → k < 2 ^ 31 → kix l v i = nI k → i ≤ k ∧ l[k - i]? = some v := by
  intro l
  induction l with
  | nil =>
    intro i k _ hk e
    exfalso
    rw [kix] at e
    exact nI_pos hk (by rw [← e]; decide)
  | cons c l ih =>
    intro i k hi hk e
    rw [List.length_cons] at hi
    rw [kix] at e
    by_cases h : c = v
    · rw [if_pos h, nI_eq (by omega) hk] at e
      subst e
      exact ⟨Nat.le_refl _, by rw [Nat.sub_self, h]; rfl⟩
    · rw [if_neg h] at e
      obtain ⟨h1, h2⟩ := ih (i + 1) k (by omega) hk e
      exact ⟨by omega, by rw [show k - i = (k - (i + 1)) + 1 by omega, List.getElem?_cons_succ]; exact h2⟩
def kwc (w : Nat) : Int64 := mwords.getD w 0
theorem kw_ix : ∀ w, w < 23 → kix mwords (kwc w) 0 = nI w := by decide +kernel
theorem kw_iff {v : Int64} {w : Nat} (hw : w < 23) : kix mwords v 0 = nI w ↔ v = kwc w := by
  constructor
  · intro e
    obtain ⟨-, h⟩ := kix_get v mwords 0 w (by decide) (by omega) e
    unfold kwc
    rw [List.getD_eq_getElem?_getD, Nat.sub_zero] at *
    rw [h]
    rfl
  · rintro rfl
    exact kw_ix w hw
/-- no fault yet -/
def FZ (S M : XS) : Prop := xgi S 2 7 = 0 ∧ xgi S 2 8 = -1 ∧ xgi M 0 12 = -1
theorem FZ.fs {S M S' M' : XS} (h : FZ S M) (hs : FS S S') (hm : FM M M') : FZ S' M' := ⟨hs.2.2.2.1.trans h.1, hs.2.2.2.2.trans h.2.1, (hm.2.1 12 (by decide)).trans h.2.2⟩
def AL (T : Nat → Int32) (E t κ : Nat) (v : Int64) (S M : XS) : Prop := BY T ∧ E ≤ 2000 ∧ KS T S ∧ KM T E M ∧ ∃ f, RT T E f t κ v S M ∧ FZ S M
def NX (T : Nat → Int32) (E t : Nat) (S M S' M' : XS) : Prop := FS S S' ∧ FM M M' ∧ ∃ t' κ v, t ≤ t' ∧ (κ ≠ 0 → t < t') ∧ AL T E t' κ v S' M'
/-- a sign's literal; a keyword's -/
abbrev sgl (a u : Nat) : Prop := a < 28 ∧ u ∈ SG ∧ spl (lit a) = [[nI u]]
abbrev kwl (a w : Nat) : Prop := a < 28 ∧ w < 23 ∧ lwd (spl (lit a)) ∧ (spl (lit a)).map cod = [kwc w]
section Tok
variable {T : Nat → Int32} {E t κ : Nat} {v : Int64} {S M : XS}
theorem al_which (h : AL T E t κ v S M) {a : Nat} (ha : a < 28) (hl : lwd (spl (lit a))) : f_WO_whichOf S a = some (if κ = 1 then kix ((spl (lit a)).map cod) v 0 else -1) := by
  obtain ⟨-, hE, hS, -, f, hR, -⟩ := h
  rw [which_of ha hR.1 (by have := hR.2.1; omega) hS.1 hR.2.2.2.1 hR.2.2.2.2.1, wv_w hR.2.2.2.2.2.2.2.2.2.2.2.2.2.2 _ _ hl]
theorem al_is_s (h : AL T E t κ v S M) {a u : Nat} (hl : sgl a u) : f_WO_is S a = some (if κ = 3 ∧ v = lN u then 1 else 0) := by
  obtain ⟨-, hE, hS, -, f, hR, -⟩ := h
  unfold f_WO_is
  rw [which_of hl.1 hR.1 (by have := hR.2.1; omega) hS.1 hR.2.2.2.1 hR.2.2.2.2.1, hl.2.2, wv_s hR.2.2.2.2.2.2.2.2.2.2.2.2.2.2 hl.2.1]
  simp only [Option.bind_some]
  by_cases h9 : κ = 3 ∧ v = lN u
  · rw [if_pos h9, if_pos h9, if_pos rfl]
  · rw [if_neg h9, if_neg h9, if_neg (by decide)]
theorem al_is_k (h : AL T E t κ v S M) {a w : Nat} (hl : kwl a w) : f_WO_is S a = some (if κ = 1 ∧ v = kwc w then 1 else 0) := by
  unfold f_WO_is
  rw [al_which h hl.1 hl.2.2.1, hl.2.2.2]
  simp only [Option.bind_some]
  by_cases h1 : κ = 1
  · rw [if_pos h1, kix, kix]
    by_cases h2 : kwc w = v
    · rw [if_pos h2, if_pos (by rfl), if_pos ⟨h1, h2.symm⟩]
    · rw [if_neg h2, if_neg (by decide), if_neg (fun e => h2 e.2.symm)]
  · rw [if_neg h1, if_neg (by decide), if_neg (fun e => h1 e.1)]
theorem tkn_k {κ : Nat} (h : κ = 0 ∨ κ = 1 ∨ κ = 2 ∨ κ = 3) : (tkn κ v = 1 ↔ κ = 1 ∧ kix mwords v 0 = -1) ∧ (tkn κ v = 2 ↔ κ = 1 ∧ ¬ kix mwords v 0 = -1) ∧ (tkn κ v = 3 ↔ κ = 2) ∧ (tkn κ v = 4 ↔ κ = 3) ∧ ¬ tkn κ v = 5 ∧ (tkn κ v = 0 ↔ κ = 0) := by
  unfold tkn tk1
  rcases h with rfl | rfl | rfl | rfl
  · simp
  · by_cases h : kix mwords v 0 = -1
    · simp [h]
    · simp [h]
  · simp
    decide
  · simp
    decide
theorem al_k (h : AL T E t κ v S M) : κ = 0 ∨ κ = 1 ∨ κ = 2 ∨ κ = 3 := by
  obtain ⟨-, hE, hS, -, f, hR, -⟩ := h
  rcases hR.2.2.2.2.2.2.2.2.2.2.2.2.2.2 with h | h | h | h
  · exact Or.inl h.1
  · exact Or.inr (Or.inl h.1)
  · exact Or.inr (Or.inr (Or.inl h.1))
  · exact Or.inr (Or.inr (Or.inr h.1))
theorem al_tk (h : AL T E t κ v S M) : xgi M 0 8 = tkn κ v := h.2.2.2.2.elim fun _ hR => hR.1.2.2.2.2.2.2.2.2.2.2.1
theorem al_wd (h : AL T E t κ v S M) : xgi M 0 9 = wrd κ v := h.2.2.2.2.elim fun _ hR => hR.1.2.2.2.2.2.2.2.2.2.2.2.1
theorem al_v (h : AL T E t κ v S M) (hk : κ ≠ 0) : xgl M 0 10 = v := h.2.2.2.2.elim fun _ hR => hR.1.2.2.2.2.2.2.2.2.2.2.2.2.1 hk
theorem al_0 (h : AL T E t κ v S M) : xgi M 0 11 = 0 := h.2.2.2.2.elim fun _ hR => hR.1.2.2.2.2.2.2.2.2.2.2.2.2.2.1
theorem al_nm (h : AL T E t κ v S M) (hk : κ = 1) : xgl S 2 6 = v := h.2.2.2.2.elim fun _ hR => hR.1.2.2.2.2.2.2.1 hk
theorem al_ki (h : AL T E t κ v S M) : xgi S 2 4 = nI κ := h.2.2.2.2.elim fun _ hR => hR.1.2.2.2.2.2.1
theorem al_fr (h : AL T E t κ v S M) : xgi S 2 2 = xgi M 0 6 := h.2.2.2.2.elim fun _ hR => hR.1.2.2.2.1.trans hR.1.2.2.2.2.2.2.2.2.1.symm
theorem al_good (h : AL T E t κ v S M) : f_MO_good M = some 1 := by unfold f_MO_good; rw [al_0 h, if_pos rfl]
theorem al_sg (h : AL T E t κ v S M) {u : Nat} (hu : u ∈ SG) {c : Int32} (hc : c = nI u) : f_MO_isSign M c = some (if κ = 3 ∧ v = lN u then 1 else 0) := by
  have hu2 : u < 128 := by
    simp only [SG, List.mem_cons, List.not_mem_nil, or_false] at hu
    omega
  unfold f_MO_isSign
  rw [al_good h]
  simp only [Option.bind_some, al_tk h, (tkn_k (v := v) (al_k h)).2.2.2.1, cmp0]
  rw [if_neg (by decide)]
  by_cases h3 : κ = 3
  · rw [if_pos h3, al_v h (by omega), hc, nI_l (by omega)]
    by_cases h4 : v = lN u
    · rw [if_pos h4, if_pos ⟨h3, h4⟩]
    · rw [if_neg h4, if_neg (fun e => h4 e.2)]
  · rw [if_neg h3, if_neg (fun e => h3 e.1)]
theorem al_kw (h : AL T E t κ v S M) {w : Nat} (hw : w < 23) {c : Int32} (hc : c = nI w) : f_MO_isWord M c = some (if κ = 1 ∧ v = kwc w then 1 else 0) := by
  unfold f_MO_isWord
  rw [al_good h]
  simp only [Option.bind_some, al_tk h, al_wd h, (tkn_k (v := v) (al_k h)).2.1]
  rw [if_neg (by decide), hc]
  by_cases h1 : κ = 1
  · subst h1
    unfold wrd
    rw [if_pos rfl]
    by_cases h2 : v = kwc w
    · have e := (kw_iff (v := v) hw).mpr h2
      rw [e, if_pos ⟨rfl, fun e2 => nI_pos (n := w) (by omega) (by rw [e2]; decide)⟩, if_pos rfl, if_pos ⟨rfl, h2⟩]
    · rw [if_neg (c := _ ∧ v = kwc w) (fun e => h2 e.2)]
      split
      · rw [if_neg (fun e => h2 ((kw_iff hw).mp e))]
      · rfl
  · rw [if_neg (fun e => h1 e.1), if_neg (fun e => h1 e.1)]
theorem al_acc (h : AL T E t κ v S M) {w : Nat} (hw : w < 23) {c : Int32} (hc : c = nI w) : f_MO_accept M c = if κ = 1 ∧ v = kwc w then (f_MO_next M).bind (fun q => some (1, q)) else some (0, M) := by
  unfold f_MO_accept
  rw [al_kw h hw hc]
  simp only [Option.bind_some]
  by_cases h1 : κ = 1 ∧ v = kwc w
  · rw [if_pos h1, if_pos h1, if_neg (by decide)]
    congr 1
  · rw [if_neg h1, if_neg h1, if_pos rfl, if_pos (Or.inl rfl)]
/-! a fault at the word at hand -/
theorem al_fail (h : AL T E t κ v S M) (k p : Int32) : f_MO_fail M k p = some (xpi (xpi M 0 11 k) 0 12 p) := by
  unfold f_MO_fail
  rw [al_0 h, if_pos rfl]
theorem al_bad (h : AL T E t κ v S M) (k : Int32) : f_MO_bad M k = some (xpi (xpi M 0 11 k) 0 12 (xgi M 0 6)) := by
  unfold f_MO_bad
  rw [al_tk h, if_neg (tkn_k (v := v) (al_k h)).2.2.2.2.1, al_fail h, Option.bind_some]
theorem KM.i0 {i j : Nat} {x : Int32} (h : KM T E M) (hi : ¬ i = 4 ∧ ¬ (i = 0 ∧ j = 5)) : KM T E (xpi M i j x) :=
  ⟨fun k => by rw [gii, if_neg (by omega)]; exact h.1 k, by rw [gii, if_neg (by omega)]; exact h.2.1, h.2.2.1, h.2.2.2.1, h.2.2.2.2⟩
theorem KM.l0 {i j : Nat} {x : Int64} (h : KM T E M) (hi : i = 0 ∨ 3 < i) : KM T E (xpl M i j x) :=
  ⟨h.1, h.2.1, fun k => by rw [gll, if_neg (by omega)]; exact h.2.2.1 k, fun k => by rw [gll, if_neg (by omega)]; exact h.2.2.2.1 k, fun k => by rw [gll, if_neg (by omega)]; exact h.2.2.2.2 k⟩
theorem KS.i0 {i j : Nat} {x : Int32} (h : KS T S) (hi : 1 < i) (hj : xR i → 1 < j) : KS T (xpi S i j x) :=
  ⟨fun k => by rw [gii, if_neg (by omega)]; exact h.1 k, by rw [gii, if_neg (by omega)]; exact h.2.1, by rw [gii, if_neg (by omega)]; exact h.2.2.1, fun k hk => ⟨by
    rw [gii, if_neg (fun e => by have := hj (by rw [← e.1]; exact hk); omega)]; exact (h.2.2.2 k hk).1, by
    rw [gii, if_neg (fun e => by have := hj (by rw [← e.1]; exact hk); omega)]; exact (h.2.2.2 k hk).2⟩⟩
theorem KS.l0 {i j : Nat} {x : Int64} (h : KS T S) : KS T (xpl S i j x) := ⟨h.1, h.2.1, h.2.2.1, h.2.2.2⟩
theorem al_xx (h : AL T E t κ v S M) {k : Int32} (hk : 0 < k) : XX T E (xpi (xpi S 2 7 k) 2 8 (xgi S 2 2)) (xpi (xpi M 0 11 k) 0 12 (xgi M 0 6)) :=
  ⟨h.2.2.1.fail, (h.2.2.2.1.i0 (by omega)).i0 (by omega), hk, Or.inl ⟨rfl, (al_fr h).symm⟩⟩
theorem al_xp (h : AL T E t κ v S M) {k p : Int32} (hk : 0 < k) : XX T E (xpi (xpi (xpi S 2 2 p) 2 7 k) 2 8 p) (xpi (xpi M 0 11 k) 0 12 p) :=
  ⟨(h.2.2.1.i0 (by omega) (by omega)).fail, (h.2.2.2.1.i0 (by omega)).i0 (by omega), hk, Or.inl ⟨rfl, rfl⟩⟩
/-! steps -/
theorem s_nx (h : AL T E t κ v S M) : SM (f_WO_next S) (f_MO_next M) (fun _ S' M' => NX T E t S M S' M') (XX T E) := by
  obtain ⟨hb, hE, hS, hM, f, hR, hZ⟩ := h
  refine (s_next hb hE hR.2.1 hS hM hR.2.2.1 hR.2.2.2.2.1 hR.2.2.2.2.2.2.2.2.2.1 hR.2.2.2.2.2.2.2.2.2.2.2.2.2.1).imp (fun _ S' M' g => ?_) (fun _ _ g => g)
  obtain ⟨g1, g2, f', t', κ', v', g3, g4, g5⟩ := g
  have := g5.1
  exact ⟨g1, g2, t', κ', v', by omega, fun q => by have := g4 q; omega, hb, hE, hS.fs g1, hM.fm g2, f', g5, hZ.fs g1 g2⟩
theorem s_sign (h : AL T E t κ v S M) {a u : Nat} (hl : sgl a u) {c : Int32} (hc : c = nI u) : SM (f_WO_expect S a) (f_MO_sign M c) (fun _ S' M' => NX T E t S M S' M') (XX T E) := by
  unfold f_WO_expect f_MO_sign
  rw [al_is_s h hl, al_sg h hl.2.1 hc]
  simp only [Option.bind_some, xb_id]
  by_cases h9 : κ = 3 ∧ v = lN u
  · simp only [if_pos h9]
    rw [if_neg (by decide), if_neg (by decide)]
    exact (s_nx h).idl
  · simp only [if_neg h9, if_true]
    rw [fail_b, al_bad h]
    exact SM.thr (OK.mk (al_xx h (by decide)))
theorem s_need (h : AL T E t κ v S M) {a w : Nat} (hl : kwl a w) {c : Int32} (hc : c = nI w) : SM (f_WO_expect S a) (f_MO_need M c) (fun _ S' M' => NX T E t S M S' M') (XX T E) := by
  unfold f_WO_expect f_MO_need
  rw [al_is_k h hl, al_kw h hl.2.1 hc]
  simp only [Option.bind_some, xb_id]
  by_cases h9 : κ = 1 ∧ v = kwc w
  · simp only [if_pos h9]
    rw [if_neg (by decide), if_neg (by decide)]
    exact (s_nx h).idl
  · simp only [if_neg h9, if_true]
    rw [fail_b, al_bad h]
    exact SM.thr (OK.mk (al_xx h (by decide)))
/-- a number; lo, hi, st as both sides get them -/
theorem s_number (h : AL T E t κ v S M) {lo hi st : Int32} (hst : st = 1 ∨ st = 4 ∨ st = 256) : SM (f_WO_expectNumber S lo hi st) (f_MO_number M lo hi st) (fun r S' b => b.1 = r ∧ NX T E t S M S' b.2 ∧ lo ≤ r ∧ r ≤ hi ∧ ∃ k, k < 1000000 ∧ r = nI k) (fun S' b => XX T E S' b.2) := by
  unfold f_WO_expectNumber f_MO_number
  rw [al_good h, al_ki h]
  simp only [Option.bind_some, al_tk h, (tkn_k (v := v) (al_k h)).2.2.1]
  rw [if_neg (c := (1 : Int32) = 0) (by decide)]
  by_cases h2 : κ = 2
  · rw [if_pos (by rw [h2]; rfl), if_pos h2]
    have e5 : xgi S 2 5 = v.toInt32 := h.2.2.2.2.elim fun _ hR => hR.1.2.2.2.2.2.2.2.1 h2
    rw [al_v h (by omega)]
    unfold f_WO_expectNumber_13 f_WO_expectNumber_43 f_MO_number_50
    rw [e5, al_fail h]
    simp only [fail_b, Option.bind_some]
    have hbad : SM (some (.inr (xpi (xpi S 2 7 5) 2 8 (xgi S 2 2))) : Option ((Int32 × XS) ⊕ XS)) (some ((0 : Int32), xpi (xpi M 0 11 5) 0 12 (xgi M 0 6))) (fun r S' b => b.1 = r ∧ NX T E t S M S' b.2 ∧ lo ≤ r ∧ r ≤ hi ∧ ∃ k, k < 1000000 ∧ r = nI k) (fun S' b => XX T E S' b.2) := SM.thr (OK.mk (al_xx h (by decide)))
    obtain ⟨k, hk, ek⟩ : ∃ k, k < 1000000 ∧ v = lN k := by
      obtain ⟨-, -, -, -, f, hR, -⟩ := h
      rcases hR.2.2.2.2.2.2.2.2.2.2.2.2.2.2 with g | g | g | g
      · omega
      · omega
      · exact g.2.1
      · omega
    by_cases g1 : v.toInt32 < lo
    · rw [if_pos g1, if_pos g1]
      exact hbad
    · rw [if_neg g1, if_neg g1]
      by_cases g2 : hi < v.toInt32
      · rw [if_pos g2, if_pos g2]
        exact hbad
      · rw [if_neg g2, if_neg g2]
        have hgood : SM ((f_WO_next S).bind (xT2 fun _ S10 => some (.inl (v.toInt32, S10)))) ((f_MO_next M).bind fun q5 => some (v.toInt32, q5)) (fun r S' b => b.1 = r ∧ NX T E t S M S' b.2 ∧ lo ≤ r ∧ r ≤ hi ∧ ∃ k, k < 1000000 ∧ r = nI k) (fun S' b => XX T E S' b.2) := by
          refine (s_nx h).bind (fun _ S' M' g => SM.ret ⟨rfl, g, Int32.not_lt.mp g1, Int32.not_lt.mp g2, k, hk, by rw [ek, lN_i]⟩) (fun S' b g => OK.mk g)
        have hst0 : ¬ st = 0 := by rcases hst with rfl | rfl | rfl <;> decide
        rw [if_pos hst0]
        by_cases g3 : st ≤ 1
        · have : st = 1 := by
            rcases hst with rfl | rfl | rfl
            · rfl
            · exact absurd g3 (by decide)
            · exact absurd g3 (by decide)
          subst this
          have e6 : v.toInt32 - v.toInt32 / 1 * 1 = 0 := by
            rw [ek, lN_i, show (1 : Int32) = nI 1 from rfl, pk_rem (by omega) (by omega) (by omega), Nat.mod_one]
            rfl
          rw [if_pos g3, if_pos e6]
          exact hgood
        · rw [if_neg g3, if_pos hst0]
          by_cases g4 : v.toInt32 - v.toInt32 / st * st = 0
          · rw [if_pos g4, if_pos g4]
            exact hgood
          · rw [if_neg g4, if_neg g4]
            exact hbad
  · rw [if_neg (by
      show ¬ nI κ = nI 2
      have := al_k h
      rw [nI_eq (by omega) (by omega)]
      exact h2), if_neg h2, fail_b, al_bad h]
    exact SM.thr (OK.mk (al_xx h (by decide)))
/-- the name that must be at hand -/
theorem al_name (h : AL T E t κ v S M) : (κ = 1 ∧ kix mwords v 0 = -1 ∧ xgi M 0 8 = 1 ∧ xgl M 0 10 = v ∧ f_WO_expectName S = some (.inl (v, S))) ∨ (¬ xgi M 0 8 = 1 ∧ f_WO_expectName S = some (.inr (xpi (xpi S 2 7 1) 2 8 (xgi S 2 2)))) := by
  have hcod : (spl (lit 3)).map cod = mwords := by decide +kernel
  have hlw : lwd (spl (lit 3)) := by decide +kernel
  unfold f_WO_expectName
  rw [al_ki h, al_which h (by decide) hlw, hcod, al_tk h]
  simp only [(tkn_k (v := v) (al_k h)).1, fail_b, Option.bind_some]
  by_cases h1 : κ = 1
  · subst h1
    rw [if_pos (by rfl), if_pos rfl]
    by_cases h2 : kix mwords v 0 = -1
    · rw [if_pos h2, al_nm h rfl]
      exact Or.inl ⟨rfl, h2, ⟨rfl, h2⟩, al_v h (by decide), rfl⟩
    · rw [if_neg h2]
      exact Or.inr ⟨fun e => h2 e.2, rfl⟩
  · rw [if_neg (by
      show ¬ nI κ = nI 1
      have := al_k h
      rw [nI_eq (by omega) (by omega)]
      exact h1)]
    exact Or.inr ⟨fun e => h1 e.1, rfl⟩
end Tok
