/-! which word of a list is at hand -/
def wl (tok : List Int32) : List Int32 → Nat → Nat → Bool → Int32
  | [], w, pos, same => if same = true ∧ pos = tok.length then nI w else -1
  | c :: r, w, pos, same => if c = 32 then (if same = true ∧ pos = tok.length then nI w else wl tok r (w + 1) 0 true) else wl tok r w (pos + 1) (same && decide (tok[pos]? = some c))
def b2i (b : Bool) : Int32 := if b = true then 1 else 0
def lit (a : Nat) : List Int32 := xbyt.getD a []
theorem lit_len : ∀ a, a < 28 → xlen.getD a 0 = (lit a).length ∧ (lit a).length < 200 ∧ (∀ c ∈ lit a, 0 ≤ c ∧ c < 128) := by decide +kernel
theorem js_len {S : XS} {a : Nat} (ha : a < 28) : f_JS_length S a = some (nI (lit a).length) := by
  unfold f_JS_length f_JS_coder
  have ha' : a < xnl := ha
  rw [if_pos ha', if_neg (by decide), if_pos ha', (lit_len a ha).1]
  show some (nI _ >>> ((0 : Int32) &&& 31)) = _
  rw [sc_shr0 (by have := (lit_len a ha).2.1; omega)]
theorem ch_of : ∀ u, u < 128 → (((nI u &&& (255 : Int32)).toUInt32 % 65536).toInt32 = nI u ∧ ((nI u).toUInt32 % 65536).toInt32 = nI u) := by decide +kernel
theorem js_char {S : XS} {a k : Nat} (ha : a < 28) (hk : k < (lit a).length) : f_JS_charAt S a (nI k) = some ((lit a)[k]) := by
  have ha' : a < xnl := ha
  obtain ⟨l1, l2, l3⟩ := lit_len a ha
  obtain ⟨p1, p2⟩ := l3 _ (List.getElem_mem hk)
  obtain ⟨u, hu, eu⟩ := nI_of (x := (lit a)[k]) (by rw [Int32.not_lt]; exact p1)
  rw [eu, lt_lit (x := 128) (n := 128) hu (by omega) rfl] at p2
  have e9 : (xbyt.getD a []).getD k 0 = nI u := by
    rw [← eu]
    show (lit a).getD k 0 = _
    rw [List.getD_eq_getElem?_getD, List.getElem?_eq_getElem hk, Option.getD_some]
  have e8 : f_JL_charAt S a (nI k) = some (nI u) := by
    unfold f_JL_charAt f_JS_checkIndex f_JP_checkIndexN
    rw [if_pos ha', l1, if_neg (nI_pos (by omega)), if_pos (show nI k < Int32.ofNat (lit a).length from nI_lt hk (by omega))]
    simp only [Option.bind_some]
    rw [if_pos (nI_in hk (by omega)), nI_clamp (by omega), e9, (ch_of u p2).1, (ch_of u p2).2, if_pos rfl]
  unfold f_JS_charAt f_JS_isLatin1
  rw [if_pos ha', if_neg (by decide), if_pos ha', if_pos rfl]
  simp only [Option.bind_some]
  rw [if_neg (by decide), e8]
  simp only [Option.bind_some]
  rw [(ch_of u p2).2, if_pos rfl, eu]
theorem wh_loop {T : Nat → Int32} {S : XS} {f t a : Nat} (ha : a < 28) (hft : f ≤ t) (ht : t ≤ 2000) (hT : ∀ j, xgi S 1 j = T j) (h2 : xgi S 2 2 = nI f) (h3 : xgi S 2 3 = nI t) :
    ∀ (d k n w pos : Nat) (same : Bool), (lit a).length - k = d → k ≤ (lit a).length → d + 1 < n → pos ≤ k → w ≤ k → f_WO_whichOf_13 n S a (nI w) (nI (f + pos)) (b2i same) (nI k) = some (wl (TK T f t) ((lit a).drop k) w pos same) := by
  have hlen := (lit_len a ha).2.1
  have ha' : a < xnl := ha
  intro d
  induction d with
  | zero =>
    intro k n w pos same hd hk hn hp hw
    obtain ⟨n, rfl⟩ : ∃ k, n = k + 1 := ⟨n - 1, by omega⟩
    have ek : k = (lit a).length := by omega
    rw [List.drop_eq_nil_of_le (by omega)]
    unfold wl f_WO_whichOf_13
    rw [if_pos ha', js_len ha]
    simp only [Option.bind_some]
    have hout : ∀ (y z : Int32), f_WO_whichOf_13 n S a y z 1 (nI (k + 1)) = some (-1) := by
      intro y z
      obtain ⟨n, rfl⟩ : ∃ k, n = k + 1 := ⟨n - 1, by omega⟩
      unfold f_WO_whichOf_13
      rw [if_pos ha', js_len ha]
      simp only [Option.bind_some]
      rw [if_pos (nI_lt (by omega) (by omega))]
    rw [if_neg (nI_nlt (by omega) (by omega)), if_pos (nI_le (by omega) (by omega)), if_pos trivial, h2, h3, TK_len, nI_1, nI_1, hout]
    cases same
    · rfl
    · show (if (1 : Int32) = 0 then _ else _) = _
      rw [if_neg (by decide)]
      by_cases h9 : pos = t - f
      · rw [if_pos (by rw [h9, show f + (t - f) = t by omega]), if_pos ⟨rfl, h9⟩]
      · rw [if_neg (by rw [nI_eq (by omega) (by omega)]; omega), if_neg (fun h => h9 h.2)]
  | succ d ih =>
    intro k n w pos same hd hk hn hp hw
    obtain ⟨n, rfl⟩ : ∃ k, n = k + 1 := ⟨n - 1, by omega⟩
    have hkl : k < (lit a).length := by omega
    rw [List.drop_eq_getElem_cons hkl]
    unfold wl f_WO_whichOf_13
    rw [if_pos ha', js_len ha]
    simp only [Option.bind_some]
    rw [if_neg (nI_nlt (by omega) (by omega)), if_neg (nI_ge (by omega) (by omega)), js_char ha hkl]
    simp only [Option.bind_some, nI_1, Nat.add_assoc f pos 1]
    rw [h2, h3]
    have hnew : f_WO_whichOf_13 n S a (nI (w + 1)) (nI f) (b2i true) (nI (k + 1)) = _ := ih (k + 1) n (w + 1) 0 true (by omega) (by omega) (by omega) (by omega) (by omega)
    have hnxt := fun s => ih (k + 1) n w (pos + 1) s (by omega) (by omega) (by omega) (by omega) (by omega)
    by_cases h32 : (lit a)[k] = 32
    · rw [if_pos h32, if_pos h32, TK_len]
      cases same
      · show (if (0 : Int32) = 0 then _ else _) = _
        rw [if_pos rfl, show (1 : Int32) = b2i true from rfl, hnew, if_neg (by simp)]
      · show (if (1 : Int32) = 0 then _ else _) = _
        rw [if_neg (by decide)]
        by_cases h9 : pos = t - f
        · rw [if_pos (by rw [h9, show f + (t - f) = t by omega]), if_pos ⟨rfl, h9⟩]
        · rw [if_neg (by rw [nI_eq (by omega) (by omega)]; omega), if_neg (fun h => h9 h.2), show (1 : Int32) = b2i true from rfl, hnew]
    · rw [if_neg h32, if_neg h32]
      cases same
      · show (if (0 : Int32) = 0 then _ else _) = _
        rw [if_pos rfl, show (0 : Int32) = b2i false from rfl, hnxt]
        rfl
      · show (if (1 : Int32) = 0 then _ else _) = _
        rw [if_neg (by decide)]
        by_cases h9 : f + pos < t
        · have e : (TK T f t)[pos]? = some (T (f + pos)) := by
            unfold TK
            rw [List.getElem?_map, List.getElem?_range' (by omega)]
            simp
          rw [if_neg (by rw [nI_leI (by omega) (by omega)]; omega), if_pos (nI_in (by omega) (by omega)), nI_clamp (by omega), hT, e]
          simp only [Option.some.injEq, Bool.true_and]
          by_cases h8 : T (f + pos) = (lit a)[k]
          · rw [if_pos h8, show (1 : Int32) = b2i true from rfl, hnxt, decide_eq_true h8]
          · rw [if_neg h8, show (0 : Int32) = b2i false from rfl, hnxt, decide_eq_false h8]
        · have e : (TK T f t)[pos]? = none := by
            rw [List.getElem?_eq_none_iff, TK_len]
            omega
          rw [if_pos (by rw [nI_leI (by omega) (by omega)]; omega), show (0 : Int32) = b2i false from rfl, hnxt, e]
          simp
/-! the list's words -/
def widx : List (List Int32) → List Int32 → Nat → Int32
  | [], _, _ => -1
  | w :: ws, l, i => if l = w then nI i else widx ws l (i + 1)
def spl : List Int32 → List (List Int32)
  | [] => [[]]
  | c :: r => if c = 32 then [] :: spl r else match spl r with | [] => [[c]] | w :: ws => (c :: w) :: ws
theorem wl_spl (tok : List Int32) : ∀ (B : List Int32) (w pos : Nat) (same : Bool), ∃ (u : List Int32) (ws : List (List Int32)), spl B = u :: ws ∧ wl tok B w pos same = if same = true ∧ pos ≤ tok.length ∧ tok.drop pos = u then nI w else widx ws tok (w + 1) := by
  intro B
  induction B with
  | nil =>
    intro w pos same
    refine ⟨[], [], rfl, ?_⟩
    unfold wl widx
    by_cases h : same = true ∧ pos = tok.length
    · rw [if_pos h, if_pos ⟨h.1, by omega, by rw [List.drop_eq_nil_iff]; omega⟩]
    · rw [if_neg h, if_neg (fun k => h ⟨k.1, by have := List.drop_eq_nil_iff.mp k.2.2; omega⟩)]
  | cons c r ih =>
    intro w pos same
    by_cases hc : c = 32
    · refine ⟨[], spl r, by rw [spl, if_pos hc], ?_⟩
      unfold wl
      rw [if_pos hc]
      obtain ⟨u, ws, e1, e2⟩ := ih (w + 1) 0 true
      by_cases h : same = true ∧ pos = tok.length
      · rw [if_pos h, if_pos ⟨h.1, by omega, by rw [List.drop_eq_nil_iff]; omega⟩]
      · rw [if_neg h, if_neg (fun k => h ⟨k.1, by have := List.drop_eq_nil_iff.mp k.2.2; omega⟩), e2, e1]
        conv => rhs; unfold widx
        by_cases h9 : tok = u
        · rw [if_pos ⟨rfl, Nat.zero_le _, h9⟩, if_pos h9]
        · rw [if_neg (fun k => h9 k.2.2), if_neg h9]
    · obtain ⟨u, ws, e1, e2⟩ := ih w (pos + 1) (same && decide (tok[pos]? = some c))
      refine ⟨c :: u, ws, by rw [spl, if_neg hc, e1], ?_⟩
      unfold wl
      rw [if_neg hc, e2]
      by_cases h : same = true ∧ pos ≤ tok.length ∧ tok.drop pos = c :: u
      · obtain ⟨k1, k2, k3⟩ := h
        have hp : pos < tok.length := by
          have := congrArg List.length k3
          simp at this
          omega
        rw [List.drop_eq_getElem_cons hp] at k3
        have k4 : tok[pos] = c := (List.cons.inj k3).1
        rw [if_pos ⟨by rw [k1, List.getElem?_eq_getElem hp, k4]; simp, hp, (List.cons.inj k3).2⟩, if_pos ⟨k1, k2, by rw [List.drop_eq_getElem_cons hp]; exact k3⟩]
      · rw [if_neg h]
        refine if_neg (fun k => h ?_)
        obtain ⟨k1, k2, k3⟩ := k
        have hp : pos < tok.length := by omega
        simp only [Bool.and_eq_true, decide_eq_true_eq, List.getElem?_eq_getElem hp, Option.some.injEq] at k1
        exact ⟨k1.1, by omega, by rw [List.drop_eq_getElem_cons hp, k1.2, k3]⟩
theorem which_of {T : Nat → Int32} {S : XS} {f t a : Nat} (ha : a < 28) (hft : f ≤ t) (ht : t ≤ 2000) (hT : ∀ j, xgi S 1 j = T j) (h2 : xgi S 2 2 = nI f) (h3 : xgi S 2 3 = nI t) : f_WO_whichOf S a = some (widx (spl (lit a)) (TK T f t) 0) := by
  have hlen := (lit_len a ha).2.1
  have h := wh_loop (T := T) ha hft ht hT h2 h3 (lit a).length 0 4096 0 0 true (by omega) (by omega) (by omega) (by omega) (by omega)
  obtain ⟨u, ws, e1, e2⟩ := wl_spl (TK T f t) (lit a) 0 0 true
  rw [List.drop_zero, e2] at h
  unfold f_WO_whichOf
  rw [h2]
  refine h.trans ?_
  rw [e1]
  conv => rhs; unfold widx
  by_cases h9 : TK T f t = u
  · rw [if_pos ⟨rfl, Nat.zero_le _, h9⟩, if_pos h9]
  · rw [if_neg (fun k => h9 k.2.2), if_neg h9]
/-! names and their numbers: one to one -/
def dgt (c : Int32) : Nat := if 97 ≤ c then c.toNatClampNeg - 96 else c.toNatClampNeg - 21
def cr : List Int32 → Nat
  | [] => 0
  | c :: r => cr r * 37 + dgt c
theorem dgt_of {u : Nat} (h : (97 ≤ u ∧ u ≤ 122) ∨ (48 ≤ u ∧ u ≤ 57)) : dgt (nI u) = (if 97 ≤ u then u - 96 else u - 21) ∧ chv (nI u) = lN (dgt (nI u)) := by
  have h2 : u < 128 := by omega
  have key : ∀ u, u < 128 → ((97 ≤ u ∧ u ≤ 122) ∨ (48 ≤ u ∧ u ≤ 57)) → (dgt (nI u) = (if 97 ≤ u then u - 96 else u - 21) ∧ chv (nI u) = lN (dgt (nI u))) := by decide +kernel
  exact key u h2 h
theorem dgt_in {c : Int32} (h : AN c) : 1 ≤ dgt c ∧ dgt c ≤ 36 := by
  obtain ⟨u, rfl, hu⟩ := h
  rw [(dgt_of hu).1]
  split <;> omega
theorem dgt_inj {c d : Int32} (h : AN c) (k : AN d) (e : dgt c = dgt d) : c = d := by
  obtain ⟨u, rfl, hu⟩ := h
  obtain ⟨w, rfl, hw⟩ := k
  rw [(dgt_of hu).1, (dgt_of hw).1] at e
  have : u = w := by
    split at e <;> split at e <;> omega
  rw [this]
theorem cr_inj : ∀ (l m : List Int32), (∀ c ∈ l, AN c) → (∀ c ∈ m, AN c) → cr l = cr m → l = m := by
  intro l
  induction l with
  | nil =>
    intro m _ hm e
    cases m with
    | nil => rfl
    | cons d r =>
      have := (dgt_in (hm d (List.mem_cons_self ..))).1
      simp only [cr] at e
      omega
  | cons c r ih =>
    intro m hl hm e
    have hc := dgt_in (hl c (List.mem_cons_self ..))
    cases m with
    | nil =>
      simp only [cr] at e
      omega
    | cons d r' =>
      have hd := dgt_in (hm d (List.mem_cons_self ..))
      simp only [cr] at e
      have e1 : dgt c = dgt d := by omega
      have e2 : cr r = cr r' := by omega
      rw [dgt_inj (hl c (List.mem_cons_self ..)) (hm d (List.mem_cons_self ..)) e1, ih r' (fun x hx => hl x (List.mem_cons_of_mem _ hx)) (fun x hx => hm x (List.mem_cons_of_mem _ hx)) e2]
theorem cr_lt : ∀ (l : List Int32), (∀ c ∈ l, AN c) → cr l < 37 ^ l.length := by
  intro l
  induction l with
  | nil => intro _; decide
  | cons c r ih =>
    intro h
    have h1 := ih (fun x hx => h x (List.mem_cons_of_mem _ hx))
    have h2 := dgt_in (h c (List.mem_cons_self ..))
    simp only [cr, List.length_cons, Nat.pow_succ]
    omega
theorem cod_cr : ∀ (l : List Int32), (∀ c ∈ l, AN c) → cod l.reverse = lN (cr l) := by
  intro l
  induction l with
  | nil => intro _; rfl
  | cons c r ih =>
    intro h
    rw [List.reverse_cons, cod_s, ih (fun x hx => h x (List.mem_cons_of_mem _ hx))]
    obtain ⟨u, e, hu⟩ := h c (List.mem_cons_self ..)
    simp only [cr]
    rw [e, (dgt_of hu).2, show (37 : Int64) = lN 37 from rfl, lN_mul, lN_add]
theorem cod_inj {l m : List Int32} (hl : ∀ c ∈ l, AN c) (hm : ∀ c ∈ m, AN c) (h1 : l.length ≤ 12) (h2 : m.length ≤ 12) (e : cod l = cod m) : l = m := by
  have hl' : ∀ c ∈ l.reverse, AN c := fun c hc => hl c (List.mem_reverse.mp hc)
  have hm' : ∀ c ∈ m.reverse, AN c := fun c hc => hm c (List.mem_reverse.mp hc)
  have a1 := cod_cr l.reverse hl'
  have a2 := cod_cr m.reverse hm'
  rw [List.reverse_reverse] at a1 a2
  have b1 := cr_lt l.reverse hl'
  have b2 := cr_lt m.reverse hm'
  rw [List.length_reverse] at b1 b2
  have b3 : 37 ^ l.length ≤ 37 ^ 12 := Nat.pow_le_pow_right (by decide) h1
  have b4 : 37 ^ m.length ≤ 37 ^ 12 := Nat.pow_le_pow_right (by decide) h2
  have b5 : 37 ^ 12 < 2 ^ 63 := by decide
  rw [a1, a2, pk_lEQ (by omega) (by omega)] at e
  have := cr_inj _ _ hl' hm' e
  rw [← List.reverse_reverse l, this, List.reverse_reverse]
