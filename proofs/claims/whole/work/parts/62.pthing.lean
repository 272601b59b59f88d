/-! a new thing -/
theorem TH.new {k ex : Nat} {so ix : Nat → Nat} {S M : XS} (hs : ∀ s, s < 6 → xgi S (8 + 21 * k + 3 * s) 4 = 0) (hm : ∀ s, s < 6 → xgi M 10 (6 * k + s) = 0) (h13 : xgi M 13 k = 0) : TH k 0 (fun _ => 0) so ix ex S M :=
  ⟨fun s h => ⟨Nat.zero_le _, hs s h, hm s h⟩, rfl, h13, fun q h => by omega, fun q h => by omega, fun s i _ h => absurd h (Nat.not_lt_zero _), fun q _ h => by omega⟩
theorem nR2 {k s : Nat} (hk : k < 8) (hs : s < 6) : ¬ xR (8 + 21 * k + 3 * s + 2) := by
  rintro (h | h | ⟨h1, h2, h3, h4⟩)
  · omega
  · omega
  · rw [show 8 + 21 * k + 3 * s + 2 - 5 = (5 + 3 * s) + 21 * k by omega, Nat.add_mul_mod_self_left, Nat.mod_eq_of_lt (by omega)] at h4
    omega
theorem TH.add {k n s : Nat} {c so ix : Nat → Nat} {S M S' M' : XS} {nm : Int64} (h : TH k n c so ix 1000 S M) (hs : s < 6) (hc : c s < ms s)
    (hnew : ∀ q, q < n → ¬ xgl M 17 (40 * k + q) = nm)
    (hS1 : ∀ i j, xgi S' i j = if i = 8 + 21 * k + 3 * s ∧ j = 4 then nI (c s + 1) else if i = 8 + 21 * k + 3 * s + 2 ∧ c s * wd s ≤ j ∧ j < c s * wd s + wd s then 0 else xgi S i j)
    (hS2 : ∀ i j, xgl S' i j = if i = 8 + 21 * k + 3 * s + 1 ∧ j = c s then nm else xgl S i j)
    (hM10 : xgi M' 10 (6 * k + s) = nI (c s + 1)) (hM10' : ∀ x, x < 6 → x ≠ s → xgi M' 10 (6 * k + x) = xgi M 10 (6 * k + x)) (hM13 : xgi M' 13 k = nI (n + 1))
    (hM14 : xgi M' 14 (40 * k + n) = nI s) (hM15 : xgi M' 15 (40 * k + n) = nI (c s)) (hM17 : xgl M' 17 (40 * k + n) = nm) (hM16 : ∀ v, v < 5 → xgi M' 16 (5 * (40 * k + n) + v) = 0)
    (hMq : ∀ q, q < n → xgi M' 14 (40 * k + q) = xgi M 14 (40 * k + q) ∧ xgi M' 15 (40 * k + q) = xgi M 15 (40 * k + q) ∧ xgl M' 17 (40 * k + q) = xgl M 17 (40 * k + q) ∧ ∀ v, v < 5 → xgi M' 16 (5 * (40 * k + q) + v) = xgi M 16 (5 * (40 * k + q) + v)) :
    TH k (n + 1) (fun x => if x = s then c s + 1 else c x) (fun q => if q = n then s else so q) (fun q => if q = n then c s else ix q) 1000 S' M' := by
  have hn := h.n_le
  obtain ⟨h1, h2, h3, h4, h5, h6, h7⟩ := h
  refine ⟨fun x hx => ?_, ?_, hM13, fun q hq => ?_, fun q hq _ v hv => ?_, fun x i hx hi => ?_, fun q q' hq hq' e => ?_⟩
  · show (if x = s then c s + 1 else c x) ≤ ms x ∧ _ = nI (if x = s then c s + 1 else c x) ∧ _ = nI (if x = s then c s + 1 else c x)
    by_cases e : x = s
    · subst e
      rw [if_pos rfl, hS1, if_pos ⟨rfl, rfl⟩, hM10]
      exact ⟨hc, rfl, rfl⟩
    · rw [if_neg e, hS1, if_neg (by omega), if_neg (by omega), hM10' x hx e]
      exact h1 x hx
  · have : s = 0 ∨ s = 1 ∨ s = 2 ∨ s = 3 ∨ s = 4 ∨ s = 5 := by omega
    rcases this with rfl | rfl | rfl | rfl | rfl | rfl <;> simp <;> omega
  · show (if q = n then s else so q) < 6 ∧ (if q = n then c s else ix q) < (if (if q = n then s else so q) = s then c s + 1 else c (if q = n then s else so q)) ∧ xgi M' 14 (40 * k + q) = nI (if q = n then s else so q) ∧ xgi M' 15 (40 * k + q) = nI (if q = n then c s else ix q) ∧ xgl S' (8 + 21 * k + 3 * (if q = n then s else so q) + 1) (if q = n then c s else ix q) = xgl M' 17 (40 * k + q)
    by_cases e : q = n
    · subst e
      simp only [if_true]
      refine ⟨hs, by omega, hM14, hM15, ?_⟩
      rw [hS2, if_pos ⟨rfl, rfl⟩, hM17]
    · simp only [if_neg e]
      obtain ⟨g1, g2, g3, g4, g5⟩ := h4 q (by omega)
      obtain ⟨m1, m2, m3, m4⟩ := hMq q (by omega)
      refine ⟨g1, ?_, m1.trans g3, m2.trans g4, ?_⟩
      · split
        · rename_i e9
          rw [e9] at g2
          omega
        · exact g2
      · rw [hS2, if_neg (fun e9 => ?_), g5, m3]
        have e8 : so q = s := by omega
        rw [e8] at g2
        omega
  · show xgi S' (8 + 21 * k + 3 * (if q = n then s else so q) + 2) ((if q = n then c s else ix q) * wd (if q = n then s else so q) + v) = _
    change v < wd (if q = n then s else so q) at hv
    by_cases e : q = n
    · subst e
      simp only [if_true] at hv ⊢
      rw [hS1, if_neg (by omega), if_pos (by omega), hM16 v (by have := wd_le s; omega)]
    · simp only [if_neg e] at hv ⊢
      obtain ⟨g1, g2, g3, g4, g5⟩ := h4 q (by omega)
      obtain ⟨m1, m2, m3, m4⟩ := hMq q (by omega)
      rw [hS1, if_neg (by omega), if_neg (fun e9 => ?_), m4 v (by have := wd_le (so q); omega)]
      · exact h5 q (by omega) (by omega) v hv
      · have e8 : so q = s := by omega
        rw [e8] at g2 hv e9
        have := Nat.mul_le_mul_right (wd s) (show ix q + 1 ≤ c s by omega)
        rw [Nat.add_mul, Nat.one_mul] at this
        omega
  · change i < (if x = s then c s + 1 else c x) at hi
    by_cases e : x = s ∧ i = c s
    · exact ⟨n, by omega, by simp [e.1], by simp [e.2]⟩
    · have hi2 : i < c x := by
        by_cases e2 : x = s
        · rw [if_pos e2] at hi
          subst e2
          have : i ≠ c x := fun e3 => e ⟨rfl, e3⟩
          omega
        · rw [if_neg e2] at hi
          exact hi
      obtain ⟨q, g1, g2, g3⟩ := h6 x i hx hi2
      refine ⟨q, by omega, ?_, ?_⟩
      · show (if q = n then s else so q) = x
        rw [if_neg (by omega)]; exact g2
      · show (if q = n then c s else ix q) = i
        rw [if_neg (by omega)]; exact g3
  · by_cases e1 : q = n
    · by_cases e2 : q' = n
      · omega
      · subst e1
        rw [hM17, (hMq q' (by omega)).2.2.1] at e
        exact absurd e.symm (hnew q' (by omega))
    · by_cases e2 : q' = n
      · subst e2
        rw [hM17, (hMq q (by omega)).2.2.1] at e
        exact absurd e (hnew q (by omega))
      · rw [(hMq q (by omega)).2.2.1, (hMq q' (by omega)).2.2.1] at e
        exact h7 q q' (by omega) (by omega) e
/-! while a partition is read -/
def CR (S M : XS) : Prop := (xgi S 173 4 = 0 ∧ xgi S 176 4 = 0 ∧ xgi S 3 4 = 0 ∧ xgi S 3 5 = 0 ∧ xgi S 3 6 = 0) ∧ (xgi M 0 29 = 0 ∧ xgi M 0 30 = 0 ∧ xgi M 0 31 = 0 ∧ xgi M 0 32 = 0 ∧ xgi M 0 33 = 0)
def PF (k : Nat) (S M : XS) : Prop := PB k S M ∧ xgi S (5 + 21 * k) 1 = xgi M 6 k ∧ ∃ n c so ix, TH k n c so ix 1000 S M
def DN (m : Nat) (S M : XS) : Prop := ∀ k, k < m → PF k S M
def IP (p n : Nat) (c so ix : Nat → Nat) (ex : Nat) (S M : XS) : Prop := p < 8 ∧ DN p S M ∧ PB p S M ∧ TH p n c so ix ex S M ∧ CR S M ∧ xgi S 3 1 = nI (p + 1) ∧ xgi M 0 15 = nI (p + 1) ∧ xgi S 179 2 = xgi M 11 p ∧ xgi S 179 3 = xgi M 8 p
def IM (p : Nat) (S M : XS) : Prop := xgi S (5 + 21 * p) 1 = xgi M 6 p
section Ip
variable {T : Nat → Int32} {E t κ : Nat} {v : Int64} {p n ex : Nat} {c so ix : Nat → Nat} {S M S' M' : XS}
theorem PF.cg {k : Nat} (h : PF k S M) (hs : SA k S S') (hm : MA k M M') : PF k S' M' := by
  obtain ⟨h1, h2, n, c, so, ix, h3⟩ := h
  refine ⟨h1.cg hs hm, ?_, n, c, so, ix, h3.cg hs hm⟩
  rw [(hs (5 + 21 * k) (by omega) (by omega) 1).1, hm.2.2.2.2.2.2.1]
  exact h2
theorem DN.cg {m : Nat} (h : DN m S M) (hs : ∀ k, k < m → SA k S S') (hm : ∀ k, k < m → MA k M M') : DN m S' M' := fun k hk => (h k hk).cg (hs k hk) (hm k hk)
theorem DN.fs {m : Nat} (h : DN m S M) (hs : FS S S') (hm : FM M M') : DN m S' M' := h.cg (fun _ _ => SA.fs hs) (fun _ _ => MA.fm hm)
theorem CR.fs (h : CR S M) (hs : FS S S') (hm : FM M M') : CR S' M' := by
  unfold CR
  rw [hs.1 173 4 (by decide), hs.1 176 4 (by decide), hs.1 3 4 (by decide), hs.1 3 5 (by decide), hs.1 3 6 (by decide), hm.2.1 29 (by decide), hm.2.1 30 (by decide), hm.2.1 31 (by decide), hm.2.1 32 (by decide), hm.2.1 33 (by decide)]
  exact h
theorem IP.fs (h : IP p n c so ix ex S M) (hs : FS S S') (hm : FM M M') : IP p n c so ix ex S' M' := by
  obtain ⟨h1, h2, h3, h4, h5, h6, h7, h8, h9⟩ := h
  refine ⟨h1, h2.fs hs hm, h3.cg (SA.fs hs) (MA.fm hm), h4.cg (SA.fs hs) (MA.fm hm), h5.fs hs hm, ?_, ?_, ?_, ?_⟩
  · rw [hs.1 3 1 (by decide)]; exact h6
  · rw [hm.2.1 15 (by decide)]; exact h7
  · rw [hs.1 179 2 (by decide), hm.1 11 p (by decide)]; exact h8
  · rw [hs.1 179 3 (by decide), hm.1 8 p (by decide)]; exact h9
theorem IM.fs (h : IM p S M) (hs : FS S S') (hm : FM M M') : IM p S' M' := by
  unfold IM
  rw [hs.1 _ 1 (by omega), hm.1 6 p (by decide)]
  exact h
theorem IP.exS (h : IP p n c so ix ex S M) (hex : ex < n) {v : Nat} (hv : v < wd (so ex)) (x : Int32) : IP p n c so ix ex (xpi S (8 + 21 * p + 3 * so ex + 2) (ix ex * wd (so ex) + v) x) M := by
  obtain ⟨h1, h2, h3, h4, h5, h6, h7, h8, h9⟩ := h
  have hso := (h4.2.2.2.1 ex hex).1
  refine ⟨h1, h2.cg (fun k hk => SA.pi (by omega)) (fun _ _ => MA.rf), ?_, h4.exS hex hv x, ?_, ?_, h7, ?_, ?_⟩
  · refine ⟨h3.1, ?_, fun j hj => ?_⟩
    · rw [gii, if_neg (by omega)]; exact h3.2.1
    · rw [gii, if_neg (by omega)]; exact h3.2.2 j hj
  · unfold CR
    rw [gii, if_neg (by omega), gii, if_neg (by omega), gii, if_neg (by omega), gii, if_neg (by omega), gii, if_neg (by omega)]
    exact h5
  · rw [gii, if_neg (by omega)]; exact h6
  · rw [gii, if_neg (by omega)]; exact h8
  · rw [gii, if_neg (by omega)]; exact h9
theorem IP.exM (h : IP p n c so ix ex S M) (hex : ex < n) {v : Nat} (hv : v < 5) (x : Int32) : IP p n c so ix ex S (xpi M 16 (5 * (40 * p + ex) + v) x) := by
  obtain ⟨h1, h2, h3, h4, h5, h6, h7, h8, h9⟩ := h
  have hn := h4.n_le
  exact ⟨h1, h2.cg (fun _ _ => SA.rf) (fun k hk => MA.pi (by omega) (by omega) (by omega) (by omega) (by omega)), h3, h4.exM hv x, h5, h6, h7, h8, h9⟩
theorem IP.opn (h : IP p n c so ix 1000 S M) (ex : Nat) : IP p n c so ix ex S M := by
  obtain ⟨h1, h2, h3, h4, h5, h6, h7, h8, h9⟩ := h
  exact ⟨h1, h2, h3, h4.opn ex, h5, h6, h7, h8, h9⟩
theorem IP.cls (h : IP p n c so ix ex S M) (hv : ∀ v, v < wd (so ex) → xgi S (8 + 21 * p + 3 * so ex + 2) (ix ex * wd (so ex) + v) = xgi M 16 (5 * (40 * p + ex) + v)) : IP p n c so ix 1000 S M := by
  obtain ⟨h1, h2, h3, h4, h5, h6, h7, h8, h9⟩ := h
  exact ⟨h1, h2, h3, h4.close hv, h5, h6, h7, h8, h9⟩
/-! the reference makes a thing -/
theorem mo_127 {p s K : Nat} (hp : p < 8) (hs : s < 6) (hK : K < 320) : ∀ (d a m : Nat) (M : XS), 5 - a = d → a ≤ 5 → d < m → ∃ M2, f_MO_newThing_127 m M (nI p) (nI s) (nI K) (nI a) = (f_MO_next M2).bind (fun q => some (nI K, q)) ∧ (∀ i j, xgi M2 i j = if i = 10 ∧ j = 6 * p + s then xgi M 10 (6 * p + s) + 1 else if i = 13 ∧ j = p then xgi M 13 p + 1 else if i = 16 ∧ 5 * K + a ≤ j ∧ j < 5 * K + 5 then 0 else xgi M i j) ∧ (∀ i j, xgl M2 i j = xgl M i j) := by
  intro d
  induction d with
  | zero =>
    intro a m M hd ha hm
    obtain ⟨m, rfl⟩ : ∃ k, m = k + 1 := ⟨m - 1, by omega⟩
    unfold f_MO_newThing_127
    rw [if_pos (by rw [ge_lit (x := 5) (n := 5) (by omega) (by omega) rfl]; omega), if_pos (nI_in hp (by omega)), if_pos (nI_in hp (by omega)), show (6 : Int32) = nI 6 from rfl, pk_mul, nI_add, if_pos (nI_in (by omega) (by omega)), if_pos (nI_in (by omega) (by omega)), nI_clamp (by omega), nI_clamp (by omega)]
    refine ⟨_, rfl, fun i j => ?_, fun _ _ => rfl⟩
    rw [gii, gii, gii]
    by_cases h1 : i = 10 ∧ j = 6 * p + s
    · rw [if_pos h1, if_pos h1, if_neg (by omega)]
    · rw [if_neg h1, if_neg h1]
      by_cases h2 : i = 13 ∧ j = p
      · rw [if_pos h2, if_pos h2]
      · rw [if_neg h2, if_neg h2, if_neg (by omega)]
  | succ d ih =>
    intro a m M hd ha hm
    obtain ⟨m, rfl⟩ : ∃ k, m = k + 1 := ⟨m - 1, by omega⟩
    unfold f_MO_newThing_127
    rw [if_neg (by rw [ge_lit (x := 5) (n := 5) (by omega) (by omega) rfl]; omega), show (5 : Int32) = nI 5 from rfl, pk_mul, nI_add, if_pos (nI_in (by omega) (by omega)), nI_clamp (by omega), nI_1]
    obtain ⟨M2, e1, e2, e3⟩ := ih (a + 1) m (xpi M 16 (5 * K + a) 0) (by omega) (by omega) (by omega)
    refine ⟨M2, e1, fun i j => ?_, fun i j => e3 i j⟩
    have q10 : xgi (xpi M 16 (5 * K + a) 0) 10 (6 * p + s) = xgi M 10 (6 * p + s) := by rw [gii, if_neg (by omega)]
    have q13 : xgi (xpi M 16 (5 * K + a) 0) 13 p = xgi M 13 p := by rw [gii, if_neg (by omega)]
    rw [e2, q10, q13, gii]
    by_cases h1 : i = 10 ∧ j = 6 * p + s
    · rw [if_pos h1, if_pos h1]
    · rw [if_neg h1, if_neg h1]
      by_cases h2 : i = 13 ∧ j = p
      · rw [if_pos h2, if_pos h2]
      · rw [if_neg h2, if_neg h2]
        by_cases h3 : i = 16 ∧ 5 * K + a ≤ j ∧ j < 5 * K + 5
        · rw [if_pos h3]
          by_cases h4 : j = 5 * K + a
          · rw [if_neg (by omega), if_pos ⟨h3.1, h4⟩]
          · rw [if_pos (by omega)]
        · rw [if_neg h3, if_neg (by omega), if_neg (by omega)]
theorem dn69 (h : XX T E S M) (hh : ¬ xgi M 0 11 = 0) (a b : Int32) : OK (f_MO_newThing_69 M a b) (fun q => XX T E S q.2 ∧ q.1 = -1) := by
  unfold f_MO_newThing_69
  rw [d_hard hh, Option.bind_some, if_pos rfl]
  exact OK.mk ⟨h, rfl⟩
theorem dn40 (h : XX T E S M) (hh : ¬ xgi M 0 11 = 0) (a b : Int32) : OK (f_MO_newThing_40 M a b) (fun q => XX T E S q.2 ∧ q.1 = -1) := by
  unfold f_MO_newThing_40
  rw [d_hard hh, Option.bind_some, if_pos rfl]
  exact dn69 h hh a b
theorem dn27 (h : XX T E S M) (a b : Int32) : OK (f_MO_newThing_27 M a b) (fun q => XX T E S q.2 ∧ q.1 = -1) := by
  unfold f_MO_newThing_27
  split
  · rename_i e
    rcases d_good h with ⟨g1, g2⟩ | ⟨g1, g2, g3⟩
    · exact dn40 h g2 a b
    · rw [e] at g3
      exact absurd g3 (by decide)
  · exact (d_bad h 1).bind (fun M' k => dn40 k.1 k.2.2 a b)
theorem most_of {s : Nat} (hs : s < 6) : f_MO_most M (nI s) = some (nI (ms s)) := by
  have : s = 0 ∨ s = 1 ∨ s = 2 ∨ s = 3 ∨ s = 4 ∨ s = 5 := by omega
  rcases this with rfl | rfl | rfl | rfl | rfl | rfl <;> rfl
def QT (T : Nat → Int32) (E t p n s : Nat) (c so ix : Nat → Nat) (S M : XS) (S' M' : XS) : Prop :=
  (∃ t' κ' v', t < t' ∧ AL T E t' κ' v' S' M') ∧ IP p (n + 1) (fun x => if x = s then c s + 1 else c x) (fun q => if q = n then s else so q) (fun q => if q = n then c s else ix q) 1000 S' M' ∧ (IM p S M → IM p S' M') ∧ (∀ v, v < wd s → xgi S' (8 + 21 * p + 3 * s + 2) (c s * wd s + v) = 0) ∧ (∀ v, v < 5 → xgi M' 16 (5 * (40 * p + n) + v) = 0) ∧ n < 32 ∧ c s < ms s
theorem s_new (h : AL T E t κ v S M) (hI : IP p n c so ix 1000 S M) {s : Nat} (hs : s < 6) : SM (f_RD_nameThing S (5 + 21 * p) (nI s)) (f_MO_newThing M (nI p) (nI s)) (fun r S' b => r = 8 + 21 * p + 3 * s ∧ b.1 = nI (40 * p + n) ∧ QT T E t p n s c so ix S M S' b.2) (fun S' b => XX T E S' b.2 ∧ (b.1 = -1 ∨ (b.1 = nI (40 * p + n) ∧ n < 32))) := by
  have hp := hI.1
  unfold f_RD_nameThing f_MO_newThing
  rw [if_pos (cpP hp), if_pos (nI_in hs (by omega)), nI_clamp (by omega), rw_eq]
  refine (s_nx h).bind (fun _ S1 M1 k1 => ?_) (fun S' M1 k => ?_)
  · obtain ⟨a1, a2, t1, κ1, v1, a3, a4, a5⟩ := k1
    have hI1 := hI.fs a1 a2
    have hTH := hI1.2.2.2.1
    have hn := hTH.n_le
    obtain ⟨c1, c2, c3⟩ := hTH.1 s hs
    have hms := ms_le s hs
    have hKS := a5.2.2.1.2.2.2 _ (rwR hp hs)
    rw [(rwQ hp hs).1, (rwQ hp hs).2] at hKS
    rw [if_pos (rwR hp hs), show (6 : Int32) = nI 6 from rfl, pk_mul, nI_add, if_pos (nI_in (by omega) (by omega)), nI_clamp (by omega), most_of hs, Option.bind_some, ro_full (rwR hp hs) hKS.1 c2 (by omega) (by omega), Option.bind_some, c3]
    by_cases hfull : c s < ms s
    · rw [if_pos hfull, if_pos rfl, if_neg (by rw [nI_eq (by omega) (by omega)]; omega)]
      unfold f_RD_nameThing_29 f_MO_newThing_27
      rcases al_name a5 with ⟨e1, e2, e3, e4, e5⟩ | ⟨e1, e2⟩
      · rw [e3, if_pos rfl, e5, Option.bind_some]
        show SM (if xP (5 + 21 * p) then _ else _) _ _ _
        rw [if_pos (cpP hp)]
        unfold f_MO_newThing_40
        rw [al_good a5, Option.bind_some, if_neg (by decide), e4]
        unfold f_PA_hasThing f_MO_find
        have hfd := mo_find hp (by omega) hTH.2.2.1 v1 n 0 4096 rfl (by omega) (by omega)
        have hhs := pa_has hp (fun x hx => ⟨(hTH.1 x hx).1, (hTH.1 x hx).2.1⟩) v1 6 0 4096 rfl (by omega) (by omega)
        rw [Nat.add_zero] at hfd
        rw [show (40 : Int32) = nI 40 from rfl, pk_mul]
        have hboth : (f_PA_hasThing_2 4096 S1 (5 + 21 * p) v1 (0 : Int32) = some 0 ∧ f_MO_find_6 4096 M1 (nI p) v1 (nI (40 * p)) = some (-1) ∧ ∀ q, q < n → ¬ xgl M1 17 (40 * p + q) = v1) ∨ (f_PA_hasThing_2 4096 S1 (5 + 21 * p) v1 (0 : Int32) = some 1 ∧ ∃ q, q < n ∧ f_MO_find_6 4096 M1 (nI p) v1 (nI (40 * p)) = some (nI (40 * p + q))) := by
          rcases hfd with ⟨f1, f2⟩ | ⟨q, f1, f2, f3, f4⟩
          · rcases hhs with ⟨g1, g2⟩ | ⟨g1, s', i', g2, g3, g4⟩
            · exact Or.inl ⟨g1, f1, fun q hq => f2 q (by omega) hq⟩
            · exfalso
              obtain ⟨q, q1, q2, q3⟩ := hTH.2.2.2.2.2.1 s' i' g2 g3
              have := (hTH.2.2.2.1 q q1).2.2.2.2
              rw [q2, q3, g4] at this
              exact f2 q (by omega) q1 this.symm
          · rcases hhs with ⟨g1, g2⟩ | ⟨g1, g2⟩
            · exfalso
              obtain ⟨b1, b2, b3, b4, b5⟩ := hTH.2.2.2.1 q f2
              exact g2 (so q) (ix q) (by omega) b1 b2 (b5.trans f4)
            · exact Or.inr ⟨g1, q, f2, f3⟩
        rcases hboth with ⟨g1, g2, g3⟩ | ⟨g1, q, g2, g3⟩
        · -- a new name
          rw [g1, g2, Option.bind_some, Option.bind_some, if_pos rfl, if_pos rfl]
          unfold f_RD_nameThing_55 f_MO_newThing_69
          rw [if_pos (rwR hp hs), al_good a5, Option.bind_some, if_neg (by decide), if_pos (nI_in hp (by omega)), nI_clamp (by omega), hTH.2.2.1, show (40 : Int32) = nI 40 from rfl, pk_mul, nI_add, if_pos (nI_in (by omega) (by omega)), if_pos (nI_in (by omega) (by omega)), show (6 : Int32) = nI 6 from rfl, pk_mul, nI_add, if_pos (nI_in (by omega) (by omega)), if_pos (nI_in (by omega) (by omega)), nI_clamp (by omega), nI_clamp (by omega), e4]
          obtain ⟨S2, r1, r2, r3⟩ := ro_add (rwR hp hs) (rwQ hp hs).1 (rwQ hp hs).2 hKS.1 hKS.2 c2 hfull (by omega) (by omega) v1 0
          obtain ⟨M2, m1, m2, m3⟩ := mo_127 (K := 40 * p + n) hp hs (by omega) 5 0 4096 (xpi (xpi (xpl M1 17 (40 * p + n) v1) 14 (40 * p + n) (nI s)) 15 (40 * p + n) (xgi (xpi (xpl M1 17 (40 * p + n) v1) 14 (40 * p + n) (nI s)) 10 (6 * p + s))) rfl (by omega) (by omega)
          rw [r1, Option.bind_some, show (0 : Int32) = nI 0 from rfl, m1]
          have hA2 : AL T E t1 κ1 v1 S2 M2 := by
            refine a5.set ⟨fun j => ?_, ?_, ?_, fun i hi => ⟨?_, ?_⟩⟩ ⟨fun j => ?_, ?_, fun j => ?_, fun j => ?_, fun j => ?_⟩ (fun j => ?_) ?_ (fun j h1 h2 => ?_) ?_
            · rw [r2, if_neg (by omega), if_neg (by omega)]; exact a5.2.2.1.1 j
            · rw [r2, if_neg (by omega), if_neg (by omega)]; exact a5.2.2.1.2.1
            · rw [r2, if_neg (by omega), if_neg (by omega)]; exact a5.2.2.1.2.2.1
            · rw [r2, if_neg (by omega), if_neg (fun e => nR2 hp hs (by rw [← e.1]; exact hi))]; exact (a5.2.2.1.2.2.2 i hi).1
            · rw [r2, if_neg (by omega), if_neg (fun e => nR2 hp hs (by rw [← e.1]; exact hi))]; exact (a5.2.2.1.2.2.2 i hi).2
            · rw [m2, if_neg (by omega), if_neg (by omega), if_neg (by omega)]; exact a5.2.2.2.1.1 j
            · rw [m2, if_neg (by omega), if_neg (by omega), if_neg (by omega)]; exact a5.2.2.2.1.2.1
            · rw [m3]; exact (a5.2.2.2.1.2.2.1 j)
            · rw [m3]; exact (a5.2.2.2.1.2.2.2.1 j)
            · rw [m3]; exact (a5.2.2.2.1.2.2.2.2 j)
            · rw [r2, if_neg (by omega), if_neg (by omega)]
            · rw [r3, if_neg (by omega)]
            · rw [m2, if_neg (by omega), if_neg (by omega), if_neg (by omega)]
              rw [gii, if_neg (by omega), gii, if_neg (by omega)]
              rfl
            · rw [m3]; rfl
          have hg : ∀ i j, ¬ (i = 14 ∨ i = 15) → xgi (xpi (xpi (xpl M1 17 (40 * p + n) v1) 14 (40 * p + n) (nI s)) 15 (40 * p + n) (xgi (xpi (xpl M1 17 (40 * p + n) v1) 14 (40 * p + n) (nI s)) 10 (6 * p + s))) i j = xgi M1 i j := by
            intro i j hij
            rw [gii, if_neg (by omega), gii, if_neg (by omega)]
            rfl
          have hI2 : IP p (n + 1) (fun x => if x = s then c s + 1 else c x) (fun q => if q = n then s else so q) (fun q => if q = n then c s else ix q) 1000 S2 M2 := by
            obtain ⟨i1, i2, i3, i4, i5, i6, i7, i8, i9⟩ := hI1
            have hSA : ∀ k, k ≠ p → SA k S1 S2 := fun k hk i b1 b2 j => ⟨by rw [r2, if_neg (by omega), if_neg (by omega)], by rw [r3, if_neg (by omega)]⟩
            have hMA : ∀ k, k ≠ p → MA k M1 M2 := fun k hk => by
              refine ⟨fun x hx => ?_, ?_, fun q hq => ⟨?_, ?_, ?_⟩, fun j b1 b2 => ?_, ?_, ?_, ?_, fun j hj => ?_⟩
              · rw [m2, if_neg (by omega), if_neg (by omega), if_neg (by omega), hg _ _ (by omega)]
              · rw [m2, if_neg (by omega), if_neg (by omega), if_neg (by omega), hg _ _ (by omega)]
              · rw [m2, if_neg (by omega), if_neg (by omega), if_neg (by omega), gii, if_neg (by omega), gii, if_neg (by omega)]; rfl
              · rw [m2, if_neg (by omega), if_neg (by omega), if_neg (by omega), gii, if_neg (by omega), gii, if_neg (by omega)]; rfl
              · rw [m3, gli, gli, gll, if_neg (by omega)]
              · rw [m2, if_neg (by omega), if_neg (by omega), if_neg (by omega), hg _ _ (by omega)]
              · rw [m3, gli, gli, gll, if_neg (by omega)]
              · rw [m2, if_neg (by omega), if_neg (by omega), if_neg (by omega), hg _ _ (by omega)]
              · rw [m2, if_neg (by omega), if_neg (by omega), if_neg (by omega), hg _ _ (by omega)]
              · rw [m2, if_neg (by omega), if_neg (by omega), if_neg (by omega), hg _ _ (by omega)]
            refine ⟨i1, i2.cg (fun k hk => hSA k (by omega)) (fun k hk => hMA k (by omega)), ⟨?_, ?_, fun j hj => ?_⟩, ?_, ?_, ?_, ?_, ?_, ?_⟩
            · rw [r3, if_neg (by omega), m3, gli, gli, gll, if_neg (by omega)]; exact i3.1
            · rw [r2, if_neg (by omega), if_neg (by omega), m2, if_neg (by omega), if_neg (by omega), if_neg (by omega), hg _ _ (by omega)]; exact i3.2.1
            · rw [r2, if_neg (by omega), if_neg (by omega), m2, if_neg (by omega), if_neg (by omega), if_neg (by omega), hg _ _ (by omega)]; exact i3.2.2 j hj
            · refine i4.add hs hfull g3 r2 r3 ?_ (fun x hx hne => ?_) ?_ ?_ ?_ ?_ (fun w hw => ?_) (fun q hq => ⟨?_, ?_, ?_, fun w hw => ?_⟩)
              · rw [m2, if_pos ⟨rfl, rfl⟩, hg _ _ (by omega), c3, nI_1]
              · rw [m2, if_neg (by omega), if_neg (by omega), if_neg (by omega), hg _ _ (by omega)]
              · rw [m2, if_neg (by omega), if_pos ⟨rfl, rfl⟩, hg _ _ (by omega), i4.2.2.1, nI_1]
              · rw [m2, if_neg (by omega), if_neg (by omega), if_neg (by omega), gii, if_neg (by omega), gii, if_pos ⟨rfl, rfl⟩]
              · rw [m2, if_neg (by omega), if_neg (by omega), if_neg (by omega), gii, if_pos ⟨rfl, rfl⟩]
                rw [gii, if_neg (by omega)]
                exact c3
              · rw [m3, gli, gli, gll, if_pos ⟨rfl, rfl⟩]
              · rw [m2, if_neg (by omega), if_neg (by omega), if_pos (by omega)]
              · rw [m2, if_neg (by omega), if_neg (by omega), if_neg (by omega), gii, if_neg (by omega), gii, if_neg (by omega)]; rfl
              · rw [m2, if_neg (by omega), if_neg (by omega), if_neg (by omega), gii, if_neg (by omega), gii, if_neg (by omega)]; rfl
              · rw [m3, gli, gli, gll, if_neg (by omega)]
              · rw [m2, if_neg (by omega), if_neg (by omega), if_neg (by omega), hg _ _ (by omega)]
            · unfold CR
              rw [r2, if_neg (by omega), if_neg (by omega), r2, if_neg (by omega), if_neg (by omega), r2, if_neg (by omega), if_neg (by omega), r2, if_neg (by omega), if_neg (by omega), r2, if_neg (by omega), if_neg (by omega)]
              refine ⟨i5.1, ?_⟩
              rw [m2, if_neg (by omega), if_neg (by omega), if_neg (by omega), hg _ _ (by omega), m2, if_neg (by omega), if_neg (by omega), if_neg (by omega), hg _ _ (by omega), m2, if_neg (by omega), if_neg (by omega), if_neg (by omega), hg _ _ (by omega), m2, if_neg (by omega), if_neg (by omega), if_neg (by omega), hg _ _ (by omega), m2, if_neg (by omega), if_neg (by omega), if_neg (by omega), hg _ _ (by omega)]
              exact i5.2
            · rw [r2, if_neg (by omega), if_neg (by omega)]; exact i6
            · rw [m2, if_neg (by omega), if_neg (by omega), if_neg (by omega), hg _ _ (by omega)]; exact i7
            · rw [r2, if_neg (by omega), if_neg (by omega), m2, if_neg (by omega), if_neg (by omega), if_neg (by omega), hg _ _ (by omega)]; exact i8
            · rw [r2, if_neg (by omega), if_neg (by omega), m2, if_neg (by omega), if_neg (by omega), if_neg (by omega), hg _ _ (by omega)]; exact i9
          have hn2 : n < 32 := by have := hI2.2.2.2.1.n_le; omega
          refine (s_nx hA2).bind (fun _ S3 M3 k3 => ?_) (fun S' M3 k => OK.mk ⟨k, Or.inr ⟨rfl, hn2⟩⟩)
          obtain ⟨b1, b2, t3, κ3, v3, b3, b4, b5⟩ := k3
          refine SM.ret ⟨rfl, rfl, ⟨t3, κ3, v3, by have := a4 (by omega); omega, b5⟩, hI2.fs b1 b2, fun hm => ?_, fun w hw => ?_, fun w hw => ?_, hn2, hfull⟩
          · have hm1 := hm.fs a1 a2
            unfold IM at hm1 ⊢
            rw [b1.1 _ _ (by omega), b2.1 _ _ (by decide), r2, if_neg (by omega), if_neg (by omega), m2, if_neg (by omega), if_neg (by omega), if_neg (by omega), hg _ _ (by omega)]
            exact hm1
          · rw [b1.1 _ _ (by omega), r2, if_neg (by omega), if_pos (by omega)]
          · rw [b2.1 _ _ (by decide), m2, if_neg (by omega), if_neg (by omega), if_pos (by omega)]
        · rw [g1, g3, Option.bind_some, Option.bind_some, if_neg (by decide), if_neg (fun e => nI_pos (n := 40 * p + q) (by omega) (by rw [e]; decide)), fail_b, al_fail a5, Option.bind_some]
          exact SM.thr ((dn69 (al_xx a5 (by decide)) (by show ¬ (3 : Int32) = 0; decide) _ _).imp (fun q g => ⟨g.1, Or.inl g.2⟩))
      · rw [e2, if_neg e1, al_bad a5, Option.bind_some, Option.bind_some]
        exact SM.thr ((dn40 (al_xx a5 (by decide)) (by show ¬ (1 : Int32) = 0; decide) _ _).imp (fun q g => ⟨g.1, Or.inl g.2⟩))
    · rw [if_neg hfull, if_neg (by decide), if_pos (by rw [nI_eq (by omega) (by omega)]; omega), fail_b, al_bad a5, Option.bind_some]
      exact SM.thr ((dn27 (al_xx a5 (by decide)) _ _).imp (fun q g => ⟨g.1, Or.inl g.2⟩))
  · rw [show (6 : Int32) = nI 6 from rfl, pk_mul, nI_add, if_pos (nI_in (by omega) (by omega)), most_of hs, Option.bind_some]
    split
    · exact (d_bad k 4).bind (fun M' g => (dn27 g.1 _ _).imp (fun q g => ⟨g.1, Or.inl g.2⟩))
    · exact (dn27 k _ _).imp (fun q g => ⟨g.1, Or.inl g.2⟩)
end Ip
