/-! the pure part: both worlds' words over states of numbers -/
theorem gii (S : XS) (i j : Nat) (v : Int32) (a b : Nat) : xgi (xpi S i j v) a b = if a = i ∧ b = j then v else xgi S a b := rfl
theorem gli (S : XS) (i j : Nat) (v : Int32) (a b : Nat) : xgl (xpi S i j v) a b = xgl S a b := rfl
theorem gil (S : XS) (i j : Nat) (v : Int64) (a b : Nat) : xgi (xpl S i j v) a b = xgi S a b := rfl
theorem gll (S : XS) (i j : Nat) (v : Int64) (a b : Nat) : xgl (xpl S i j v) a b = if a = i ∧ b = j then v else xgl S a b := rfl
def OK {α : Type} (o : Option α) (Q : α → Prop) : Prop := ∃ a, o = some a ∧ Q a
theorem OK.mk {α : Type} {a : α} {Q : α → Prop} (h : Q a) : OK (some a) Q := ⟨a, rfl, h⟩
theorem OK.bind {α β : Type} {o : Option α} {k : α → Option β} {P : α → Prop} {Q : β → Prop} (h : OK o P) (hk : ∀ a, P a → OK (k a) Q) : OK (o.bind k) Q := by
  obtain ⟨a, rfl, hp⟩ := h
  exact hk a hp
theorem OK.imp {α : Type} {o : Option α} {P Q : α → Prop} (h : OK o P) (hk : ∀ a, P a → Q a) : OK o Q := by
  obtain ⟨a, rfl, hp⟩ := h
  exact ⟨a, rfl, hk a hp⟩
/-- the class's word o (it may throw) beside the reference's word m -/
def SM {α β : Type} (o : Option ((α × XS) ⊕ XS)) (m : Option β) (Q : α → XS → β → Prop) (X : XS → β → Prop) : Prop :=
  ∃ b, m = some b ∧ ((∃ a S', o = some (.inl (a, S')) ∧ Q a S' b) ∨ (∃ S', o = some (.inr S') ∧ X S' b))
theorem SM.ret {α β : Type} {a : α} {S : XS} {b : β} {Q : α → XS → β → Prop} {X : XS → β → Prop} (h : Q a S b) : SM (some (.inl (a, S))) (some b) Q X := ⟨b, rfl, Or.inl ⟨a, S, rfl, h⟩⟩
theorem SM.thr {α β : Type} {S : XS} {m : Option β} {Q : α → XS → β → Prop} {X : XS → β → Prop} (h : OK m (X S)) : SM (some (.inr S) : Option ((α × XS) ⊕ XS)) m Q X := by
  obtain ⟨b, rfl, hx⟩ := h
  exact ⟨b, rfl, Or.inr ⟨S, rfl, hx⟩⟩
theorem SM.bind {α β γ δ : Type} {o : Option ((α × XS) ⊕ XS)} {m : Option β} {Q : α → XS → β → Prop} {X : XS → β → Prop} {k : α → XS → Option ((γ × XS) ⊕ XS)} {g : β → Option δ} {Q2 : γ → XS → δ → Prop} {X2 : XS → δ → Prop} (h : SM o m Q X) (k1 : ∀ a S' b, Q a S' b → SM (k a S') (g b) Q2 X2) (k2 : ∀ S' b, X S' b → OK (g b) (X2 S')) : SM (o.bind (xT2 k)) (m.bind g) Q2 X2 := by
  obtain ⟨b, rfl, ⟨a, S', rfl, hq⟩ | ⟨S', rfl, hx⟩⟩ := h
  · exact k1 a S' b hq
  · obtain ⟨d, hd, hx2⟩ := k2 S' b hx
    exact ⟨d, hd, Or.inr ⟨S', rfl, hx2⟩⟩
theorem SM.imp {α β : Type} {o : Option ((α × XS) ⊕ XS)} {m : Option β} {Q Q2 : α → XS → β → Prop} {X X2 : XS → β → Prop} (h : SM o m Q X) (k1 : ∀ a S' b, Q a S' b → Q2 a S' b) (k2 : ∀ S' b, X S' b → X2 S' b) : SM o m Q2 X2 := by
  obtain ⟨b, rfl, ⟨a, S', rfl, hq⟩ | ⟨S', rfl, hx⟩⟩ := h
  · exact ⟨b, rfl, Or.inl ⟨a, S', rfl, k1 a S' b hq⟩⟩
  · exact ⟨b, rfl, Or.inr ⟨S', rfl, k2 S' b hx⟩⟩
theorem SM.right {α β δ : Type} {o : Option ((α × XS) ⊕ XS)} {m : Option β} {g : β → Option δ} {P : β → Prop} {Q : α → XS → δ → Prop} {X : XS → δ → Prop} (h : OK m P) (k : ∀ b, P b → SM o (g b) Q X) : SM o (m.bind g) Q X := by
  obtain ⟨b, rfl, hp⟩ := h
  exact k b hp
theorem SM.left {α β γ : Type} {o : Option γ} {k : γ → Option ((α × XS) ⊕ XS)} {m : Option β} {P : γ → Prop} {Q : α → XS → β → Prop} {X : XS → β → Prop} (h : OK o P) (hk : ∀ c, P c → SM (k c) m Q X) : SM (o.bind k) m Q X := by
  obtain ⟨c, rfl, hp⟩ := h
  exact hk c hp
theorem xb_id {α : Type} (o : Option α) : (o.bind fun q => some q) = o := by cases o <;> rfl
/-- the last bind of a class's word: it only hands on -/
theorem SM.idl {β : Type} {o : Option ((Unit × XS) ⊕ XS)} {m : Option β} {Q : Unit → XS → β → Prop} {X : XS → β → Prop} (h : SM o m Q X) : SM (o.bind (xT2 fun _ S => some (.inl ((), S)))) m Q X := by
  obtain ⟨b, rfl, ⟨a, S', rfl, hq⟩ | ⟨S', rfl, hx⟩⟩ := h
  · exact ⟨b, rfl, Or.inl ⟨(), S', rfl, hq⟩⟩
  · exact ⟨b, rfl, Or.inr ⟨S', rfl, hx⟩⟩
/-! what a step over words leaves alone -/
def FS (S S' : XS) : Prop := (∀ i j, i ≠ 2 → xgi S' i j = xgi S i j) ∧ (∀ i j, i ≠ 2 → xgl S' i j = xgl S i j) ∧ xgi S' 2 1 = xgi S 2 1 ∧ xgi S' 2 7 = xgi S 2 7 ∧ xgi S' 2 8 = xgi S 2 8
def FM (M M' : XS) : Prop := (∀ i j, i ≠ 0 → xgi M' i j = xgi M i j) ∧ (∀ j, j < 6 ∨ 10 < j → xgi M' 0 j = xgi M 0 j) ∧ (∀ i j, i ≠ 0 → xgl M' i j = xgl M i j)
theorem FS.rf {S : XS} : FS S S := ⟨fun _ _ _ => rfl, fun _ _ _ => rfl, rfl, rfl, rfl⟩
theorem FM.rf {S : XS} : FM S S := ⟨fun _ _ _ => rfl, fun _ _ => rfl, fun _ _ _ => rfl⟩
theorem FS.tr {S S' S'' : XS} (h : FS S S') (k : FS S' S'') : FS S S'' := ⟨fun i j q => (k.1 i j q).trans (h.1 i j q), fun i j q => (k.2.1 i j q).trans (h.2.1 i j q), k.2.2.1.trans h.2.2.1, k.2.2.2.1.trans h.2.2.2.1, k.2.2.2.2.trans h.2.2.2.2⟩
theorem FM.tr {S S' S'' : XS} (h : FM S S') (k : FM S' S'') : FM S S'' := ⟨fun i j q => (k.1 i j q).trans (h.1 i j q), fun j q => (k.2.1 j q).trans (h.2.1 j q), fun i j q => (k.2.2 i j q).trans (h.2.2 i j q)⟩
theorem FS.pi {S : XS} {j : Nat} {v : Int32} (h : 1 < j) (h2 : j < 7) : FS S (xpi S 2 j v) := ⟨fun a b q => by rw [gii, if_neg (by omega)], fun _ _ _ => rfl, by rw [gii, if_neg (by omega)], by rw [gii, if_neg (by omega)], by rw [gii, if_neg (by omega)]⟩
theorem FS.pl {S : XS} {j : Nat} {v : Int64} : FS S (xpl S 2 j v) := ⟨fun _ _ _ => rfl, fun a b q => by rw [gll, if_neg (by omega)], rfl, rfl, rfl⟩
theorem FM.pi {S : XS} {j : Nat} {v : Int32} (h : 5 < j) (h2 : j < 11) : FM S (xpi S 0 j v) := ⟨fun a b q => by rw [gii, if_neg (by omega)], fun b q => by rw [gii, if_neg (by omega)], fun _ _ _ => rfl⟩
theorem FM.pl {S : XS} {j : Nat} {v : Int64} : FM S (xpl S 0 j v) := ⟨fun _ _ _ => rfl, fun _ _ => rfl, fun a b q => by rw [gll, if_neg (by omega)]⟩
/-! what stands all through a load: text, tables, rows' sizes -/
def KS (T : Nat → Int32) (S : XS) : Prop := (∀ j, xgi S 1 j = T j) ∧ xgi S 0 1 = 0 ∧ xgi S 0 5 = 0 ∧ (∀ i, xR i → xgi S i 0 = nI (xMost i) ∧ xgi S i 1 = nI (xWid i))
def KM (T : Nat → Int32) (E : Nat) (M : XS) : Prop := (∀ j, xgi M 4 j = T j) ∧ xgi M 0 5 = nI E ∧ (∀ j, xgl M 1 j = mwords.getD j 0) ∧ (∀ j, xgl M 2 j = mkinds.getD j 0) ∧ (∀ j, xgl M 3 j = mactions.getD j 0)
theorem KS.of {T : Nat → Int32} {S S' : XS} (h : KS T S) (k : ∀ i j, i ≠ 2 → xgi S' i j = xgi S i j) : KS T S' :=
  ⟨fun j => (k 1 j (by decide)).trans (h.1 j), (k 0 1 (by decide)).trans h.2.1, (k 0 5 (by decide)).trans h.2.2.1, fun i hi => ⟨(k i 0 (by omega)).trans (h.2.2.2 i hi).1, (k i 1 (by omega)).trans (h.2.2.2 i hi).2⟩⟩
theorem KS.fs {T : Nat → Int32} {S S' : XS} (h : KS T S) (k : FS S S') : KS T S' := h.of k.1
theorem KM.fm {T : Nat → Int32} {E : Nat} {S S' : XS} (h : KM T E S) (k : FM S S') : KM T E S' :=
  ⟨fun j => (k.1 4 j (by decide)).trans (h.1 j), (k.2.1 5 (by decide)).trans h.2.1, fun j => (k.2.2 1 j (by decide)).trans (h.2.2.1 j), fun j => (k.2.2 2 j (by decide)).trans (h.2.2.2.1 j), fun j => (k.2.2 3 j (by decide)).trans (h.2.2.2.2 j)⟩
/-- the class has thrown; the reference bears the same fault, or stands at the word that is none -/
def Dm (f pl : Int32) (M : XS) : Prop := (xgi M 0 11 = f ∧ xgi M 0 12 = pl) ∨ (xgi M 0 11 = 0 ∧ f = 2 ∧ xgi M 0 8 = 5 ∧ xgi M 0 6 = pl)
def XX (T : Nat → Int32) (E : Nat) (S M : XS) : Prop := KS T S ∧ KM T E M ∧ 0 < xgi S 2 7 ∧ Dm (xgi S 2 7) (xgi S 2 8) M
/-! bytes -/
def BY (T : Nat → Int32) : Prop := ∀ j, ∃ u : Nat, u < 256 ∧ T j = (nI u).toInt8.toInt32
theorem bb97 : ∀ u, u < 256 → ((nI u).toInt8.toInt32 < 97 ↔ (u < 97 ∨ 128 ≤ u)) := by decide +kernel
theorem bb122 : ∀ u, u < 256 → (122 < (nI u).toInt8.toInt32 ↔ (122 < u ∧ u < 128)) := by decide +kernel
theorem bb48 : ∀ u, u < 256 → ((nI u).toInt8.toInt32 < 48 ↔ (u < 48 ∨ 128 ≤ u)) := by decide +kernel
theorem bb57 : ∀ u, u < 256 → (57 < (nI u).toInt8.toInt32 ↔ (57 < u ∧ u < 128)) := by decide +kernel
theorem bb32 : ∀ u, u < 256 → ((nI u).toInt8.toInt32 = 32 ↔ u = 32) := by decide +kernel
theorem bb10 : ∀ u, u < 256 → ((nI u).toInt8.toInt32 = 10 ↔ u = 10) := by decide +kernel
theorem nn97 : ∀ u, u < 256 → (nI u < 97 ↔ u < 97) := by decide +kernel
theorem nn122 : ∀ u, u < 256 → (122 < nI u ↔ 122 < u) := by decide +kernel
theorem nn48 : ∀ u, u < 256 → (nI u < 48 ↔ u < 48) := by decide +kernel
theorem nn57 : ∀ u, u < 256 → (57 < nI u ↔ 57 < u) := by decide +kernel
theorem nn32 : ∀ u, u < 256 → (nI u = 32 ↔ u = 32) := by decide +kernel
theorem nn10 : ∀ u, u < 256 → (nI u = 10 ↔ u = 10) := by decide +kernel
theorem nnm1 : ∀ u, u < 256 → ¬ nI u = -1 := by decide +kernel
theorem bbn : ∀ u, u < 128 → (nI u).toInt8.toInt32 = nI u := by decide +kernel
