/-! LEVELS: MAY, MUST, FAIR are one thing: what a rule C adds, from the aim on -/
def lev (C : (Nat → Prop) → Nat → Prop) (aim : Nat → Prop) : Nat → Nat → Prop
  | 0, s => aim s
  | n + 1, s => lev C aim n s ∨ C (lev C aim n) s
/-- the least level -/
def isL (C : (Nat → Prop) → Nat → Prop) (aim : Nat → Prop) (s n : Nat) : Prop := lev C aim n s ∧ ∀ m, m < n → ¬ lev C aim m s
theorem isL_uni {C : (Nat → Prop) → Nat → Prop} {aim : Nat → Prop} {s n m : Nat} (h1 : isL C aim s n) (h2 : isL C aim s m) : n = m := by
  rcases Nat.lt_trichotomy n m with h | h | h
  · exact absurd h1.1 (h2.2 n h)
  · exact h
  · exact absurd h2.1 (h1.2 m h)
/-- what a search back from the aim leaves behind -/
theorem lev_of {C : (Nat → Prop) → Nat → Prop} {aim : Nat → Prop} {d : Nat → Option Nat} (h0 : ∀ s, d s = some 0 ↔ aim s) (h1 : ∀ s n, d s = some (n + 1) → C (fun t => ∃ m, m ≤ n ∧ d t = some m) s) (h2 : ∀ s n, C (fun t => ∃ m, m ≤ n ∧ d t = some m) s → ∃ m, m ≤ n + 1 ∧ d s = some m) : ∀ s n, d s = some n ↔ isL C aim s n := by
  have key : ∀ n, lev C aim n = fun t => ∃ m, m ≤ n ∧ d t = some m := by
    intro n
    induction n with
    | zero =>
      funext t
      apply propext
      show aim t ↔ _
      rw [← h0]
      constructor
      · intro h; exact ⟨0, Nat.le_refl _, h⟩
      · rintro ⟨m, hm, h⟩
        rw [show m = 0 by omega] at h
        exact h
    | succ n ih =>
      funext t
      apply propext
      show lev C aim n t ∨ C (lev C aim n) t ↔ _
      rw [ih]
      constructor
      · rintro (⟨m, hm, h⟩ | h)
        · exact ⟨m, by omega, h⟩
        · exact h2 t n h
      · rintro ⟨m, hm, h⟩
        by_cases e : m = n + 1
        · subst e
          exact Or.inr (h1 t n h)
        · exact Or.inl ⟨m, by omega, h⟩
  intro s n
  constructor
  · intro h
    refine ⟨by rw [key]; exact ⟨n, Nat.le_refl _, h⟩, fun m hm hl => ?_⟩
    rw [key] at hl
    obtain ⟨m2, h3, h4⟩ := hl
    rw [h] at h4
    cases h4
    omega
  · rintro ⟨h, hmin⟩
    rw [key] at h
    obtain ⟨m, hm, hd⟩ := h
    by_cases e : m = n
    · rw [← e]; exact hd
    · exact absurd (by rw [key]; exact ⟨m, Nat.le_refl _, hd⟩) (hmin m (by omega))
/-- act a can be done in s -/
def canW (σ : Wd) (s a : Nat) : Prop := holdW σ (dC σ a) s = true
/-- the three rules -/
def CMay (σ : Wd) (P : Nat → Prop) (s : Nat) : Prop := s < nS σ ∧ ∃ a k t, a < dA σ ∧ k < dO σ a ∧ nxW σ s a k = some t ∧ P t
def CMust (σ : Wd) (P : Nat → Prop) (s : Nat) : Prop := s < nS σ ∧ ∃ a, a < dA σ ∧ canW σ s a ∧ ∀ k t, k < dO σ a → nxW σ s a k = some t → P t
def CFair (σ : Wd) (T : Nat → Prop) (P : Nat → Prop) (s : Nat) : Prop := s < nS σ ∧ ∃ a, a < dA σ ∧ canW σ s a ∧ (∀ k t, k < dO σ a → nxW σ s a k = some t → T t) ∧ ∃ k t, k < dO σ a ∧ nxW σ s a k = some t ∧ P t
def aimP (σ : Wd) (s : Nat) : Prop := s < nS σ ∧ aimW σ s = true
theorem lev_mono {C C' : (Nat → Prop) → Nat → Prop} {aim : Nat → Prop} (h : ∀ P P' s, (∀ t, P t → P' t) → C P s → C' P' s) : ∀ n s, lev C aim n s → lev C' aim n s := by
  intro n
  induction n with
  | zero => intro s h; exact h
  | succ n ih =>
    rintro s (h1 | h1)
    · exact Or.inl (ih s h1)
    · exact Or.inr (h _ _ s (fun t ht => ih t ht) h1)
/-- states with a level where T is trusted -/
def hasL (σ : Wd) (T : Nat → Prop) (s : Nat) : Prop := ∃ n, lev (CFair σ T) (aimP σ) n s
/-- ever fewer are trusted -/
def trs (σ : Wd) : Nat → Nat → Prop
  | 0, s => s < nS σ
  | i + 1, s => hasL σ (trs σ i) s
theorem lev_in {σ : Wd} {T : Nat → Prop} : ∀ n s, lev (CFair σ T) (aimP σ) n s → s < nS σ := by
  intro n
  induction n with
  | zero => intro s h; exact h.1
  | succ n ih =>
    rintro s (h | h)
    · exact ih s h
    · exact h.1
theorem trs_sub {σ : Wd} : ∀ i s, trs σ (i + 1) s → trs σ i s := by
  intro i
  induction i with
  | zero =>
    rintro s ⟨n, h⟩
    exact lev_in n s h
  | succ i ih =>
    rintro s ⟨n, h⟩
    refine ⟨n, lev_mono (fun P P' s hp h => ?_) n s h⟩
    obtain ⟨h1, a, h2, h3, h4, k, t, h5, h6, h7⟩ := h
    exact ⟨h1, a, h2, h3, fun k t hk ht => ih t (h4 k t hk ht), k, t, h5, h6, hp t h7⟩
/-- FAIR: where the trusted are just those that have a level -/
theorem trs_fix {σ : Wd} {i : Nat} (h : ∀ s, trs σ i s → trs σ (i + 1) s) : ∀ j, i ≤ j → ∀ s, trs σ j s ↔ trs σ i s := by
  intro j
  induction j with
  | zero => intro hj s; rw [show i = 0 by omega]
  | succ j ih =>
    intro hj s
    by_cases e : i = j + 1
    · rw [e]
    · have hij := ih (by omega)
      have et : trs σ j = trs σ i := funext fun s => propext (hij s)
      show hasL σ (trs σ j) s ↔ _
      rw [et]
      exact ⟨trs_sub i s, h s⟩
