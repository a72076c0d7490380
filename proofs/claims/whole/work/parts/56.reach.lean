/-! REACHED: how many acts from the start -/
/-- an act leads from s to t -/
def stp (σ : Wd) (s t : Nat) : Prop := ∃ a k, a < dA σ ∧ k < dO σ a ∧ nxW σ s a k = some t
/-- come to in n acts -/
def rch (σ : Wd) : Nat → Nat → Prop
  | 0, s => s = dB σ
  | n + 1, s => ∃ u, rch σ n u ∧ stp σ u s
/-- the fewest -/
def isD (σ : Wd) (s n : Nat) : Prop := rch σ n s ∧ ∀ m, m < n → ¬ rch σ m s
theorem isD_uni {σ : Wd} {s n m : Nat} (h1 : isD σ s n) (h2 : isD σ s m) : n = m := by
  rcases Nat.lt_trichotomy n m with h | h | h
  · exact absurd h1.1 (h2.2 n h)
  · exact h
  · exact absurd h2.1 (h1.2 m h)
theorem isD_ex {σ : Wd} {s n : Nat} (h : rch σ n s) : ∃ m, m ≤ n ∧ isD σ s m := by
  obtain ⟨m, h1, h2⟩ := pk_least (fun m => rch σ m s) ⟨n, h⟩
  refine ⟨m, ?_, h1, h2⟩
  rcases Nat.lt_or_ge n m with q | q
  · exact absurd h (h2 n q)
  · exact q
/-- a row d says of every state how many acts it is away -/
def isDist (σ : Wd) (d : Nat → Option Nat) : Prop := ∀ s, s < nS σ → (∀ n, d s = some n ↔ isD σ s n)
/-- what a search forward leaves behind says it -/
theorem dist_of {σ : Wd} {d : Nat → Option Nat} (hB : dB σ < nS σ) (hnx : ∀ s t, s < nS σ → stp σ s t → t < nS σ) (h0 : d (dB σ) = some 0) (h1 : ∀ s n, s < nS σ → d s = some n → (n = 0 ∧ s = dB σ) ∨ ∃ u m, u < nS σ ∧ n = m + 1 ∧ d u = some m ∧ stp σ u s) (h2 : ∀ s t n, s < nS σ → d s = some n → stp σ s t → ∃ m, m ≤ n + 1 ∧ d t = some m) : isDist σ d := by
  have snd : ∀ n s, s < nS σ → d s = some n → rch σ n s := by
    intro n
    induction n with
    | zero =>
      intro s hs hd
      rcases h1 s 0 hs hd with ⟨-, h⟩ | ⟨u, m, -, h, -⟩
      · exact h
      · omega
    | succ n ih =>
      intro s hs hd
      rcases h1 s (n + 1) hs hd with ⟨h, -⟩ | ⟨u, m, hu, h, hdu, hst⟩
      · omega
      · have : m = n := by omega
        subst this
        exact ⟨u, ih u hu hdu, hst⟩
  have cmp : ∀ n s, rch σ n s → s < nS σ ∧ ∃ m, m ≤ n ∧ d s = some m := by
    intro n
    induction n with
    | zero =>
      intro s h
      have h : s = dB σ := h
      subst h
      exact ⟨hB, 0, Nat.le_refl _, h0⟩
    | succ n ih =>
      rintro s ⟨u, hu, hst⟩
      obtain ⟨hun, m, hm, hd⟩ := ih u hu
      obtain ⟨m2, hm2, hd2⟩ := h2 u s m hun hd hst
      exact ⟨hnx u s hun hst, m2, by omega, hd2⟩
  intro s hs n
  constructor
  · intro hd
    refine ⟨snd n s hs hd, fun m hm hr => ?_⟩
    obtain ⟨-, m2, h, hd2⟩ := cmp m s hr
    rw [hd] at hd2
    cases hd2
    omega
  · intro hD
    obtain ⟨-, m, hm, hd⟩ := cmp n s hD.1
    have : m = n := by
      rcases Nat.lt_or_ge m n with q | q
      · exact absurd (snd m s hs hd) (hD.2 m q)
      · omega
    rw [hd, this]
