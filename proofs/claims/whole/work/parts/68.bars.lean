/-! SEARCHES WITH A BAR -/
def stpX (σ : Wd) (ba : Option Nat) (u t : Nat) : Prop := ∃ a k, a < dA σ ∧ k < dO σ a ∧ ba ≠ some a ∧ nxW σ u a k = some t
def rwo (σ : Wd) (ba : Option Nat) (bar : Nat → Bool) : Nat → Nat → Prop
  | 0, s => s = dB σ ∧ bar s = false
  | n + 1, s => ∃ u, rwo σ ba bar n u ∧ stpX σ ba u s ∧ bar s = false
/-- the aim is come to without what is barred -/
def isRW (σ : Wd) (ba : Option Nat) (bar : Nat → Bool) : Prop := ∃ n s, rwo σ ba bar n s ∧ aimW σ s = true
def SI (σ : Wd) (ba : Option Nat) (bar : Nat → Bool) (d : Nat → Option Nat) (q : Nat → Nat) (i e : Nat) : Prop :=
  BQ (nS σ) d q i e ∧ (∀ s n, d s = some n → s < nS σ ∧ ∃ m, rwo σ ba bar m s) ∧ (bar (dB σ) = false → ∃ n, d (dB σ) = some n) ∧
  (∀ j t, j < i → j < e → stpX σ ba (q j) t → bar t = false → ∃ m, d t = some m)
theorem SI_in {σ : Wd} {ba : Option Nat} {bar : Nat → Bool} {d : Nat → Option Nat} {q : Nat → Nat} {i e t n : Nat} (h : SI σ ba bar d q i e) (hi : i < e) (hn : d (q i) = some n) (ht : t < nS σ) (hd : d t = none) (hs : stpX σ ba (q i) t) (hb : bar t = false) : SI σ ba bar (va_up d t (some (n + 1))) (va_up q e t) i (e + 1) := by
  obtain ⟨hq, h1, h2, h3⟩ := h
  refine ⟨BQ_in hq hi hn ht hd, fun s m h => ?_, fun hb => up_some (h2 hb), fun j u hj hje hst hbu => ?_⟩
  · by_cases e : s = t
    · subst e
      obtain ⟨-, m, hm⟩ := h1 (q i) n hn
      exact ⟨ht, m + 1, q i, hm, hs, hb⟩
    · rw [upn e] at h; exact h1 s m h
  · rw [upn (f := q) (by omega : j ≠ e)] at hst
    exact up_some (h3 j u hj (by omega) hst hbu)
theorem SI_nx {σ : Wd} {ba : Option Nat} {bar : Nat → Bool} {d : Nat → Option Nat} {q : Nat → Nat} {i e : Nat} (h : SI σ ba bar d q i e) (hc : ∀ t, stpX σ ba (q i) t → bar t = false → ∃ m, d t = some m) : SI σ ba bar d q (i + 1) e := by
  obtain ⟨hq, h1, h2, h3⟩ := h
  refine ⟨BQ_nx hq, h1, h2, fun j t hj hje hst hbt => ?_⟩
  by_cases e : j = i
  · subst e; exact hc t hst hbt
  · exact h3 j t (by omega) hje hst hbt
theorem SI_end {σ : Wd} {ba : Option Nat} {bar : Nat → Bool} {d : Nat → Option Nat} {q : Nat → Nat} {i e : Nat} (h : SI σ ba bar d q i e) (hi : e ≤ i) (hno : ∀ s n, d s = some n → aimW σ s = false) : ¬ isRW σ ba bar := by
  obtain ⟨hq, h1, h2, h3⟩ := h
  have all : ∀ n s, rwo σ ba bar n s → ∃ m, d s = some m := by
    intro n
    induction n with
    | zero =>
      rintro s ⟨e, hb⟩
      subst e; exact h2 hb
    | succ n ih =>
      rintro s ⟨u, hu, hst, hb⟩
      obtain ⟨m, hm⟩ := ih u hu
      obtain ⟨j, hj, hjq⟩ := hq.2.1 u m (h1 u m hm).1 hm
      subst hjq
      exact h3 j s (by omega) hj hst hb
  rintro ⟨n, s, h4, h5⟩
  obtain ⟨m, hm⟩ := all n s h4
  rw [hno s m hm] at h5; cases h5
theorem SI_0 {σ : Wd} {ba : Option Nat} {bar : Nat → Bool} {q : Nat → Nat} (hB : dB σ < nS σ) (hq : q 0 = dB σ) (hb : bar (dB σ) = false) : SI σ ba bar (va_up (fun _ => none) (dB σ) (some 0)) q 0 1 := by
  refine ⟨(FI_0 hB hq).1, fun s n h => ?_, fun _ => ⟨0, ups⟩, fun j t hj => by omega⟩
  by_cases e : s = dB σ
  · subst e; exact ⟨hB, 0, rfl, hb⟩
  · rw [upn e] at h; cases h
theorem isRW_bar {σ : Wd} {ba : Option Nat} {bar : Nat → Bool} (hb : bar (dB σ) = true) : ¬ isRW σ ba bar := by
  have no : ∀ n s, ¬ rwo σ ba bar n s := by
    intro n
    induction n with
    | zero => rintro s ⟨e, h⟩; rw [e, hb] at h; cases h
    | succ n ih => rintro s ⟨u, hu, -⟩; exact ih u hu
  rintro ⟨n, s, h, -⟩
  exact no n s h
/-! MUST BY COUNTING, as the reference does it: pr are the edges gone through -/
def LC (σ : Wd) (d : Nat → Option Nat) (pr : Nat → Nat → Nat → Bool) : Prop :=
  ∀ s a, s < nS σ → a < dA σ → (∀ k, k < dO σ a → pr s a k = true) → ∃ k t n, k < dO σ a ∧ nxW σ s a k = some t ∧ d t = some n ∧ upto d (n + 1) s
theorem LC_in {σ : Wd} {d : Nat → Option Nat} {pr : Nat → Nat → Nat → Bool} {t n : Nat} (h : LC σ d pr) (hd : d t = none) : LC σ (va_up d t (some (n + 1))) pr := by
  intro s a hs ha hp
  obtain ⟨k, u, m, h1, h2, h3, h4⟩ := h s a hs ha hp
  exact ⟨k, u, m, h1, h2, by rw [upn (fun z => by rw [z, hd] at h3; cases h3)]; exact h3, upto_up hd h4⟩
theorem LC_end {σ : Wd} {d : Nat → Option Nat} {q : Nat → Nat} {pr : Nat → Nat → Nat → Bool} {i e : Nat} (h : KI σ (CMust σ) d q i e) (hc : LC σ d pr) (hp : ∀ s a k t n, s < nS σ → a < dA σ → k < dO σ a → nxW σ s a k = some t → d t = some n → pr s a k = true) : ∀ s n, d s = some n ↔ isL (CMust σ) (aimP σ) s n := by
  obtain ⟨hq, hin, h0, h1⟩ := h
  refine lev_of h0 h1 (fun s n hC => ?_)
  obtain ⟨hs, a, ha, hcan, hall⟩ := hC
  obtain ⟨k, t, m, hk, hx, hd, x, hx1, hx2⟩ := hc s a hs ha (fun k hk => by
    obtain ⟨m, -, hm⟩ := hall k _ hk (nx_some hcan)
    exact hp s a k _ m hs ha hk (nx_some hcan) hm)
  obtain ⟨m2, hm2, hd2⟩ := hall k t hk hx
  rw [hd] at hd2
  cases hd2
  exact ⟨x, by omega, hx2⟩
/-! FAIR, as the reference does it: only trusted states get a level -/
def ZFairT (σ : Wd) (T : Nat → Prop) (_ : Nat → Prop) (s a : Nat) : Prop := T s ∧ ∀ k t, k < dO σ a → nxW σ s a k = some t → T t
theorem hZ_fairT {σ : Wd} {T : Nat → Prop} {d : Nat → Option Nat} : ∀ n s, s < nS σ → CZ σ (ZFairT σ T) (upto d n) s → ∃ m a k t, m ≤ n ∧ a < dA σ ∧ k < dO σ a ∧ nxW σ s a k = some t ∧ d t = some m ∧ ZFairT σ T (upto d m) s a := by
  rintro n s - ⟨-, a, k, t, ha, hk, hx, hz, m, hm, hd⟩
  exact ⟨m, a, k, t, hm, ha, hk, hx, hd, hz⟩
theorem fairT_lev {σ : Wd} {i : Nat} : ∀ n s, lev (CZ σ (ZFairT σ (trs σ i))) (aimP σ) n s ↔ lev (CZ σ (ZFair σ (trs σ i))) (aimP σ) n s := by
  have eC : CZ σ (ZFair σ (trs σ i)) = CFair σ (trs σ i) := by
    funext P s; exact propext CZ_fair
  intro n
  induction n with
  | zero => intro s; exact Iff.rfl
  | succ n ih =>
    intro s
    have el : lev (CZ σ (ZFairT σ (trs σ i))) (aimP σ) n = lev (CZ σ (ZFair σ (trs σ i))) (aimP σ) n := funext fun s => propext (ih s)
    show lev _ _ n s ∨ _ ↔ lev _ _ n s ∨ _
    rw [el]
    constructor
    · rintro (h | ⟨hs, a, k, t, ha, hk, hx, hz, hp⟩)
      · exact Or.inl h
      · exact Or.inr ⟨hs, a, k, t, ha, hk, hx, hz.2, hp⟩
    · rintro (h | h)
      · exact Or.inl h
      · have : trs σ i s := trs_sub i s ⟨n + 1, by rw [← eC]; exact Or.inr h⟩
        obtain ⟨hs, a, k, t, ha, hk, hx, hz, hp⟩ := h
        exact Or.inr ⟨hs, a, k, t, ha, hk, hx, ⟨this, hz⟩, hp⟩
theorem fairT_isL {σ : Wd} {i s n : Nat} : isL (CZ σ (ZFairT σ (trs σ i))) (aimP σ) s n ↔ isL (CZ σ (ZFair σ (trs σ i))) (aimP σ) s n := by
  unfold isL
  rw [fairT_lev n s]
  constructor
  · rintro ⟨h1, h2⟩; exact ⟨h1, fun m hm h => h2 m hm ((fairT_lev m s).mpr h)⟩
  · rintro ⟨h1, h2⟩; exact ⟨h1, fun m hm h => h2 m hm ((fairT_lev m s).mp h)⟩
/-- what level answers -/
def isFr (σ : Wd) (d : Nat → Option Nat) : Prop := ∃ i, (∀ s, trs σ i s → trs σ (i + 1) s) ∧ ∀ s n, d s = some n ↔ isL (CZ σ (ZFair σ (trs σ i))) (aimP σ) s n
theorem isFr_uni {σ : Wd} {d d' : Nat → Option Nat} (h : isFr σ d) (h' : isFr σ d') : d = d' := by
  obtain ⟨i, h1, h2⟩ := h
  obtain ⟨j, h3, h4⟩ := h'
  have e : trs σ i = trs σ j := by
    funext s
    apply propext
    rw [← trs_fix h1 (i + j) (by omega) s, ← trs_fix h3 (i + j) (by omega) s]
  funext s
  rw [← e] at h4
  cases hx : d s with
  | none =>
    cases hy : d' s with
    | none => rfl
    | some m => rw [(h2 s m).mpr ((h4 s m).mp hy)] at hx; cases hx
  | some n => rw [(h4 s n).mpr ((h2 s n).mp hx)]
