/-! THE SEARCH BACK -/
/-- a rule: an act with a sound Z, one outcome of which is there -/
def CZ (σ : Wd) (Z : (Nat → Prop) → Nat → Nat → Prop) (P : Nat → Prop) (s : Nat) : Prop := s < nS σ ∧ ∃ a k t, a < dA σ ∧ k < dO σ a ∧ nxW σ s a k = some t ∧ Z P s a ∧ P t
def ZMay (_ : Nat → Prop) (_ _ : Nat) : Prop := True
def ZMust (σ : Wd) (P : Nat → Prop) (s a : Nat) : Prop := ∀ k t, k < dO σ a → nxW σ s a k = some t → P t
def ZFair (σ : Wd) (T : Nat → Prop) (_ : Nat → Prop) (s a : Nat) : Prop := ∀ k t, k < dO σ a → nxW σ s a k = some t → T t
theorem nx_canW {σ : Wd} {s a k t : Nat} (h : nxW σ s a k = some t) : canW σ s a := by
  apply Classical.byContradiction
  intro z
  rw [nx_can.mpr z] at h; cases h
theorem CZ_may {σ : Wd} {P : Nat → Prop} {s : Nat} : CZ σ ZMay P s ↔ CMay σ P s := by
  constructor
  · rintro ⟨h0, a, k, t, h1, h2, h3, -, h4⟩; exact ⟨h0, a, k, t, h1, h2, h3, h4⟩
  · rintro ⟨h0, a, k, t, h1, h2, h3, h4⟩; exact ⟨h0, a, k, t, h1, h2, h3, trivial, h4⟩
theorem CZ_must {σ : Wd} {P : Nat → Prop} {s : Nat} (ho : ∀ a, a < dA σ → 1 ≤ dO σ a) : CZ σ (ZMust σ) P s ↔ CMust σ P s := by
  constructor
  · rintro ⟨h0, a, k, t, h1, h2, h3, hz, h4⟩; exact ⟨h0, a, h1, nx_canW h3, hz⟩
  · rintro ⟨h0, a, h1, h2, h3⟩
    exact ⟨h0, a, 0, _, h1, ho a h1, nx_some h2, h3, h3 0 _ (ho a h1) (nx_some h2)⟩
theorem CZ_fair {σ : Wd} {T P : Nat → Prop} {s : Nat} : CZ σ (ZFair σ T) P s ↔ CFair σ T P s := by
  constructor
  · rintro ⟨h0, a, k, t, h1, h2, h3, hz, h4⟩; exact ⟨h0, a, h1, nx_canW h3, hz, k, t, h2, h3, h4⟩
  · rintro ⟨h0, a, h1, h2, h3, k, t, h4, h5, h6⟩; exact ⟨h0, a, k, t, h1, h4, h5, h3, h6⟩
/-- levels up to n -/
def upto (d : Nat → Option Nat) (n t : Nat) : Prop := ∃ m, m ≤ n ∧ d t = some m
def KI (σ : Wd) (C : (Nat → Prop) → Nat → Prop) (d : Nat → Option Nat) (q : Nat → Nat) (i e : Nat) : Prop :=
  BQ (nS σ) d q i e ∧ (∀ s n, d s = some n → s < nS σ) ∧ (∀ s, d s = some 0 ↔ aimP σ s) ∧ (∀ s n, d s = some (n + 1) → C (upto d n) s)
theorem KI_in {σ : Wd} {C : (Nat → Prop) → Nat → Prop} {d : Nat → Option Nat} {q : Nat → Nat} {i e t n : Nat} (hC : ∀ P P' s, (∀ t, P t → P' t) → C P s → C P' s) (h : KI σ C d q i e) (hi : i < e) (hn : d (q i) = some n) (ht : t < nS σ) (hd : d t = none) (hc : C (upto d n) t) : KI σ C (va_up d t (some (n + 1))) (va_up q e t) i (e + 1) := by
  obtain ⟨hq, hin, h0, h1⟩ := h
  have up : ∀ m u, upto d m u → upto (va_up d t (some (n + 1))) m u := by
    rintro m u ⟨k, hk, hu⟩
    exact ⟨k, hk, by rw [upn (fun z => by rw [z, hd] at hu; cases hu)]; exact hu⟩
  refine ⟨BQ_in hq hi hn ht hd, fun s m h => ?_, fun s => ?_, fun s m h => ?_⟩
  · by_cases e : s = t
    · rw [e]; exact ht
    · rw [upn e] at h; exact hin s m h
  · by_cases e : s = t
    · subst e
      rw [ups]
      constructor
      · intro h; cases h
      · intro h; rw [(h0 s).mpr h] at hd; cases hd
    · rw [upn e]; exact h0 s
  · by_cases e : s = t
    · subst e
      rw [ups] at h
      cases h
      exact hC _ _ s (up n) hc
    · rw [upn e] at h
      exact hC _ _ s (up m) (h1 s m h)
theorem KI_nx {σ : Wd} {C : (Nat → Prop) → Nat → Prop} {d : Nat → Option Nat} {q : Nat → Nat} {i e : Nat} (h : KI σ C d q i e) : KI σ C d q (i + 1) e := ⟨BQ_nx h.1, h.2⟩
/-- the class's sweep: what is gone through has been asked of all edges into it -/
def KC (σ : Wd) (Z : (Nat → Prop) → Nat → Nat → Prop) (d : Nat → Option Nat) (q : Nat → Nat) (i e : Nat) : Prop :=
  ∀ j s a k n, j < i → j < e → s < nS σ → a < dA σ → k < dO σ a → nxW σ s a k = some (q j) → d (q j) = some n → Z (upto d n) s a → upto d (n + 1) s
theorem upto_in {d : Nat → Option Nat} {t n m : Nat} (hd : d t = none) (hm : m ≤ n) : upto (va_up d t (some (n + 1))) m = upto d m := by
  funext u
  apply propext
  constructor
  · rintro ⟨k, hk, hu⟩
    by_cases e : u = t
    · subst e; rw [ups] at hu; cases hu; omega
    · rw [upn e] at hu; exact ⟨k, hk, hu⟩
  · rintro ⟨k, hk, hu⟩
    exact ⟨k, hk, by rw [upn (fun z => by rw [z, hd] at hu; cases hu)]; exact hu⟩
theorem upto_up {d : Nat → Option Nat} {t n m u : Nat} (hd : d t = none) (h : upto d m u) : upto (va_up d t (some (n + 1))) m u := by
  obtain ⟨k, hk, hu⟩ := h
  exact ⟨k, hk, by rw [upn (fun z => by rw [z, hd] at hu; cases hu)]; exact hu⟩
theorem KC_in {σ : Wd} {Z : (Nat → Prop) → Nat → Nat → Prop} {d : Nat → Option Nat} {q : Nat → Nat} {i e t n : Nat} (hq : BQ (nS σ) d q i e) (h : KC σ Z d q i e) (hi : i < e) (hn : d (q i) = some n) (hd : d t = none) : KC σ Z (va_up d t (some (n + 1))) (va_up q e t) i (e + 1) := by
  intro j s a k m hj hje hs ha hk hx hm hz
  have ej : j ≠ e := by omega
  rw [upn (f := q) ej] at hx hm
  have nt : q j ≠ t := by
    intro z
    obtain ⟨-, x, hx⟩ := hq.1 j (by omega)
    rw [z, hd] at hx; cases hx
  rw [upn nt] at hm
  have hmn := hq.2.2.2.1 j i m n (by omega) hi hm hn
  rw [upto_in hd hmn] at hz
  exact upto_up hd (h j s a k m hj (by omega) hs ha hk hx hm hz)
theorem KC_nx {σ : Wd} {Z : (Nat → Prop) → Nat → Nat → Prop} {d : Nat → Option Nat} {q : Nat → Nat} {i e n : Nat} (h : KC σ Z d q i e) (hn : d (q i) = some n) (hc : ∀ s a k, s < nS σ → a < dA σ → k < dO σ a → nxW σ s a k = some (q i) → Z (upto d n) s a → upto d (n + 1) s) : KC σ Z d q (i + 1) e := by
  intro j s a k m hj hje hs ha hk hx hm hz
  by_cases ej : j = i
  · subst ej
    rw [hn] at hm
    cases hm
    exact hc s a k hs ha hk hx hz
  · exact h j s a k m (by omega) hje hs ha hk hx hm hz
/-- at the end -/
theorem KI_end {σ : Wd} {Z : (Nat → Prop) → Nat → Nat → Prop} {d : Nat → Option Nat} {q : Nat → Nat} {i e : Nat} (h : KI σ (CZ σ Z) d q i e) (hi : e ≤ i) (hc : KC σ Z d q i e) (hZ : ∀ n s, s < nS σ → CZ σ Z (upto d n) s → ∃ m a k t, m ≤ n ∧ a < dA σ ∧ k < dO σ a ∧ nxW σ s a k = some t ∧ d t = some m ∧ Z (upto d m) s a) : ∀ s n, d s = some n ↔ isL (CZ σ Z) (aimP σ) s n := by
  obtain ⟨hq, hin, h0, h1⟩ := h
  refine lev_of h0 h1 (fun s n hC => ?_)
  obtain ⟨m, a, k, t, hm, ha, hk, hx, hdt, hz⟩ := hZ n s hC.1 hC
  obtain ⟨j, hj, hjq⟩ := hq.2.1 t m (hin t m hdt) hdt
  subst hjq
  obtain ⟨x, hx1, hx2⟩ := hc j s a k m (by omega) hj hC.1 ha hk hx hdt hz
  exact ⟨x, by omega, hx2⟩
theorem hZ_may {σ : Wd} {d : Nat → Option Nat} : ∀ n s, s < nS σ → CZ σ ZMay (upto d n) s → ∃ m a k t, m ≤ n ∧ a < dA σ ∧ k < dO σ a ∧ nxW σ s a k = some t ∧ d t = some m ∧ ZMay (upto d m) s a := by
  rintro n s - ⟨-, a, k, t, ha, hk, hx, -, m, hm, hd⟩
  exact ⟨m, a, k, t, hm, ha, hk, hx, hd, trivial⟩
theorem hZ_fair {σ : Wd} {T : Nat → Prop} {d : Nat → Option Nat} : ∀ n s, s < nS σ → CZ σ (ZFair σ T) (upto d n) s → ∃ m a k t, m ≤ n ∧ a < dA σ ∧ k < dO σ a ∧ nxW σ s a k = some t ∧ d t = some m ∧ ZFair σ T (upto d m) s a := by
  rintro n s - ⟨-, a, k, t, ha, hk, hx, hz, m, hm, hd⟩
  exact ⟨m, a, k, t, hm, ha, hk, hx, hd, hz⟩
theorem hZ_must {σ : Wd} {d : Nat → Option Nat} : ∀ n s, s < nS σ → CZ σ (ZMust σ) (upto d n) s → ∃ m a k t, m ≤ n ∧ a < dA σ ∧ k < dO σ a ∧ nxW σ s a k = some t ∧ d t = some m ∧ ZMust σ (upto d m) s a := by
  rintro n s - ⟨-, a, k, t, ha, hk, hx, hz, m0, hm0, hd0⟩
  obtain ⟨m, hm, hmin⟩ := pk_least (fun m => ZMust σ (upto d m) s a) ⟨n, hz⟩
  have hmn : m ≤ n := by
    rcases Nat.lt_or_ge n m with z | z
    · exact absurd hz (hmin n z)
    · exact z
  have : ∃ k t, k < dO σ a ∧ nxW σ s a k = some t ∧ d t = some m := by
    apply Classical.byContradiction
    intro hno
    have hall : ∀ k t, k < dO σ a → nxW σ s a k = some t → ∃ x, x < m ∧ d t = some x := by
      intro k t hk hx
      obtain ⟨x, hx1, hx2⟩ := hm k t hk hx
      refine ⟨x, ?_, hx2⟩
      rcases Nat.lt_or_ge x m with z | z
      · exact z
      · exact absurd ⟨k, t, hk, hx, by rw [hx2, show x = m by omega]⟩ hno
    obtain ⟨x, hx1, -⟩ := hall k t hk hx
    refine hmin (m - 1) (by omega) (fun k t hk hx => ?_)
    obtain ⟨y, hy1, hy2⟩ := hall k t hk hx
    exact ⟨y, by omega, hy2⟩
  obtain ⟨k, t, hk, hx, hd⟩ := this
  exact ⟨m, a, k, t, hmn, ha, hk, hx, hd, hm⟩
/-- the beginning: the aim's states stand in the queue, first to last -/
def d0 (σ : Wd) (s : Nat) : Option Nat := if s < nS σ ∧ aimW σ s = true then some 0 else none
theorem d0_some {σ : Wd} {s n : Nat} : d0 σ s = some n ↔ aimP σ s ∧ n = 0 := by
  unfold d0 aimP
  by_cases h : s < nS σ ∧ aimW σ s = true
  · rw [if_pos h]
    exact ⟨fun z => by cases z; exact ⟨h, rfl⟩, fun z => by rw [z.2]⟩
  · rw [if_neg h]
    exact ⟨fun z => (by cases z), fun z => absurd z.1 h⟩
theorem KI_0 {σ : Wd} {C : (Nat → Prop) → Nat → Prop} {q : Nat → Nat} {e : Nat} (h1 : ∀ j, j < e → aimP σ (q j)) (h2 : ∀ s, aimP σ s → ∃ j, j < e ∧ q j = s) (h3 : ∀ j l, j < l → l < e → q j < q l) (he : e = cnt (aimW σ) (nS σ)) : KI σ C (d0 σ) q 0 e := by
  refine ⟨⟨fun j hj => ⟨(h1 j hj).1, 0, d0_some.mpr ⟨h1 j hj, rfl⟩⟩, fun s n _ h => h2 s (d0_some.mp h).1, fun j l hj hl => Nat.ne_of_lt (h3 j l hj hl), fun j l n m _ _ a b => ?_, fun l n m _ _ a b => ?_, ?_, fun j n _ h => ?_⟩, fun s n h => (d0_some.mp h).1.1, fun s => ?_, fun s n h => ?_⟩
  · rw [(d0_some.mp a).2]; omega
  · rw [(d0_some.mp b).2]; omega
  · rw [he]
    refine cnt_congr (fun s hs => ?_)
    show aimW σ s = (d0 σ s).isSome
    unfold d0
    cases h : aimW σ s with
    | true => rw [if_pos ⟨hs, rfl⟩]; rfl
    | false => rw [if_neg (fun z => by cases z.2)]; rfl
  · rw [(d0_some.mp h).2]; omega
  · rw [d0_some]; exact ⟨fun z => z.1, fun z => ⟨z, rfl⟩⟩
  · have := (d0_some.mp h).2; omega
