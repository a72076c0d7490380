/-! THE SEARCH FORWARD -/
theorem up_some {d : Nat → Option Nat} {t x : Nat} {n : Nat} (h : ∃ m, d t = some m) : ∃ m, va_up d x (some n) t = some m := by
  by_cases e : t = x
  · subst e; exact ⟨n, ups⟩
  · rw [upn e]; exact h
def FI (σ : Wd) (d : Nat → Option Nat) (q : Nat → Nat) (i e : Nat) : Prop :=
  BQ (nS σ) d q i e ∧ d (dB σ) = some 0 ∧
  (∀ s n, s < nS σ → d s = some n → (n = 0 ∧ s = dB σ) ∨ ∃ u m, u < nS σ ∧ n = m + 1 ∧ d u = some m ∧ stp σ u s) ∧
  (∀ j t n, j < i → j < e → stp σ (q j) t → d (q j) = some n → ∃ m, m ≤ n + 1 ∧ d t = some m)
theorem FI_in {σ : Wd} {d : Nat → Option Nat} {q : Nat → Nat} {i e t n : Nat} (h : FI σ d q i e) (hi : i < e) (hn : d (q i) = some n) (ht : t < nS σ) (hd : d t = none) (hs : stp σ (q i) t) : FI σ (va_up d t (some (n + 1))) (va_up q e t) i (e + 1) := by
  obtain ⟨hq, h0, h1, h2⟩ := h
  have nt : ∀ j, j < e → q j ≠ t := by
    intro j hj z
    obtain ⟨-, m, hm⟩ := hq.1 j hj
    rw [z, hd] at hm
    cases hm
  refine ⟨BQ_in hq hi hn ht hd, ?_, fun s m hs1 hm => ?_, fun j u m hj hje hst hm => ?_⟩
  · rw [upn (fun z => by rw [z, hd] at h0; cases h0)]; exact h0
  · by_cases es : s = t
    · subst es
      rw [ups] at hm
      cases hm
      exact Or.inr ⟨q i, n, (hq.1 i hi).1, rfl, by rw [upn (nt i hi)]; exact hn, hs⟩
    · rw [upn es] at hm
      rcases h1 s m hs1 hm with z | ⟨u, m2, a, b, c, f⟩
      · exact Or.inl z
      · exact Or.inr ⟨u, m2, a, b, by rw [upn (fun z => by rw [z, hd] at c; cases c)]; exact c, f⟩
  · have ej : j ≠ e := by omega
    rw [upn (f := q) ej] at hst hm
    rw [upn (nt j (by omega))] at hm
    obtain ⟨m2, a, b⟩ := h2 j u m hj (by omega) hst hm
    exact ⟨m2, a, by rw [upn (fun z => by rw [z, hd] at b; cases b)]; exact b⟩
theorem FI_nx {σ : Wd} {d : Nat → Option Nat} {q : Nat → Nat} {i e : Nat} (h : FI σ d q i e) (hi : i < e) (hnx : ∀ s t, s < nS σ → stp σ s t → t < nS σ) (hc : ∀ t, stp σ (q i) t → ∃ m, d t = some m) : FI σ d q (i + 1) e := by
  obtain ⟨hq, h0, h1, h2⟩ := h
  refine ⟨BQ_nx hq, h0, h1, fun j t n hj hje hst hn => ?_⟩
  by_cases ej : j = i
  · subst ej
    obtain ⟨m, hm⟩ := hc t hst
    obtain ⟨l, hl, hlq⟩ := hq.2.1 t m (hnx _ t (hq.1 j hi).1 hst) hm
    exact ⟨m, hq.2.2.2.2.1 l n m hl hi hn (by rw [hlq]; exact hm), hm⟩
  · exact h2 j t n (by omega) hje hst hn
theorem FI_end {σ : Wd} {d : Nat → Option Nat} {q : Nat → Nat} {i e : Nat} (h : FI σ d q i e) (hi : e ≤ i) (hB : dB σ < nS σ) (hnx : ∀ s t, s < nS σ → stp σ s t → t < nS σ) : isDist σ d := by
  obtain ⟨hq, h0, h1, h2⟩ := h
  refine dist_of hB hnx h0 h1 (fun s t n hs hd hst => ?_)
  obtain ⟨j, hj, hjq⟩ := hq.2.1 s n hs hd
  subst hjq
  exact h2 j t n (by omega) hj hst hd
/-- the beginning -/
theorem FI_0 {σ : Wd} {q : Nat → Nat} (hB : dB σ < nS σ) (hq : q 0 = dB σ) : FI σ (va_up (fun _ => none) (dB σ) (some 0)) q 0 1 := by
  have r0 : va_up (fun _ => none) (dB σ) (some 0) (dB σ) = some 0 := ups
  have rs : ∀ s n, va_up (fun _ => none) (dB σ) (some 0) s = some n → s = dB σ ∧ n = 0 := by
    intro s n h
    by_cases e : s = dB σ
    · subst e; rw [ups] at h; cases h; exact ⟨rfl, rfl⟩
    · rw [upn e] at h; cases h
  refine ⟨⟨fun j hj => ?_, fun s n _ h => ?_, fun j l h1 h2 => by omega, fun j l n m _ _ h1 h2 => ?_, fun l n m _ _ h1 h2 => ?_, ?_, fun j n _ h => ?_⟩, r0, fun s n _ h => Or.inl ⟨(rs s n h).2, (rs s n h).1⟩, fun j t n hj => by omega⟩
  · have : j = 0 := by omega
    subst this
    rw [hq]; exact ⟨hB, 0, r0⟩
  · exact ⟨0, by omega, by rw [hq]; exact (rs s n h).1.symm⟩
  · rw [(rs _ _ h1).2]; omega
  · rw [(rs _ _ h2).2]; omega
  · have := cnt_one (p := fun _ => false) (p' := fun s => (va_up (fun _ => none) (dB σ) (some 0) s : Option Nat).isSome) hB (fun j _ hj => by show (va_up (fun _ => none) (dB σ) (some 0) j : Option Nat).isSome = false; rw [upn hj]; rfl) rfl (by show (va_up (fun _ => none) (dB σ) (some 0) (dB σ) : Option Nat).isSome = true; rw [ups]; rfl)
    rw [this, cnt_0 (fun _ _ => rfl)]
  · rw [(rs _ _ h).2]; omega
/-! HOW MANY EDGES lead from u to t; how many of those before outcome k of act a -/
def ed1 (σ : Wd) (u t a k : Nat) : Nat := if nxW σ u a k = some t then 1 else 0
def mm (σ : Wd) (u t : Nat) : Nat := sm (fun a => sm (ed1 σ u t a) (dO σ a)) (dA σ)
def pt (σ : Wd) (u t a k : Nat) : Nat := sm (fun a => sm (ed1 σ u t a) (dO σ a)) a + sm (ed1 σ u t a) k
theorem ed1_pos {σ : Wd} {u t a k : Nat} : 0 < ed1 σ u t a k ↔ nxW σ u a k = some t := by
  unfold ed1
  by_cases h : nxW σ u a k = some t
  · simp [h]
  · simp [h]
theorem mm_pos {σ : Wd} {u t : Nat} : 0 < mm σ u t ↔ stp σ u t := by
  constructor
  · intro h
    obtain ⟨a, ha, h⟩ := sm_pos h
    obtain ⟨k, hk, h⟩ := sm_pos h
    exact ⟨a, k, ha, hk, ed1_pos.mp h⟩
  · rintro ⟨a, k, ha, hk, h⟩
    have h1 := sm_ge (f := ed1 σ u t a) hk
    have h2 := sm_ge (f := fun a => sm (ed1 σ u t a) (dO σ a)) ha
    have h3 := ed1_pos.mpr h
    have h2 : sm (ed1 σ u t a) (dO σ a) ≤ mm σ u t := h2
    omega
theorem mm_0 {σ : Wd} {u t : Nat} (h : ¬ stp σ u t) : mm σ u t = 0 := by
  rcases Nat.eq_zero_or_pos (mm σ u t) with q | q
  · exact q
  · exact absurd (mm_pos.mp q) h
theorem pt_k {σ : Wd} {u t a k : Nat} : pt σ u t a (k + 1) = pt σ u t a k + ed1 σ u t a k := by
  show sm (fun a => sm (ed1 σ u t a) (dO σ a)) a + (sm (ed1 σ u t a) k + ed1 σ u t a k) = sm (fun a => sm (ed1 σ u t a) (dO σ a)) a + sm (ed1 σ u t a) k + ed1 σ u t a k
  omega
theorem pt_a {σ : Wd} {u t a : Nat} : pt σ u t (a + 1) 0 = pt σ u t a (dO σ a) := rfl
theorem pt_00 {σ : Wd} {u t : Nat} : pt σ u t 0 0 = 0 := rfl
theorem pt_end {σ : Wd} {u t : Nat} : pt σ u t (dA σ) 0 = mm σ u t := rfl
/-- an act that can't be done has no edges -/
theorem ed1_no {σ : Wd} {u t a k : Nat} (h : ¬ canW σ u a) : ed1 σ u t a k = 0 := by
  unfold ed1
  rw [nx_can.mpr h]; rfl
theorem pt_no {σ : Wd} {u t a k : Nat} (h : ¬ canW σ u a) : pt σ u t a k = pt σ u t a 0 := by
  unfold pt
  rw [sm_zero (n := k) (fun _ _ => ed1_no h)]; rfl
theorem pt_stp {σ : Wd} {u t a k : Nat} (ha : a ≤ dA σ) (hk : a < dA σ → k ≤ dO σ a) (hk0 : a = dA σ → k = 0) (h : 0 < pt σ u t a k) : stp σ u t := by
  unfold pt at h
  by_cases h1 : 0 < sm (fun a => sm (ed1 σ u t a) (dO σ a)) a
  · obtain ⟨x, hx, h⟩ := sm_pos h1
    obtain ⟨k, hk, h⟩ := sm_pos h
    exact ⟨x, k, by omega, hk, ed1_pos.mp h⟩
  · obtain ⟨x, hx, h⟩ := sm_pos (f := ed1 σ u t a) (n := k) (by omega)
    have : a ≠ dA σ := fun z => by have := hk0 z; omega
    exact ⟨a, x, by omega, by have := hk (by omega); omega, ed1_pos.mp h⟩
