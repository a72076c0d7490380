/-! MARKS: the changed states stand first in their class; classes with changed states wait -/
def PK (m : Nat) (od fr un cc cm : Nat → Nat) (z : Prop) : Prop :=
  (∀ b, b < m → fr b + cc b ≤ un b) ∧ (∀ b i, b < m → fr b ≤ i → i < fr b + cc b → cm (od i) ≠ 0 ∨ z) ∧ (∀ b i, b < m → fr b + cc b ≤ i → i < un b → cm (od i) = 0)
def PQ (m : Nat) (cc wt : Nat → Nat) (wc : Nat) : Prop :=
  (∀ j, j < wc → wt j < m ∧ 0 < cc (wt j)) ∧ (∀ j l, j < l → l < wc → wt j ≠ wt l) ∧ (∀ b, b < m → 0 < cc b → ∃ j, j < wc ∧ wt j = b)
theorem PQ_le {m : Nat} {cc wt : Nat → Nat} {wc : Nat} (h : PQ m cc wt wc) : wc ≤ m := inj_le (fun j hj => (h.1 j hj).1) h.2.1
/-- one that does not wait: there is room -/
theorem PQ_lt {m : Nat} {cc wt : Nat → Nat} {wc b : Nat} (h : PQ m cc wt wc) (hb : b < m) (h0 : cc b = 0) : wc < m := by
  have := inj_le (f := va_up wt wc b) (N := m) (e := wc + 1) (fun j hj => ?_) (fun j l hj hl => ?_)
  · omega
  · by_cases e : j = wc
    · rw [e, ups]; exact hb
    · rw [upn e]; exact (h.1 j (by omega)).1
  · rw [upn (by omega : j ≠ wc)]
    by_cases e : l = wc
    · rw [e, ups]
      intro z
      have := (h.1 j (by omega)).2
      rw [z, h0] at this; omega
    · rw [upn e]; exact h.2.1 j l hj (by omega)
theorem PQ_up {m : Nat} {cc wt : Nat → Nat} {wc b : Nat} (h : PQ m cc wt wc) (hb : b < m) : PQ m (va_up cc b (cc b + 1)) (if cc b = 0 then va_up wt wc b else wt) (if cc b = 0 then wc + 1 else wc) := by
  obtain ⟨h1, h2, h3⟩ := h
  have cp : ∀ c, 0 < cc c → 0 < va_up cc b (cc b + 1) c := by
    intro c hc
    by_cases e : c = b
    · rw [e, ups]; omega
    · rw [upn e]; exact hc
  by_cases h0 : cc b = 0
  · rw [if_pos h0, if_pos h0]
    have nw : ∀ j, j < wc → wt j ≠ b := fun j hj z => by
      have := (h1 j hj).2
      rw [z, h0] at this; omega
    refine ⟨fun j hj => ?_, fun j l hj hl => ?_, fun c hc hp => ?_⟩
    · by_cases e : j = wc
      · rw [e, ups, ups]; exact ⟨hb, by omega⟩
      · rw [upn e]; exact ⟨(h1 j (by omega)).1, cp _ (h1 j (by omega)).2⟩
    · rw [upn (by omega : j ≠ wc)]
      by_cases e : l = wc
      · rw [e, ups]; exact nw j (by omega)
      · rw [upn e]; exact h2 j l hj (by omega)
    · by_cases e : c = b
      · exact ⟨wc, by omega, by rw [ups, e]⟩
      · rw [upn e] at hp
        obtain ⟨j, hj, hq⟩ := h3 c hc hp
        exact ⟨j, by omega, by rw [upn (by omega)]; exact hq⟩
  · rw [if_neg h0, if_neg h0]
    refine ⟨fun j hj => ⟨(h1 j hj).1, cp _ (h1 j hj).2⟩, h2, fun c hc hp => ?_⟩
    by_cases e : c = b
    · rw [e]; exact h3 b hb (by omega)
    · rw [upn e] at hp; exact h3 c hc hp
/-- two places of one class are exchanged -/
theorem PT_swap {N m : Nat} {od pl kd fr un : Nat → Nat} {s p : Nat} (h : PT N m od pl kd fr un) (hs : s < N) (h1 : fr (kd s) ≤ p) (h2 : p < un (kd s)) : PT N m (va_up (va_up od (pl s) (od p)) p s) (va_up (va_up pl (od p) (pl s)) s p) kd fr un := by
  obtain ⟨a1, a2, a3, a4, a5⟩ := h
  have hb := (a4 s hs).1
  have hpN : p < N := by have := (a3 _ hb).2; omega
  have ho := a1 p hpN
  have hps := a2 s hs
  have hko := a5 _ p hb h1 h2
  have inj : ∀ i, i < N → od i = s → i = pl s := by
    intro i hi e
    have := (a1 i hi).2
    rw [e] at this; exact this.symm
  refine ⟨fun i hi => ?_, fun t ht => ?_, a3, fun t ht => ?_, fun b i hb2 hi1 hi2 => ?_⟩
  · by_cases e : i = p
    · subst e
      rw [ups, ups]; exact ⟨hs, rfl⟩
    · rw [upn e]
      by_cases e2 : i = pl s
      · subst e2
        rw [ups]
        refine ⟨ho.1, ?_⟩
        have : od p ≠ s := fun z => e (inj p hpN z).symm
        rw [upn this, ups]
      · rw [upn e2]
        have h3 := a1 i hi
        refine ⟨h3.1, ?_⟩
        have n1 : od i ≠ s := fun z => e2 (inj i hi z)
        have n2 : od i ≠ od p := fun z => e (by rw [← h3.2, z]; exact ho.2)
        rw [upn n1, upn n2]; exact h3.2
  · by_cases e : t = s
    · subst e
      rw [ups, ups]; exact ⟨hpN, rfl⟩
    · rw [upn e]
      by_cases e2 : t = od p
      · subst e2
        rw [ups]
        refine ⟨hps.1, ?_⟩
        have : pl s ≠ p := fun z => e (by rw [← z]; exact hps.2)
        rw [upn this, ups]
      · rw [upn e2]
        have h3 := a2 t ht
        refine ⟨h3.1, ?_⟩
        have n1 : pl t ≠ p := fun z => e2 (by rw [← z]; exact h3.2.symm)
        have n2 : pl t ≠ pl s := fun z => e (by rw [← h3.2, z]; exact hps.2)
        rw [upn n1, upn n2]; exact h3.2
  · have h3 := a4 t ht
    by_cases e : t = s
    · subst e
      rw [ups]; exact ⟨h3.1, h1, h2⟩
    · rw [upn e]
      by_cases e2 : t = od p
      · subst e2
        rw [ups, hko]; exact a4 s hs
      · rw [upn e2]; exact h3
  · by_cases e : i = p
    · subst e
      rw [ups]
      have := a5 b i hb2 hi1 hi2
      omega
    · rw [upn e]
      by_cases e2 : i = pl s
      · subst e2
        rw [ups, hko]
        have := a5 b (pl s) hb2 hi1 hi2
        rw [hps.2] at this; exact this
      · rw [upn e2]; exact a5 b i hb2 hi1 hi2
/-- an unchanged state becomes changed -/
theorem PK_move {N m : Nat} {od pl kd fr un cc cm : Nat → Nat} {z : Prop} {s x : Nat} (h : PT N m od pl kd fr un) (hk : PK m od fr un cc cm z) (nz : ¬ z) (hs : s < N) (h0 : cm s = 0) (hx : x ≠ 0) :
    fr (kd s) + cc (kd s) ≤ pl s ∧ fr (kd s) + cc (kd s) < un (kd s) ∧ PK m (va_up (va_up od (pl s) (od (fr (kd s) + cc (kd s)))) (fr (kd s) + cc (kd s)) s) fr un (va_up cc (kd s) (cc (kd s) + 1)) (va_up cm s x) z := by
  obtain ⟨a1, a2, a3, a4, a5⟩ := h
  obtain ⟨k1, k2, k3⟩ := hk
  obtain ⟨hb, hb1, hb2⟩ := a4 s hs
  have hps := a2 s hs
  have hle : fr (kd s) + cc (kd s) ≤ pl s := by
    rcases Nat.lt_or_ge (pl s) (fr (kd s) + cc (kd s)) with q | q
    · rcases k2 (kd s) (pl s) hb hb1 q with y | y
      · rw [hps.2] at y; exact absurd h0 y
      · exact absurd y nz
    · exact q
  have hlt : fr (kd s) + cc (kd s) < un (kd s) := by omega
  refine ⟨hle, hlt, ?_⟩
  obtain ⟨p, hp⟩ : ∃ p, p = fr (kd s) + cc (kd s) := ⟨_, rfl⟩
  rw [← hp] at hle hlt ⊢
  have hpN : p < N := by omega
  have hop := k3 (kd s) p hb (by omega) hlt
  have od' : ∀ i, i ≠ p → i ≠ pl s → va_up (va_up od (pl s) (od p)) p s i = od i := fun i e1 e2 => by rw [upn e1, upn e2]
  have cls : ∀ b i, b < m → fr b ≤ i → i < un b → (i = p ∨ i = pl s) → b = kd s := by
    intro b i hb3 h1 h2 h3
    have h4 := a5 b i hb3 h1 h2
    rcases h3 with h3 | h3
    · rw [h3] at h4
      have := a5 (kd s) p hb (by omega) hlt
      omega
    · rw [h3, hps.2] at h4; exact h4.symm
  have cm' : ∀ i, i < N → i ≠ pl s → va_up cm s x (od i) = cm (od i) := by
    intro i hi e
    refine upn (fun y => e ?_)
    rw [← y]; exact (a1 i hi).2.symm
  refine ⟨fun b hb3 => ?_, fun b i hb3 h1 h2 => ?_, fun b i hb3 h1 h2 => ?_⟩
  · by_cases e : b = kd s
    · rw [e, ups]; omega
    · rw [upn e]; exact k1 b hb3
  · by_cases e : b = kd s
    · rw [e, ups] at h2
      rw [e] at h1
      by_cases ip : i = p
      · rw [ip, ups, ups]; exact Or.inl hx
      · rw [od' i ip (by omega), cm' i (by omega) (by omega)]
        exact k2 (kd s) i hb h1 (by omega)
    · rw [upn e] at h2
      have hiu : i < un b := by have := k1 b hb3; omega
      have n1 : i ≠ p := fun y => e (cls b i hb3 h1 hiu (Or.inl y))
      have n2 : i ≠ pl s := fun y => e (cls b i hb3 h1 hiu (Or.inr y))
      rw [od' i n1 n2, cm' i (by have := (a3 b hb3).2; omega) n2]
      exact k2 b i hb3 h1 h2
  · by_cases e : b = kd s
    · rw [e, ups] at h1
      rw [e] at h2
      have ip : i ≠ p := by omega
      by_cases is : i = pl s
      · rw [is, upn (f := va_up od (pl s) (od p)) (by omega : pl s ≠ p), ups]
        have : od p ≠ s := fun y => by
          have := (a1 p hpN).2
          rw [y] at this
          omega
        rw [upn this]; exact hop
      · have := (a3 (kd s) hb).2
        rw [od' i ip is, cm' i (by omega) is]
        exact k3 (kd s) i hb (by omega) h2
    · rw [upn e] at h1
      have n1 : i ≠ p := fun y => e (cls b i hb3 (by omega) h2 (Or.inl y))
      have n2 : i ≠ pl s := fun y => e (cls b i hb3 (by omega) h2 (Or.inr y))
      rw [od' i n1 n2, cm' i (by have := (a3 b hb3).2; omega) n2]
      exact k3 b i hb3 h1 h2
/-- a changed state has one mark more -/
theorem PK_more {N m : Nat} {od pl kd fr un cc cm : Nat → Nat} {z : Prop} {s x : Nat} (h : PT N m od pl kd fr un) (hk : PK m od fr un cc cm z) (hs : s < N) (h0 : cm s ≠ 0) (hx : x ≠ 0) : PK m od fr un cc (va_up cm s x) z := by
  obtain ⟨k1, k2, k3⟩ := hk
  refine ⟨k1, fun b i hb h1 h2 => ?_, fun b i hb h1 h2 => ?_⟩
  · by_cases e : od i = s
    · rw [e, ups]; exact Or.inl hx
    · rw [upn e]; exact k2 b i hb h1 h2
  · have e : od i ≠ s := fun y => h0 (by rw [← y]; exact k3 b i hb h1 h2)
    rw [upn e]; exact k3 b i hb h1 h2
