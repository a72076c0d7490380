/-! WAYS: what the search forward counts -/
/-- dn: gone through; c: how many edges of the state in hand are counted already -/
def FW (σ : Wd) (d : Nat → Option Nat) (q : Nat → Nat) (i : Nat) (dn : Nat → Bool) (w : Nat → Nat) (c : Nat → Nat) : Prop :=
  (∀ u, dn u = true ↔ ∃ j, j < i ∧ q j = u) ∧
  (∀ t, t < nS σ → d t = some 0 → w t = 1) ∧
  (∀ t n, t < nS σ → d t = some (n + 1) → w t = sm (fun v => if dn v = true ∧ d v = some n then w v * mm σ v t else 0) (nS σ) + (if d (q i) = some n then w (q i) * c t else 0))
theorem FW_0 {σ : Wd} {q : Nat → Nat} {w : Nat → Nat} (hw : w (dB σ) = 1) : FW σ (va_up (fun _ => none) (dB σ) (some 0)) q 0 (fun _ => false) w (fun _ => 0) := by
  refine ⟨fun u => ⟨fun h => (by cases h), fun ⟨j, h, _⟩ => (by omega)⟩, fun t _ h => ?_, fun t n _ h => ?_⟩
  · by_cases e : t = dB σ
    · rw [e]; exact hw
    · rw [upn e] at h; cases h
  · by_cases e : t = dB σ
    · subst e; rw [ups] at h; cases h
    · rw [upn e] at h; cases h
/-- a state is come to for the first time -/
theorem FW_in {σ : Wd} {d : Nat → Option Nat} {q : Nat → Nat} {i e t n : Nat} {dn : Nat → Bool} {w c : Nat → Nat} (h : FI σ d q i e) (hw : FW σ d q i dn w c) (hi : i < e) (hn : d (q i) = some n) (ht : t < nS σ) (hd : d t = none) (hc : c t = 0) : FW σ (va_up d t (some (n + 1))) (va_up q e t) i dn (va_up w t 0) c := by
  obtain ⟨hq, h0, h1, h2⟩ := h
  obtain ⟨w1, w2, w3⟩ := hw
  have nt : ∀ j, j < e → q j ≠ t := by
    intro j hj z
    obtain ⟨-, m, hm⟩ := hq.1 j hj
    rw [z, hd] at hm
    cases hm
  have qi : va_up q e t i = q i := upn (by omega)
  have dt : dn t = false := by
    cases hdt : dn t with
    | false => rfl
    | true =>
      obtain ⟨j, hj, hjq⟩ := (w1 t).mp hdt
      exact absurd hjq (nt j (by omega))
  have sme : ∀ y m, sm (fun v => if dn v = true ∧ va_up d t (some (n + 1)) v = some m then va_up w t 0 v * mm σ v y else 0) (nS σ) = sm (fun v => if dn v = true ∧ d v = some m then w v * mm σ v y else 0) (nS σ) := by
    intro y m
    refine sm_congr (fun v _ => ?_)
    by_cases ev : v = t
    · subst ev; rw [dt]; simp
    · rw [upn ev, upn ev]
  refine ⟨fun u => ?_, fun y hy h => ?_, fun y m hy h => ?_⟩
  · rw [w1 u]
    constructor
    · rintro ⟨j, a, b⟩; exact ⟨j, a, by rw [upn (by omega)]; exact b⟩
    · rintro ⟨j, a, b⟩; rw [upn (by omega)] at b; exact ⟨j, a, b⟩
  · by_cases ey : y = t
    · subst ey; rw [ups] at h; cases h
    · rw [upn ey] at h ⊢; exact w2 y hy h
  · rw [sme y m, qi, upn (f := d) (nt i hi), upn (f := w) (nt i hi)]
    by_cases ey : y = t
    · subst ey
      rw [ups, hc, Nat.mul_zero]
      have z : sm (fun v => if dn v = true ∧ d v = some m then w v * mm σ v y else 0) (nS σ) = 0 := by
        refine sm_zero (fun v _ => ?_)
        by_cases hv : dn v = true ∧ d v = some m
        · rw [if_pos hv]
          obtain ⟨j, hj, hjq⟩ := (w1 v).mp hv.1
          rw [mm_0 (fun hst => ?_), Nat.mul_zero]
          obtain ⟨m2, -, hm2⟩ := h2 j y m hj (by omega) (by rw [hjq]; exact hst) (by rw [hjq]; exact hv.2)
          rw [hd] at hm2; cases hm2
        · rw [if_neg hv]
      rw [z]; simp
    · rw [upn ey] at h ⊢
      exact w3 y m hy h
/-- its ways are counted -/
theorem FW_up {σ : Wd} {d : Nat → Option Nat} {q : Nat → Nat} {i e t n : Nat} {dn : Nat → Bool} {w c c' : Nat → Nat} (h : FI σ d q i e) (hw : FW σ d q i dn w c) (hi : i < e) (hn : d (q i) = some n) (ht : t < nS σ) (hd : d t = some (n + 1)) (hc : c' t = c t + 1) (hc2 : ∀ y, y ≠ t → c' y = c y) : FW σ d q i dn (va_up w t (w t + w (q i))) c' := by
  obtain ⟨hq, h0, h1, h2⟩ := h
  obtain ⟨w1, w2, w3⟩ := hw
  have ut : q i ≠ t := fun z => by rw [z, hd] at hn; cases hn
  have vt : ∀ v, dn v = true → v ≠ t := by
    intro v hv z
    obtain ⟨j, hj, hjq⟩ := (w1 v).mp hv
    subst z
    have := hq.2.2.2.1 j i (n + 1) n (by omega) hi (by rw [hjq]; exact hd) hn
    omega
  have sme : ∀ y m, sm (fun v => if dn v = true ∧ d v = some m then va_up w t (w t + w (q i)) v * mm σ v y else 0) (nS σ) = sm (fun v => if dn v = true ∧ d v = some m then w v * mm σ v y else 0) (nS σ) := by
    intro y m
    refine sm_congr (fun v _ => ?_)
    by_cases hv : dn v = true
    · rw [upn (vt v hv)]
    · rw [if_neg (fun z => hv z.1), if_neg (fun z => hv z.1)]
  refine ⟨w1, fun y hy h => ?_, fun y m hy h => ?_⟩
  · have : y ≠ t := fun z => by rw [z, hd] at h; cases h
    rw [upn this]; exact w2 y hy h
  · rw [sme y m, upn ut]
    by_cases ey : y = t
    · subst ey
      rw [hd] at h
      cases h
      rw [ups, hc, if_pos hn, w3 y n hy hd, if_pos hn, Nat.mul_add]; omega
    · rw [upn ey, hc2 y ey]; exact w3 y m hy h
/-- an edge that counts for nothing -/
theorem FW_no {σ : Wd} {d : Nat → Option Nat} {q : Nat → Nat} {i n : Nat} {dn : Nat → Bool} {w c c' : Nat → Nat} (hw : FW σ d q i dn w c) (hn : d (q i) = some n) (hc : ∀ y, y < nS σ → d y = some (n + 1) → c' y = c y) : FW σ d q i dn w c' := by
  obtain ⟨w1, w2, w3⟩ := hw
  refine ⟨w1, w2, fun y m hy h => ?_⟩
  by_cases e : d (q i) = some m
  · rw [hn] at e
    cases e
    rw [hc y hy h]; exact w3 y n hy h
  · rw [if_neg e]
    have := w3 y m hy h
    rw [if_neg e] at this
    exact this
/-- the state in hand is gone through -/
theorem FW_nx {σ : Wd} {d : Nat → Option Nat} {q : Nat → Nat} {i e : Nat} {dn : Nat → Bool} {w c : Nat → Nat} (hq : BQ (nS σ) d q i e) (hw : FW σ d q i dn w c) (hi : i < e) (hc : ∀ y, y < nS σ → c y = mm σ (q i) y) : FW σ d q (i + 1) (va_up dn (q i) true) w (fun _ => 0) := by
  obtain ⟨w1, w2, w3⟩ := hw
  have du : dn (q i) = false := by
    cases hdt : dn (q i) with
    | false => rfl
    | true =>
      obtain ⟨j, hj, hjq⟩ := (w1 (q i)).mp hdt
      exact absurd hjq (hq.2.2.1 j i hj hi)
  refine ⟨fun u => ?_, w2, fun y m hy h => ?_⟩
  · by_cases e : u = q i
    · subst e
      rw [ups]
      exact ⟨fun _ => ⟨i, by omega, rfl⟩, fun _ => rfl⟩
    · rw [upn e, w1 u]
      constructor
      · rintro ⟨j, a, b⟩; exact ⟨j, by omega, b⟩
      · rintro ⟨j, a, b⟩
        exact ⟨j, by
          rcases Nat.lt_or_ge j i with z | z
          · exact z
          · exact absurd (by rw [show j = i by omega] at b; exact b.symm) e, b⟩
  · have w4 := w3 y m hy h
    rw [hc y hy] at w4
    rw [w4, Nat.mul_zero]
    have : sm (fun v => if va_up dn (q i) true v = true ∧ d v = some m then w v * mm σ v y else 0) (nS σ) = sm (fun v => if dn v = true ∧ d v = some m then w v * mm σ v y else 0) (nS σ) + (if d (q i) = some m then w (q i) * mm σ (q i) y else 0) := by
      refine sm_one (hq.1 i hi).1 (fun v _ hv => ?_) ?_
      · rw [upn hv]
      · rw [ups, du]; simp
    rw [this]; simp
/-! WALKS of n acts: from the start to s; from s to the aim -/
def wkF (σ : Wd) : Nat → Nat → Nat
  | 0, s => if s = dB σ then 1 else 0
  | n + 1, s => sm (fun v => wkF σ n v * mm σ v s) (nS σ)
def wkB (σ : Wd) : Nat → Nat → Nat
  | 0, s => if aimW σ s = true then 1 else 0
  | n + 1, s => sm (fun t => mm σ s t * wkB σ n t) (nS σ)
theorem wkF_pos {σ : Wd} : ∀ {n s : Nat}, 0 < wkF σ n s → rch σ n s
  | 0, s, h => by
    have h : 0 < if s = dB σ then 1 else 0 := h
    by_cases e : s = dB σ
    · exact e
    · rw [if_neg e] at h; omega
  | n + 1, s, h => by
    obtain ⟨v, -, hv⟩ := sm_pos h
    exact ⟨v, wkF_pos (Nat.pos_of_mul_pos_right hv), mm_pos.mp (Nat.pos_of_mul_pos_left hv)⟩
/-- the ways behind the search are the walks -/
theorem FW_end {σ : Wd} {d : Nat → Option Nat} {q : Nat → Nat} {i e : Nat} {dn : Nat → Bool} {w : Nat → Nat} (hD : isDist σ d) (hB : dB σ < nS σ) (hq : BQ (nS σ) d q i e) (hi : e ≤ i) (hw : FW σ d q i dn w (fun _ => 0)) : ∀ n t, t < nS σ → d t = some n → w t = wkF σ n t := by
  obtain ⟨w1, w2, w3⟩ := hw
  intro n
  induction n with
  | zero =>
    intro t ht hd
    rw [w2 t ht hd]
    have : t = dB σ := ((hD t ht 0).mp hd).1
    show 1 = if t = dB σ then 1 else 0
    rw [if_pos this]
  | succ n ih =>
    intro t ht hd
    rw [w3 t n ht hd, Nat.mul_zero]
    show _ = sm (fun v => wkF σ n v * mm σ v t) (nS σ)
    simp only [ite_self, Nat.add_zero]
    refine sm_congr (fun v hv => ?_)
    have hDt := (hD t ht (n + 1)).mp hd
    by_cases hdv : d v = some n
    · obtain ⟨j, hj, hjq⟩ := hq.2.1 v n hv hdv
      rw [if_pos ⟨(w1 v).mpr ⟨j, by omega, hjq⟩, hdv⟩, ih v hv hdv]
    · rw [if_neg (fun z => hdv z.2)]
      symm
      rcases Nat.eq_zero_or_pos (wkF σ n v * mm σ v t) with z | z
      · exact z
      · exfalso
        have r1 := wkF_pos (Nat.pos_of_mul_pos_right z)
        have s1 := mm_pos.mp (Nat.pos_of_mul_pos_left z)
        obtain ⟨m, hm, hm2⟩ := isD_ex r1
        by_cases em : m = n
        · subst em; exact hdv ((hD v hv m).mpr hm2)
        · exact hDt.2 (m + 1) (by omega) ⟨v, hm2.1, s1⟩
