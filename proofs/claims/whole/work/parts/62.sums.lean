/-! SUMS AND COUNTS -/
def sm (f : Nat → Nat) : Nat → Nat
  | 0 => 0
  | n + 1 => sm f n + f n
theorem sm_congr {f g : Nat → Nat} : ∀ {n : Nat}, (∀ j, j < n → f j = g j) → sm f n = sm g n
  | 0, _ => rfl
  | n + 1, h => by
    show sm f n + f n = sm g n + g n
    rw [sm_congr (fun j hj => h j (by omega)), h n (by omega)]
theorem sm_zero {f : Nat → Nat} : ∀ {n : Nat}, (∀ j, j < n → f j = 0) → sm f n = 0
  | 0, _ => rfl
  | n + 1, h => by
    show sm f n + f n = 0
    rw [sm_zero (fun j hj => h j (by omega)), h n (by omega)]
theorem sm_add {f g : Nat → Nat} : ∀ {n : Nat}, sm (fun j => f j + g j) n = sm f n + sm g n
  | 0 => rfl
  | n + 1 => by
    show sm (fun j => f j + g j) n + (f n + g n) = sm f n + f n + (sm g n + g n)
    rw [sm_add]; omega
theorem sm_mul {f : Nat → Nat} {c : Nat} : ∀ {n : Nat}, sm (fun j => c * f j) n = c * sm f n
  | 0 => rfl
  | n + 1 => by
    show sm (fun j => c * f j) n + c * f n = c * (sm f n + f n)
    rw [sm_mul, Nat.mul_add]
theorem sm_swap {f : Nat → Nat → Nat} {m : Nat} : ∀ {n : Nat}, sm (fun i => sm (fun j => f i j) m) n = sm (fun j => sm (fun i => f i j) n) m
  | 0 => by
    show 0 = sm (fun j => 0) m
    rw [sm_zero (fun _ _ => rfl)]
  | n + 1 => by
    show sm (fun i => sm (fun j => f i j) m) n + sm (fun j => f n j) m = sm (fun j => sm (fun i => f i j) n + f n j) m
    rw [sm_swap, sm_add]
/-- one term changed -/
theorem sm_one {f g : Nat → Nat} {x c : Nat} : ∀ {n : Nat}, x < n → (∀ j, j < n → j ≠ x → g j = f j) → g x = f x + c → sm g n = sm f n + c
  | n + 1, hx, h, hc => by
    show sm g n + g n = sm f n + f n + c
    by_cases e : x = n
    · subst e
      rw [sm_congr (f := g) (g := f) (fun j hj => h j (by omega) (by omega)), hc]; omega
    · rw [sm_one (x := x) (by omega) (fun j hj => h j (by omega)) hc, h n (by omega) (by omega)]; omega
theorem sm_pos {f : Nat → Nat} : ∀ {n : Nat}, 0 < sm f n → ∃ j, j < n ∧ 0 < f j
  | 0, h => absurd h (by show ¬ 0 < 0; omega)
  | n + 1, h => by
    by_cases e : 0 < f n
    · exact ⟨n, by omega, e⟩
    · have h : 0 < sm f n + f n := h
      obtain ⟨j, h1, h2⟩ := sm_pos (f := f) (n := n) (by omega)
      exact ⟨j, by omega, h2⟩
theorem sm_ge {f : Nat → Nat} {j : Nat} : ∀ {n : Nat}, j < n → f j ≤ sm f n
  | n + 1, h => by
    show f j ≤ sm f n + f n
    by_cases e : j = n
    · subst e; omega
    · have := sm_ge (f := f) (j := j) (n := n) (by omega)
      omega
theorem cnt_congr {p p' : Nat → Bool} : ∀ {n : Nat}, (∀ j, j < n → p j = p' j) → cnt p n = cnt p' n
  | 0, _ => rfl
  | n + 1, h => by
    show cnt p n + _ = cnt p' n + _
    rw [cnt_congr (fun j hj => h j (by omega)), h n (by omega)]
/-- one more is so -/
theorem cnt_one {p p' : Nat → Bool} {x : Nat} : ∀ {n : Nat}, x < n → (∀ j, j < n → j ≠ x → p' j = p j) → p x = false → p' x = true → cnt p' n = cnt p n + 1
  | n + 1, hx, h, h0, h1 => by
    show cnt p' n + _ = cnt p n + _ + 1
    by_cases e : x = n
    · subst e
      rw [cnt_congr (p := p') (p' := p) (fun j hj => h j (by omega) (by omega)), h0, h1]; simp
    · rw [cnt_one (x := x) (by omega) (fun j hj => h j (by omega)) h0 h1, h n (by omega) (by omega)]; omega
theorem cnt_lt {p : Nat → Bool} {x n : Nat} (hx : x < n) (h : p x = false) : cnt p n < n := by
  have h1 := cnt_one (p := p) (p' := va_up p x true) hx (fun j _ hj => upn hj) h ups
  have h2 := cnt_le (va_up p x true) n
  omega
theorem cnt_mono {p p' : Nat → Bool} : ∀ {n : Nat}, (∀ j, j < n → p j = true → p' j = true) → cnt p n ≤ cnt p' n
  | 0, _ => Nat.le_refl _
  | n + 1, h => by
    have h1 := cnt_mono (p := p) (p' := p') (n := n) (fun j hj => h j (by omega))
    have h2 := h n (by omega)
    show cnt p n + _ ≤ cnt p' n + _
    cases e : p n with
    | false => simp; omega
    | true => rw [h2 e]; simp; omega
/-- as many, and those among these: the same -/
theorem cnt_same {p p' : Nat → Bool} : ∀ {n : Nat}, (∀ j, j < n → p j = true → p' j = true) → cnt p n = cnt p' n → ∀ j, j < n → p' j = true → p j = true
  | n + 1, h, e, j, hj, hp => by
    have h1 := cnt_mono (p := p) (p' := p') (n := n) (fun j hj => h j (by omega))
    have e : cnt p n + (if p n = true then 1 else 0) = cnt p' n + (if p' n = true then 1 else 0) := e
    have h2 := h n (by omega)
    by_cases ej : j = n
    · subst ej
      cases ep : p j with
      | true => rfl
      | false => rw [ep, hp] at e; simp at e; omega
    · refine cnt_same (n := n) (fun j hj => h j (by omega)) ?_ j (by omega) hp
      cases ep : p n with
      | true => rw [ep, h2 ep] at e; simp at e; omega
      | false =>
        rw [ep] at e
        cases ep' : p' n with
        | true => rw [ep'] at e; simp at e; omega
        | false => rw [ep'] at e; simp at e; omega
theorem cnt_0 {p : Nat → Bool} : ∀ {n : Nat}, (∀ j, j < n → p j = false) → cnt p n = 0
  | 0, _ => rfl
  | n + 1, h => by
    show cnt p n + _ = 0
    rw [cnt_0 (fun j hj => h j (by omega)), h n (by omega)]; rfl
/-! SEARCHES: a queue q of e states, i of them gone through; d their numbers -/
def BQ (N : Nat) (d : Nat → Option Nat) (q : Nat → Nat) (i e : Nat) : Prop :=
  (∀ j, j < e → q j < N ∧ ∃ n, d (q j) = some n) ∧
  (∀ s n, s < N → d s = some n → ∃ j, j < e ∧ q j = s) ∧
  (∀ j l, j < l → l < e → q j ≠ q l) ∧
  (∀ j l n m, j ≤ l → l < e → d (q j) = some n → d (q l) = some m → n ≤ m) ∧
  (∀ l n m, l < e → i < e → d (q i) = some n → d (q l) = some m → m ≤ n + 1) ∧
  e = cnt (fun s => (d s).isSome) N ∧
  (∀ j n, j < e → d (q j) = some n → n ≤ j)
theorem BQ_lt {N : Nat} {d : Nat → Option Nat} {q : Nat → Nat} {i e t : Nat} (h : BQ N d q i e) (ht : t < N) (hd : d t = none) : e < N := by
  rw [h.2.2.2.2.2.1]
  exact cnt_lt ht (by rw [hd]; rfl)
theorem BQ_le {N : Nat} {d : Nat → Option Nat} {q : Nat → Nat} {i e : Nat} (h : BQ N d q i e) : e ≤ N := by
  rw [h.2.2.2.2.2.1]
  exact cnt_le _ _
theorem BQ_in {N : Nat} {d : Nat → Option Nat} {q : Nat → Nat} {i e t n : Nat} (h : BQ N d q i e) (hi : i < e) (hn : d (q i) = some n) (ht : t < N) (hd : d t = none) : BQ N (va_up d t (some (n + 1))) (va_up q e t) i (e + 1) := by
  obtain ⟨h1, h2, h3, h4, h5, h6, h7⟩ := h
  have nt : ∀ j, j < e → q j ≠ t := by
    intro j hj z
    obtain ⟨-, m, hm⟩ := h1 j hj
    rw [z, hd] at hm
    cases hm
  have rd : ∀ j, j < e → va_up d t (some (n + 1)) (va_up q e t j) = d (q j) := by
    intro j hj
    rw [upn (f := q) (by omega : j ≠ e), upn (nt j hj)]
  have re : va_up d t (some (n + 1)) (va_up q e t e) = some (n + 1) := by rw [ups, ups]
  refine ⟨fun j hj => ?_, fun s m hs hm => ?_, fun j l hjl hl => ?_, fun j l a b hjl hl ha hb => ?_, fun l a b hl _ ha hb => ?_, ?_, fun j m hj hm => ?_⟩
  · by_cases ej : j = e
    · subst ej
      exact ⟨by rw [ups]; exact ht, n + 1, re⟩
    · obtain ⟨a, m, b⟩ := h1 j (by omega)
      refine ⟨by rw [upn ej]; exact a, m, ?_⟩
      rw [rd j (by omega)]; exact b
  · by_cases es : s = t
    · exact ⟨e, by omega, by rw [ups, es]⟩
    · rw [upn es] at hm
      obtain ⟨j, hj, hq⟩ := h2 s m hs hm
      exact ⟨j, by omega, by rw [upn (by omega)]; exact hq⟩
  · rw [upn (f := q) (by omega : j ≠ e)]
    by_cases el : l = e
    · subst el
      rw [ups]; exact nt j hjl
    · rw [upn el]; exact h3 j l hjl (by omega)
  · by_cases el : l = e
    · subst el
      rw [re] at hb
      cases hb
      by_cases ej : j = l
      · subst ej
        rw [re] at ha; cases ha; omega
      · rw [rd j (by omega)] at ha
        have := h5 j n a (by omega) hi hn ha
        omega
    · rw [rd l (by omega)] at hb
      rw [rd j (by omega)] at ha
      exact h4 j l a b hjl (by omega) ha hb
  · rw [rd i hi, hn] at ha
    cases ha
    by_cases el : l = e
    · subst el
      rw [re] at hb
      cases hb; omega
    · rw [rd l (by omega)] at hb
      exact h5 l n b (by omega) hi hn hb
  · rw [h6]
    refine (cnt_one (x := t) ht (fun j _ hj => ?_) ?_ ?_).symm
    · show (va_up d t (some (n + 1)) j).isSome = _
      rw [upn hj]
    · show (d t).isSome = false
      rw [hd]; rfl
    · show (va_up d t (some (n + 1)) t).isSome = true
      rw [ups]; rfl
  · by_cases ej : j = e
    · subst ej
      rw [re] at hm
      cases hm
      have := h7 i n hi hn
      omega
    · rw [rd j (by omega)] at hm
      exact h7 j m (by omega) hm
theorem BQ_nx {N : Nat} {d : Nat → Option Nat} {q : Nat → Nat} {i e : Nat} (h : BQ N d q i e) : BQ N d q (i + 1) e := by
  obtain ⟨h1, h2, h3, h4, h5, h6, h7⟩ := h
  refine ⟨h1, h2, h3, h4, fun l a b hl hi ha hb => ?_, h6, h7⟩
  obtain ⟨-, m, hm⟩ := h1 i (by omega)
  have x1 := h5 l m b hl (by omega) hm hb
  have x2 := h4 i (i + 1) m a (by omega) hi hm ha
  omega
/-- numbers stay below the number of states -/
theorem BQ_d {N : Nat} {d : Nat → Option Nat} {q : Nat → Nat} {i e s n : Nat} (h : BQ N d q i e) (hs : s < N) (hd : d s = some n) : n < N := by
  obtain ⟨j, hj, hq⟩ := h.2.1 s n hs hd
  have h1 := h.2.2.2.2.2.2 j n hj (by rw [hq]; exact hd)
  have h2 := BQ_le h
  omega
