/-! THE SET OF CLASSES BEHIND AN ACT AS ONE NUMBER -/
def kLo (x y z : Nat) : Nat := min x (min y z)
def kHi (x y z : Nat) : Nat := max x (max y z)
def kMd (x y z : Nat) : Nat := x + y + z - kLo x y z - kHi x y z
def kM2 (x y z : Nat) : Nat := if kMd x y z = kHi x y z then kLo x y z else kMd x y z
def kbT (x y z : Nat) : Nat := 1 + (kLo x y z * 16777216 + kM2 x y z * 4096 + kHi x y z)
theorem kb_mem {x y z v : Nat} : (v = x ∨ v = y ∨ v = z) ↔ (v = kLo x y z ∨ v = kM2 x y z ∨ v = kHi x y z) := by
  unfold kM2
  split
  · rename_i h; unfold kMd kLo kHi at *; omega
  · rename_i h; unfold kMd kLo kHi at *; omega
theorem kb_A {x y z v : Nat} (h : v = x ∨ v = y ∨ v = z) (h1 : kLo x y z < v) (h2 : v < kHi x y z) : kM2 x y z = v := by
  unfold kM2
  split
  · rename_i h3; unfold kMd kLo kHi at *; omega
  · rename_i h3; unfold kMd kLo kHi at *; omega
theorem kb_B {x y z : Nat} (h : kM2 x y z ≠ kLo x y z) : kLo x y z < kM2 x y z ∧ kM2 x y z < kHi x y z ∧ (kM2 x y z = x ∨ kM2 x y z = y ∨ kM2 x y z = z) := by
  unfold kM2 at *
  split at h
  · omega
  · rename_i h3
    rw [if_neg h3]
    unfold kMd kLo kHi at *; omega
theorem kb_in {x y z : Nat} : kLo x y z ≤ x ∧ kLo x y z ≤ y ∧ kLo x y z ≤ z ∧ x ≤ kHi x y z ∧ y ≤ kHi x y z ∧ z ≤ kHi x y z ∧ (kLo x y z = x ∨ kLo x y z = y ∨ kLo x y z = z) ∧ (kHi x y z = x ∨ kHi x y z = y ∨ kHi x y z = z) := by
  unfold kLo kHi; omega
theorem dig2 {X X' c c' B : Nat} (hc : c < B) (hc' : c' < B) (h : X * B + c = X' * B + c') : X = X' ∧ c = c' := by
  have h1 : (X * B + c) % B = (X' * B + c') % B := by rw [h]
  rw [Nat.mul_add_mod', Nat.mul_add_mod', Nat.mod_eq_of_lt hc, Nat.mod_eq_of_lt hc'] at h1
  subst h1
  exact ⟨Nat.eq_of_mul_eq_mul_right (by omega) (Nat.add_right_cancel h), rfl⟩
theorem dig3 {a b c a' b' c' : Nat} (hb : b < 4096) (hc : c < 4096) (hb' : b' < 4096) (hc' : c' < 4096) (h : a * 16777216 + b * 4096 + c = a' * 16777216 + b' * 4096 + c') : a = a' ∧ b = b' ∧ c = c' := by
  obtain ⟨h2, h3⟩ := dig2 (X := a * 4096 + b) (X' := a' * 4096 + b') (B := 4096) hc hc' (by rw [Nat.add_mul, Nat.add_mul, Nat.mul_assoc, Nat.mul_assoc]; exact h)
  obtain ⟨h4, h5⟩ := dig2 hb hb' h2
  exact ⟨h4, h5, h3⟩
theorem kb_eq {x y z x' y' z' : Nat} (h1 : x < 4096 ∧ y < 4096 ∧ z < 4096) (h2 : x' < 4096 ∧ y' < 4096 ∧ z' < 4096) : kbT x y z = kbT x' y' z' ↔ ∀ v, (v = x ∨ v = y ∨ v = z) ↔ (v = x' ∨ v = y' ∨ v = z') := by
  have a1 := kb_in (x := x) (y := y) (z := z)
  have a2 := kb_in (x := x') (y := y') (z := z')
  have m1 : kM2 x y z < 4096 := by unfold kM2; split <;> unfold kMd kLo kHi at * <;> omega
  have m2 : kM2 x' y' z' < 4096 := by unfold kM2; split <;> unfold kMd kLo kHi at * <;> omega
  constructor
  · intro h v
    unfold kbT at h
    obtain ⟨d1, d2, d3⟩ := dig3 m1 (by omega) m2 (by omega) (Nat.add_left_cancel h)
    rw [kb_mem (x := x), kb_mem (x := x'), d1, d2, d3]
  · intro h
    have el : kLo x y z = kLo x' y' z' := by
      have p := (h _).mp a1.2.2.2.2.2.2.1
      have q := (h _).mpr a2.2.2.2.2.2.2.1
      generalize kLo x y z = u at *
      generalize kLo x' y' z' = u' at *
      omega
    have eh : kHi x y z = kHi x' y' z' := by
      have p := (h _).mp a1.2.2.2.2.2.2.2
      have q := (h _).mpr a2.2.2.2.2.2.2.2
      generalize kHi x y z = u at *
      generalize kHi x' y' z' = u' at *
      omega
    have em : kM2 x y z = kM2 x' y' z' := by
      by_cases e : kM2 x y z = kLo x y z
      · by_cases e' : kM2 x' y' z' = kLo x' y' z'
        · rw [e, e', el]
        · obtain ⟨b1, b2, b3⟩ := kb_B e'
          exact kb_A ((h _).mpr b3) (by omega) (by omega)
      · obtain ⟨b1, b2, b3⟩ := kb_B e
        exact (kb_A ((h _).mp b3) (by omega) (by omega)).symm
    unfold kbT
    rw [el, eh, em]
theorem kb_lt {x y z : Nat} (h1 : x < 4096 ∧ y < 4096 ∧ z < 4096) : kbT x y z ≤ 68719476736 := by
  have a1 := kb_in (x := x) (y := y) (z := z)
  have m1 : kM2 x y z < 4096 := by unfold kM2; split <;> unfold kMd kLo kHi at * <;> omega
  unfold kbT
  omega
/-- the classes that act a leads to from s -/
def kbW (σ : Wd) (kd : Nat → Nat) (s a : Nat) : Nat → Nat := fun k => kd (goA σ s a (if k < dO σ a then k else 0))
def kbN (σ : Wd) (kd : Nat → Nat) (s a : Nat) (can : Bool) : Nat := if can = true then kbT (kbW σ kd s a 0) (kbW σ kd s a 1) (kbW σ kd s a 2) else 0
theorem kbW_mem {σ : Wd} {kd : Nat → Nat} {s a v : Nat} (h1 : 1 ≤ dO σ a) (h3 : dO σ a ≤ 3) : (v = kbW σ kd s a 0 ∨ v = kbW σ kd s a 1 ∨ v = kbW σ kd s a 2) ↔ ∃ k, k < dO σ a ∧ v = kd (goA σ s a k) := by
  unfold kbW
  constructor
  · rintro (h | h | h)
    · exact ⟨if 0 < dO σ a then 0 else 0, by split <;> omega, h⟩
    · exact ⟨if 1 < dO σ a then 1 else 0, by split <;> omega, h⟩
    · exact ⟨if 2 < dO σ a then 2 else 0, by split <;> omega, h⟩
  · rintro ⟨k, hk, h⟩
    have : k = 0 ∨ k = 1 ∨ k = 2 := by omega
    rcases this with e | e | e
    · subst e; rw [if_pos hk]; exact Or.inl h
    · subst e; rw [if_pos hk]; exact Or.inr (Or.inl h)
    · subst e; rw [if_pos hk]; exact Or.inr (Or.inr h)
theorem kbN_mch {σ : Wd} {kd : Nat → Nat} {s t a : Nat} {cs ct : Bool} (h1 : 1 ≤ dO σ a) (h3 : dO σ a ≤ 3) (hs : ∀ k, k < dO σ a → kd (goA σ s a k) < 4096) (ht : ∀ k, k < dO σ a → kd (goA σ t a k) < 4096) (ecs : cs = true ↔ canW σ s a) (ect : ct = true ↔ canW σ t a) : kbN σ kd s a cs = kbN σ kd t a ct ↔ mch σ (fun x y => kd x = kd y) s t a := by
  have bs : ∀ k, kbW σ kd s a k < 4096 := fun k => hs _ (by split <;> omega)
  have bt : ∀ k, kbW σ kd t a k < 4096 := fun k => ht _ (by split <;> omega)
  unfold kbN mch
  rw [← ecs, ← ect]
  cases cs with
  | false =>
    cases ct with
    | false => simp
    | true => simp [kbT]; omega
  | true =>
    cases ct with
    | false => simp [kbT]
    | true =>
      simp only [if_true, true_iff, true_implies, true_and]
      rw [kb_eq ⟨bs 0, bs 1, bs 2⟩ ⟨bt 0, bt 1, bt 2⟩]
      constructor
      · intro h
        refine ⟨fun k hk => ?_, fun j hj => ?_⟩
        · obtain ⟨j, hj, e⟩ := (kbW_mem h1 h3).mp ((h (kd (goA σ s a k))).mp ((kbW_mem h1 h3).mpr ⟨k, hk, rfl⟩))
          exact ⟨j, hj, e⟩
        · obtain ⟨k, hk, e⟩ := (kbW_mem h1 h3).mp ((h (kd (goA σ t a j))).mpr ((kbW_mem h1 h3).mpr ⟨j, hj, rfl⟩))
          exact ⟨k, hk, e.symm⟩
      · rintro ⟨g1, g2⟩ v
        rw [kbW_mem h1 h3, kbW_mem h1 h3]
        constructor
        · rintro ⟨k, hk, e⟩
          obtain ⟨j, hj, e2⟩ := g1 k hk
          exact ⟨j, hj, e.trans e2⟩
        · rintro ⟨j, hj, e⟩
          obtain ⟨k, hk, e2⟩ := g2 j hj
          exact ⟨k, hk, e.trans e2.symm⟩
/-! A TABLE OF KEYS: S slots, the first free one from the key's own on -/
def HT (S : Nat) (hs : Nat → Nat) (tb : Nat → Option Nat) (ky : Nat → Nat) (gs : Nat) : Prop :=
  (∀ p p', p < S → p' < S → tb p ≠ none → tb p' ≠ none → ky p = ky p' → p = p') ∧
  (∀ p, p < S → tb p ≠ none → ∃ n, n < S ∧ p = (hs (ky p) + n) % S ∧ ∀ j, j < n → tb ((hs (ky p) + j) % S) ≠ none) ∧
  gs = cnt (fun p => (tb p).isSome) S ∧
  (∀ p g, p < S → tb p = some g → g < gs) ∧
  (∀ p p' g, p < S → p' < S → tb p = some g → tb p' = some g → p = p') ∧
  (∀ g, g < gs → ∃ p, p < S ∧ tb p = some g)
theorem mod_all {S h f : Nat} (hS : 0 < S) (hf : f < S) : ∃ j, j < S ∧ f = (h + j) % S := by
  refine ⟨(f + (S - h % S)) % S, Nat.mod_lt _ hS, ?_⟩
  have h1 : h % S < S := Nat.mod_lt _ hS
  rw [Nat.add_mod, Nat.mod_mod, ← Nat.add_mod, ← Nat.mod_add_div h S]
  rw [show h % S + S * (h / S) + (f + (S - (h % S + S * (h / S)) % S)) = f + S + S * (h / S) by
    rw [Nat.add_mul_mod_self_left, Nat.mod_mod]; omega]
  rw [Nat.add_mul_mod_self_left, Nat.add_mod_right, Nat.mod_eq_of_lt hf]
/-- where the probing stops -/
theorem HT_stop {S : Nat} {hs : Nat → Nat} {tb : Nat → Option Nat} {ky : Nat → Nat} {gs key n : Nat} (h : HT S hs tb ky gs) (hg : gs < S) (hn : n < S) (hb : ∀ j, j < n → tb ((hs key + j) % S) ≠ none ∧ ky ((hs key + j) % S) ≠ key) (hend : tb ((hs key + n) % S) = none ∨ ky ((hs key + n) % S) = key ∨ n + 1 = S) : tb ((hs key + n) % S) = none ∨ ky ((hs key + n) % S) = key := by
  rcases hend with e | e | e
  · exact Or.inl e
  · exact Or.inr e
  · apply Classical.byContradiction
    intro no
    have all : ∀ p, p < S → (tb p).isSome = true := by
      intro p hp
      obtain ⟨j, hj, ej⟩ := mod_all (h := hs key) (by omega) hp
      have : tb p ≠ none := by
        rw [ej]
        by_cases e2 : j = n
        · rw [e2]; exact fun z => no (Or.inl z)
        · exact (hb j (by omega)).1
      cases hx : tb p with
      | none => exact absurd hx this
      | some _ => rfl
    have := inj_cnt (f := fun j => j) (N := S) (e := S) (p := fun p => (tb p).isSome) (fun j hj => ⟨hj, all j hj⟩) (fun j l hj _ z => by omega)
    have h3 := h.2.2.1
    omega
/-- a free slot: the key is new -/
theorem HT_new {S : Nat} {hs : Nat → Nat} {tb : Nat → Option Nat} {ky : Nat → Nat} {gs key n : Nat} (h : HT S hs tb ky gs) (hn : n < S) (hb : ∀ j, j < n → tb ((hs key + j) % S) ≠ none ∧ ky ((hs key + j) % S) ≠ key) (hf : tb ((hs key + n) % S) = none) : (∀ p, p < S → tb p ≠ none → ky p ≠ key) ∧ HT S hs (va_up tb ((hs key + n) % S) (some gs)) (va_up ky ((hs key + n) % S) key) (gs + 1) := by
  obtain ⟨h1, h2, h3, h4, h5, h6⟩ := h
  have hS : 0 < S := by omega
  have hpS : (hs key + n) % S < S := Nat.mod_lt _ hS
  have nk : ∀ p, p < S → tb p ≠ none → ky p ≠ key := by
    intro p hp ht e
    obtain ⟨x, hx1, hx2, hx3⟩ := h2 p hp ht
    rw [e] at hx2 hx3
    rcases Nat.lt_trichotomy x n with q | q | q
    · exact (hb x q).2 (by rw [← hx2]; exact e)
    · rw [q] at hx2; rw [← hx2] at hf; exact ht hf
    · exact hx3 n q hf
  refine ⟨nk, ?_⟩
  obtain ⟨r, er⟩ : ∃ r, r = (hs key + n) % S := ⟨_, rfl⟩
  rw [← er] at hf hpS ⊢
  have so : ∀ p, tb p ≠ none → va_up tb r (some gs) p ≠ none := by
    intro p hp
    by_cases e : p = r
    · rw [e, ups]; simp
    · rw [upn e]; exact hp
  have kn : ∀ p, p < S → p ≠ r → va_up tb r (some gs) p ≠ none → tb p ≠ none := fun p _ e z => by rw [upn e] at z; exact z
  refine ⟨fun p p' hp hp' t1 t2 e => ?_, fun p hp t1 => ?_, ?_, fun p g hp t1 => ?_, fun p p' g hp hp' t1 t2 => ?_, fun g hg => ?_⟩
  · by_cases e1 : p = r <;> by_cases e2 : p' = r
    · omega
    · rw [e1, ups, upn e2] at e
      exact absurd e.symm (nk p' hp' (kn p' hp' e2 t2))
    · rw [e2, ups, upn e1] at e
      exact absurd e (nk p hp (kn p hp e1 t1))
    · rw [upn e1, upn e2] at e
      exact h1 p p' hp hp' (kn p hp e1 t1) (kn p' hp' e2 t2) e
  · by_cases e1 : p = r
    · rw [e1, ups]
      exact ⟨n, hn, er, fun j hj => so _ (hb j hj).1⟩
    · rw [upn e1]
      obtain ⟨x, x1, x2, x3⟩ := h2 p hp (kn p hp e1 t1)
      exact ⟨x, x1, x2, fun j hj => so _ (x3 j hj)⟩
  · rw [h3]
    refine (cnt_one (x := r) hpS (fun j _ hj => ?_) ?_ ?_).symm
    · show (va_up tb r _ j).isSome = _
      rw [upn hj]
    · show (tb r).isSome = false
      rw [hf]; rfl
    · show (va_up tb r (some _) r).isSome = true
      rw [ups]; rfl
  · by_cases e1 : p = r
    · rw [e1, ups] at t1; cases t1; omega
    · rw [upn e1] at t1; have := h4 p g hp t1; omega
  · by_cases e1 : p = r <;> by_cases e2 : p' = r
    · omega
    · rw [e1, ups] at t1
      rw [upn e2] at t2
      cases t1
      have := h4 p' gs hp' t2; omega
    · rw [e2, ups] at t2
      rw [upn e1] at t1
      cases t2
      have := h4 p gs hp t1; omega
    · rw [upn e1] at t1
      rw [upn e2] at t2
      exact h5 p p' g hp hp' t1 t2
  · by_cases e : g = gs
    · exact ⟨r, hpS, by rw [ups, e]⟩
    · obtain ⟨p, hp, t⟩ := h6 g (by omega)
      refine ⟨p, hp, ?_⟩
      rw [upn (fun z => by rw [z, hf] at t; cases t)]; exact t
theorem HT_0 {S : Nat} {hs ky : Nat → Nat} : HT S hs (fun _ => none) ky 0 := by
  refine ⟨fun p p' _ _ t => absurd rfl t, fun p _ t => absurd rfl t, ?_, fun p g _ t => (by cases t), fun p p' g _ _ t => (by cases t), fun g hg => by omega⟩
  exact (cnt_0 (fun _ _ => rfl)).symm
