/-! ALIKE: states that nothing tells apart -/
/-- where outcome k of act a leads -/
def goA (σ : Wd) (s a k : Nat) : Nat := goW σ (dE σ a k) s
/-- p leads from s by act a to just the classes it leads to from t -/
def mch (σ : Wd) (E : Nat → Nat → Prop) (s t a : Nat) : Prop := (canW σ s a ↔ canW σ t a) ∧ (canW σ s a → (∀ k, k < dO σ a → ∃ j, j < dO σ a ∧ E (goA σ s a k) (goA σ t a j)) ∧ ∀ j, j < dO σ a → ∃ k, k < dO σ a ∧ E (goA σ s a k) (goA σ t a j))
def ekv (σ : Wd) : Nat → Nat → Nat → Prop
  | 0, s, t => aimW σ s = aimW σ t
  | n + 1, s, t => ekv σ n s t ∧ ∀ a, a < dA σ → mch σ (ekv σ n) s t a
theorem mch_mono {σ : Wd} {E E' : Nat → Nat → Prop} {s t a : Nat} (h : ∀ x y, E x y → E' x y) (hm : mch σ E s t a) : mch σ E' s t a := by
  refine ⟨hm.1, fun hc => ?_⟩
  obtain ⟨h1, h2⟩ := hm.2 hc
  refine ⟨fun k hk => ?_, fun j hj => ?_⟩
  · obtain ⟨j, a, b⟩ := h1 k hk; exact ⟨j, a, h _ _ b⟩
  · obtain ⟨k, a, b⟩ := h2 j hj; exact ⟨k, a, h _ _ b⟩
theorem mch_refl {σ : Wd} {E : Nat → Nat → Prop} (h : ∀ x, E x x) {s a : Nat} : mch σ E s s a := ⟨Iff.rfl, fun _ => ⟨fun k hk => ⟨k, hk, h _⟩, fun k hk => ⟨k, hk, h _⟩⟩⟩
theorem mch_symm {σ : Wd} {E : Nat → Nat → Prop} (h : ∀ x y, E x y → E y x) {s t a : Nat} (hm : mch σ E s t a) : mch σ E t s a := by
  refine ⟨hm.1.symm, fun hc => ?_⟩
  obtain ⟨h1, h2⟩ := hm.2 (hm.1.mpr hc)
  refine ⟨fun k hk => ?_, fun j hj => ?_⟩
  · obtain ⟨j, a, b⟩ := h2 k hk; exact ⟨j, a, h _ _ b⟩
  · obtain ⟨k, a, b⟩ := h1 j hj; exact ⟨k, a, h _ _ b⟩
theorem mch_trans {σ : Wd} {E : Nat → Nat → Prop} (h : ∀ x y z, E x y → E y z → E x z) {s t u a : Nat} (h1 : mch σ E s t a) (h2 : mch σ E t u a) : mch σ E s u a := by
  refine ⟨h1.1.trans h2.1, fun hc => ?_⟩
  obtain ⟨a1, b1⟩ := h1.2 hc
  obtain ⟨a2, b2⟩ := h2.2 (h1.1.mp hc)
  refine ⟨fun k hk => ?_, fun j hj => ?_⟩
  · obtain ⟨j, hj, x⟩ := a1 k hk
    obtain ⟨l, hl, y⟩ := a2 j hj
    exact ⟨l, hl, h _ _ _ x y⟩
  · obtain ⟨k, hk, x⟩ := b2 j hj
    obtain ⟨l, hl, y⟩ := b1 k hk
    exact ⟨l, hl, h _ _ _ y x⟩
theorem ekv_refl {σ : Wd} : ∀ n s, ekv σ n s s
  | 0, _ => rfl
  | n + 1, s => ⟨ekv_refl n s, fun _ _ => mch_refl (ekv_refl n)⟩
theorem ekv_symm {σ : Wd} : ∀ n s t, ekv σ n s t → ekv σ n t s
  | 0, _, _, h => Eq.symm h
  | n + 1, s, t, h => ⟨ekv_symm n s t h.1, fun a ha => mch_symm (ekv_symm n) (h.2 a ha)⟩
theorem ekv_trans {σ : Wd} : ∀ n s t u, ekv σ n s t → ekv σ n t u → ekv σ n s u
  | 0, _, _, _, h1, h2 => Eq.trans h1 h2
  | n + 1, s, t, u, h1, h2 => ⟨ekv_trans n s t u h1.1 h2.1, fun a ha => mch_trans (ekv_trans n) (h1.2 a ha) (h2.2 a ha)⟩
theorem ekv_le {σ : Wd} {n m s t : Nat} (h : n ≤ m) (he : ekv σ m s t) : ekv σ n s t := by
  induction m with
  | zero => rw [show n = 0 by omega]; exact he
  | succ m ih =>
    by_cases e : n = m + 1
    · rw [e]; exact he
    · exact ih (by omega) he.1
def alk (σ : Wd) (s t : Nat) : Prop := ∀ n, ekv σ n s t
theorem alk_refl {σ : Wd} (s : Nat) : alk σ s s := fun n => ekv_refl n s
theorem alk_symm {σ : Wd} {s t : Nat} (h : alk σ s t) : alk σ t s := fun n => ekv_symm n s t (h n)
theorem alk_trans {σ : Wd} {s t u : Nat} (h1 : alk σ s t) (h2 : alk σ t u) : alk σ s u := fun n => ekv_trans n s t u (h1 n) (h2 n)
/-- alike states match in alike states -/
theorem alk_pick {σ : Wd} {x : Nat} {f : Nat → Nat} : ∀ m, (∀ n, ∃ j, j < m ∧ ekv σ n x (f j)) → ∃ j, j < m ∧ alk σ x (f j)
  | 0, h => by obtain ⟨j, hj, -⟩ := h 0; omega
  | m + 1, h => by
    by_cases hm : alk σ x (f m)
    · exact ⟨m, by omega, hm⟩
    · have : ∃ n0, ¬ ekv σ n0 x (f m) := Classical.byContradiction (fun z => hm (fun n => Classical.byContradiction (fun y => z ⟨n, y⟩)))
      obtain ⟨n0, hn0⟩ := this
      obtain ⟨j, hj, ha⟩ := alk_pick (σ := σ) (x := x) (f := f) m (fun n => by
        obtain ⟨j, hj, he⟩ := h (n + n0)
        refine ⟨j, ?_, ekv_le (by omega) he⟩
        rcases Nat.lt_or_ge j m with z | z
        · exact z
        · exact absurd (ekv_le (n := n0) (m := n + n0) (by omega) (by rw [show j = m by omega] at he; exact he)) hn0)
      exact ⟨j, by omega, ha⟩
theorem alk_mch {σ : Wd} {s t a : Nat} (h : alk σ s t) (ha : a < dA σ) : mch σ (alk σ) s t a := by
  have hm := fun n => (h (n + 1)).2 a ha
  refine ⟨(hm 0).1, fun hc => ⟨fun k hk => ?_, fun j hj => ?_⟩⟩
  · exact alk_pick (f := fun j => goA σ t a j) _ (fun n => ((hm n).2 hc).1 k hk)
  · obtain ⟨k, hk, h2⟩ := alk_pick (σ := σ) (x := goA σ t a j) (f := fun k => goA σ s a k) (dO σ a) (fun n => by
      obtain ⟨k, hk, h3⟩ := ((hm n).2 hc).2 j hj
      exact ⟨k, hk, ekv_symm n _ _ h3⟩)
    exact ⟨k, hk, alk_symm h2⟩
/-- a partition that is stable tells only what is told apart -/
theorem alk_of {σ : Wd} {p : Nat → Nat} (hgo : ∀ s a k, s < nS σ → a < dA σ → k < dO σ a → goA σ s a k < nS σ) (h0 : ∀ s t, s < nS σ → t < nS σ → p s = p t → aimW σ s = aimW σ t) (h1 : ∀ s t a, s < nS σ → t < nS σ → a < dA σ → p s = p t → mch σ (fun x y => p x = p y) s t a) : ∀ s t, s < nS σ → t < nS σ → p s = p t → alk σ s t := by
  intro s t hs ht hp n
  induction n generalizing s t with
  | zero => exact h0 s t hs ht hp
  | succ n ih =>
    refine ⟨ih s t hs ht hp, fun a ha => ?_⟩
    obtain ⟨g1, g2⟩ := h1 s t a hs ht ha hp
    refine ⟨g1, fun hc => ⟨fun k hk => ?_, fun j hj => ?_⟩⟩
    · obtain ⟨j, hj, e⟩ := (g2 hc).1 k hk
      exact ⟨j, hj, ih _ _ (hgo s a k hs ha hk) (hgo t a j ht ha hj) e⟩
    · obtain ⟨k, hk, e⟩ := (g2 hc).2 j hj
      exact ⟨k, hk, ih _ _ (hgo s a k hs ha hk) (hgo t a j ht ha hj) e⟩
/-- where a turn tells nothing apart, none does -/
theorem ekv_fix {σ : Wd} {n : Nat} (hgo : ∀ s a k, s < nS σ → a < dA σ → k < dO σ a → goA σ s a k < nS σ) (h : ∀ s t, s < nS σ → t < nS σ → ekv σ n s t → ekv σ (n + 1) s t) : ∀ s t, s < nS σ → t < nS σ → ekv σ n s t → alk σ s t := by
  intro s t hs ht he m
  induction m generalizing s t with
  | zero => exact ekv_le (Nat.zero_le _) he
  | succ m ih =>
    refine ⟨ih s t hs ht he, fun a ha => ?_⟩
    obtain ⟨g1, g2⟩ := (h s t hs ht he).2 a ha
    refine ⟨g1, fun hc => ⟨fun k hk => ?_, fun j hj => ?_⟩⟩
    · obtain ⟨j, hj, e⟩ := (g2 hc).1 k hk
      exact ⟨j, hj, ih _ _ (hgo s a k hs ha hk) (hgo t a j ht ha hj) e⟩
    · obtain ⟨k, hk, e⟩ := (g2 hc).2 j hj
      exact ⟨k, hk, ih _ _ (hgo s a k hs ha hk) (hgo t a j ht ha hj) e⟩
/-- first of its class -/
def isF (E : Nat → Nat → Prop) (s : Nat) : Prop := ∀ q, q < s → ¬ E q s
theorem isF_ex {E : Nat → Nat → Prop} (hr : ∀ x, E x x) (ht : ∀ x y z, E x y → E y z → E x z) (s : Nat) : ∃ q, q ≤ s ∧ isF E q ∧ E q s := by
  obtain ⟨q, h1, h2⟩ := pk_least (fun q => E q s) ⟨s, hr s⟩
  refine ⟨q, ?_, fun r hr2 he => h2 r hr2 (ht _ _ _ he h1), h1⟩
  rcases Nat.lt_or_ge s q with z | z
  · exact absurd (hr s) (h2 s z)
  · exact z
theorem isF_uni {E : Nat → Nat → Prop} (hs : ∀ x y, E x y → E y x) {s t : Nat} (h1 : isF E s) (h2 : isF E t) (he : E s t) : s = t := by
  rcases Nat.lt_trichotomy s t with h | h | h
  · exact absurd he (h2 s h)
  · exact h
  · exact absurd (hs _ _ he) (h1 t h)
/-- as many classes as before: nothing was told apart -/
theorem ekv_same {σ : Wd} {n : Nat} {f g : Nat → Bool} (hf : ∀ s, s < nS σ → (f s = true ↔ isF (ekv σ n) s)) (hg : ∀ s, s < nS σ → (g s = true ↔ isF (ekv σ (n + 1)) s)) (hc : cnt f (nS σ) = cnt g (nS σ)) : ∀ s t, s < nS σ → t < nS σ → ekv σ n s t → ekv σ (n + 1) s t := by
  have hfg : ∀ s, s < nS σ → isF (ekv σ (n + 1)) s → isF (ekv σ n) s := by
    intro s hs h
    refine (hf s hs).mp (cnt_same (fun j hj hp => (hg j hj).mpr (fun q hq he => (hf j hj).mp hp q hq he.1)) hc s hs ((hg s hs).mpr h))
  intro s t hs ht he
  obtain ⟨x, hx, fx, ex⟩ := isF_ex (ekv_refl (σ := σ) (n + 1)) (ekv_trans (n + 1)) s
  obtain ⟨y, hy, fy, ey⟩ := isF_ex (ekv_refl (σ := σ) (n + 1)) (ekv_trans (n + 1)) t
  have exy : ekv σ n x y := ekv_trans n _ _ _ ex.1 (ekv_trans n _ _ _ he (ekv_symm n _ _ ey.1))
  have : x = y := isF_uni (ekv_symm n) (hfg x (by omega) fx) (hfg y (by omega) fy) exy
  subst this
  exact ekv_trans (n + 1) _ _ _ (ekv_symm (n + 1) _ _ ex) ey
/-- a partition into m classes, none of which is empty, has m first states -/
theorem cnt_first {p : Nat → Nat} {f : Nat → Bool} : ∀ {N : Nat}, (∀ s, s < N → (f s = true ↔ isF (fun x y => p x = p y) s)) → ∀ {m : Nat} {g : Nat → Bool}, (∀ b, b < m → (g b = true ↔ ∃ s, s < N ∧ p s = b)) → (∀ s, s < N → p s < m) → cnt f N = cnt g m
  | 0, _, m, g, hg, _ => by
    rw [cnt_0 (p := g)]
    · rfl
    · intro b hb
      cases h : g b with
      | false => rfl
      | true => obtain ⟨s, hs, -⟩ := (hg b hb).mp h; omega
  | N + 1, hf, m, g, hg, hm => by
    show cnt f N + (if f N = true then 1 else 0) = cnt g m
    by_cases h : ∃ s, s < N ∧ p s = p N
    · have hfN : f N = false := by
        cases h2 : f N with
        | false => rfl
        | true => obtain ⟨s, h3, h4⟩ := h; exact absurd h4 ((hf N (by omega)).mp h2 s h3)
      rw [hfN, cnt_first (N := N) (fun s hs => hf s (by omega)) (m := m) (g := g) (fun b hb => ?_) (fun s hs => hm s (by omega))]
      · simp
      · rw [hg b hb]
        constructor
        · rintro ⟨s, h1, h2⟩
          by_cases e : s = N
          · obtain ⟨u, h3, h4⟩ := h
            exact ⟨u, h3, by rw [h4, ← e]; exact h2⟩
          · exact ⟨s, by omega, h2⟩
        · rintro ⟨s, h1, h2⟩; exact ⟨s, by omega, h2⟩
    · have hfN : f N = true := (hf N (by omega)).mpr (fun q hq he => h ⟨q, hq, he⟩)
      rw [hfN, cnt_first (N := N) (fun s hs => hf s (by omega)) (m := m) (g := va_up g (p N) false) (fun b hb => ?_) (fun s hs => hm s (by omega))]
      · rw [cnt_one (p := va_up g (p N) false) (p' := g) (hm N (by omega)) (fun j _ hj => (upn hj).symm) ups ((hg _ (hm N (by omega))).mpr ⟨N, by omega, rfl⟩)]
        simp
      · by_cases e : b = p N
        · subst e
          rw [ups]
          exact ⟨fun z => (by cases z), fun z => absurd z h⟩
        · rw [upn e, hg b hb]
          constructor
          · rintro ⟨s, h1, h2⟩
            by_cases es : s = N
            · rw [es] at h2; exact absurd h2.symm e
            · exact ⟨s, by omega, h2⟩
          · rintro ⟨s, h1, h2⟩; exact ⟨s, by omega, h2⟩
