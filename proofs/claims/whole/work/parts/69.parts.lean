/-! PARTITIONS: the order of the states, the classes as stretches of it -/
theorem inj_cnt {f : Nat → Nat} {N : Nat} : ∀ {e : Nat} {p : Nat → Bool}, (∀ j, j < e → f j < N ∧ p (f j) = true) → (∀ j l, j < l → l < e → f j ≠ f l) → e ≤ cnt p N
  | 0, _, _, _ => Nat.zero_le _
  | e + 1, p, h1, h2 => by
    have h := inj_cnt (e := e) (p := va_up p (f e) false) (fun j hj => ⟨(h1 j (by omega)).1, by rw [upn (h2 j e hj (by omega))]; exact (h1 j (by omega)).2⟩) (fun j l hj hl => h2 j l hj (by omega))
    have := cnt_one (p := va_up p (f e) false) (p' := p) (h1 e (by omega)).1 (fun j _ hj => (upn hj).symm) ups (h1 e (by omega)).2
    omega
theorem inj_le {f : Nat → Nat} {N e : Nat} (h1 : ∀ j, j < e → f j < N) (h2 : ∀ j l, j < l → l < e → f j ≠ f l) : e ≤ N :=
  Nat.le_trans (inj_cnt (p := fun _ => true) (fun j hj => ⟨h1 j hj, rfl⟩) h2) (cnt_le _ _)
theorem cnt_two {p p' : Nat → Bool} : ∀ {n : Nat}, (∀ j, j < n → p j = true → p' j = false) → cnt p n + cnt p' n ≤ n
  | 0, _ => Nat.le_refl _
  | n + 1, h => by
    have h1 := cnt_two (p := p) (p' := p') (n := n) (fun j hj => h j (by omega))
    have h2 := h n (by omega)
    show cnt p n + (if p n = true then 1 else 0) + (cnt p' n + (if p' n = true then 1 else 0)) ≤ n + 1
    cases e : p n with
    | false => simp; split <;> omega
    | true => rw [h2 e]; simp; omega
def PT (N m : Nat) (od pl kd fr un : Nat → Nat) : Prop :=
  (∀ i, i < N → od i < N ∧ pl (od i) = i) ∧ (∀ s, s < N → pl s < N ∧ od (pl s) = s) ∧
  (∀ b, b < m → fr b < un b ∧ un b ≤ N) ∧
  (∀ s, s < N → kd s < m ∧ fr (kd s) ≤ pl s ∧ pl s < un (kd s)) ∧
  (∀ b i, b < m → fr b ≤ i → i < un b → kd (od i) = b)
theorem PT_m {N m : Nat} {od pl kd fr un : Nat → Nat} (h : PT N m od pl kd fr un) : m ≤ N := by
  obtain ⟨h1, h2, h3, h4, h5⟩ := h
  refine inj_le (f := fr) (fun b hb => by have := h3 b hb; omega) (fun j l hj hl he => ?_)
  have e1 := h5 j (fr j) (by omega) (Nat.le_refl _) (h3 j (by omega)).1
  have e2 := h5 l (fr l) hl (Nat.le_refl _) (h3 l hl).1
  rw [he] at e1
  omega
/-- classes of two states and more: few -/
theorem PT_two {N m : Nat} {od pl kd fr un : Nat → Nat} {w : Nat → Nat} {e : Nat} (h : PT N m od pl kd fr un) (hw : ∀ j, j < e → w j < m ∧ fr (w j) + 1 < un (w j)) (hd : ∀ j l, j < l → l < e → w j ≠ w l) : e ≤ m ∧ e ≤ N - m := by
  have hm := PT_m h
  refine ⟨inj_le (f := w) (fun j hj => (hw j hj).1) hd, ?_⟩
  obtain ⟨h1, h2, h3, h4, h5⟩ := h
  have a1 : m ≤ cnt (fun i => decide (i = fr (kd (od i)))) N := by
    refine inj_cnt (f := fr) (fun b hb => ⟨by have := h3 b hb; omega, ?_⟩) (fun j l hj hl he => ?_)
    · have := h5 b (fr b) hb (Nat.le_refl _) (h3 b hb).1
      exact decide_eq_true (by rw [this])
    · have e1 := h5 j (fr j) (by omega) (Nat.le_refl _) (h3 j (by omega)).1
      have e2 := h5 l (fr l) hl (Nat.le_refl _) (h3 l hl).1
      rw [he] at e1
      omega
  have a2 : e ≤ cnt (fun i => decide (i = fr (kd (od i)) + 1)) N := by
    refine inj_cnt (f := fun j => fr (w j) + 1) (fun j hj => ?_) (fun j l hj hl he => ?_)
    · obtain ⟨b1, b2⟩ := hw j hj
      have := h3 (w j) b1
      refine ⟨by omega, ?_⟩
      have := h5 (w j) (fr (w j) + 1) b1 (by omega) b2
      exact decide_eq_true (by rw [this])
    · obtain ⟨b1, b2⟩ := hw j (by omega)
      obtain ⟨c1, c2⟩ := hw l hl
      have e1 := h5 (w j) (fr (w j) + 1) b1 (by omega) b2
      have e2 := h5 (w l) (fr (w l) + 1) c1 (by omega) c2
      have he : fr (w j) + 1 = fr (w l) + 1 := he
      rw [he] at e1
      exact hd j l hj hl (by omega)
  have a3 := cnt_two (p := fun i => decide (i = fr (kd (od i)))) (p' := fun i => decide (i = fr (kd (od i)) + 1)) (n := N) (fun j _ hj => by
    have := of_decide_eq_true hj
    exact decide_eq_false (by omega))
  omega
/-- how many turns may still come -/
def pot (N m : Nat) : Nat := sm (fun k => min (N - k) k) (N - m)
theorem sm_le {f : Nat → Nat} {n m : Nat} (h : n ≤ m) : sm f n ≤ sm f m := by
  induction m with
  | zero => rw [show n = 0 by omega]; exact Nat.le_refl _
  | succ m ih =>
    by_cases e : n = m + 1
    · rw [e]; exact Nat.le_refl _
    · have := ih (by omega)
      show sm f n ≤ sm f m + f m
      omega
theorem pot_dn {N m m' e : Nat} (h : m < m') (h2 : m' ≤ N) (h3 : e ≤ m') (h4 : e ≤ N - m') : pot N m' + e ≤ pot N m := by
  have h5 : sm (fun k => min (N - k) k) (N - m' + 1) ≤ sm (fun k => min (N - k) k) (N - m) := sm_le (by omega)
  have h5 : sm (fun k => min (N - k) k) (N - m') + min (N - (N - m')) (N - m') ≤ sm (fun k => min (N - k) k) (N - m) := h5
  unfold pot
  omega
theorem sm_id : ∀ n, 2 * sm (fun k => k) n + n = n * n
  | 0 => rfl
  | n + 1 => by
    have := sm_id n
    show 2 * (sm (fun k => k) n + n) + (n + 1) = (n + 1) * (n + 1)
    rw [Nat.add_mul, Nat.one_mul, Nat.mul_succ]
    omega
theorem sm_mn {f g : Nat → Nat} : ∀ {n : Nat}, (∀ j, j < n → f j ≤ g j) → sm f n ≤ sm g n
  | 0, _ => Nat.le_refl _
  | n + 1, h => by
    have h1 := sm_mn (f := f) (g := g) (n := n) (fun j hj => h j (by omega))
    have h2 := h n (by omega)
    show sm f n + f n ≤ sm g n + g n
    omega
theorem sm_cap {c : Nat} : ∀ n, sm (fun k => min k c) (c + n) ≤ sm (fun k => min k c) c + c * n
  | 0 => Nat.le_refl _
  | n + 1 => by
    have h1 := sm_cap (c := c) n
    have h2 : min (c + n) c ≤ c := Nat.min_le_right _ _
    show sm (fun k => min k c) (c + n) + min (c + n) c ≤ _
    rw [Nat.mul_succ]
    omega
theorem pot_le {N m : Nat} (h : N ≤ 4096) : pot N m ≤ 6290432 := by
  have h1 : pot N m ≤ sm (fun k => min (N - k) k) 4096 := sm_le (by omega)
  have h2 : sm (fun k => min (N - k) k) 4096 ≤ sm (fun k => min k 2048) 4096 := sm_mn (fun j _ => by omega)
  have h3 := sm_cap (c := 2048) 2048
  rw [show 2048 + 2048 = 4096 from rfl] at h3
  have h4 : sm (fun k => min k 2048) 2048 ≤ sm (fun k => k) 2048 := sm_mn (fun j _ => by omega)
  have h5 := sm_id 2048
  omega
/-! what a division tells -/
/-- S2: alike states are of one class. S3: states of one class that nothing marks lead to the same classes -/
def PS (σ : Wd) (kd : Nat → Nat) (ch : Nat → Nat → Prop) : Prop :=
  (∀ s t, s < nS σ → t < nS σ → kd s = kd t → aimW σ s = aimW σ t) ∧
  (∀ s t, s < nS σ → t < nS σ → alk σ s t → kd s = kd t) ∧
  (∀ s t a, s < nS σ → t < nS σ → a < dA σ → kd s = kd t → ¬ ch s a → ¬ ch t a → mch σ (fun x y => kd x = kd y) s t a)
/-- class b is divided by G; what leads to a class with a new number is marked, or alone -/
theorem PS_div {σ : Wd} {kd kd' G : Nat → Nat} {ch ch' : Nat → Nat → Prop} {b : Nat} (hgo : ∀ s a k, s < nS σ → a < dA σ → k < dO σ a → goA σ s a k < nS σ) (h : PS σ kd ch)
    (hG : ∀ s t, s < nS σ → t < nS σ → kd s = b → kd t = b → (G s = G t ↔ ∀ a, a < dA σ → mch σ (fun x y => kd x = kd y) s t a))
    (hk : ∀ s t, s < nS σ → t < nS σ → (kd' s = kd' t ↔ kd s = kd t ∧ (kd s = b → G s = G t)))
    (hm : ∀ s a k, s < nS σ → a < dA σ → k < dO σ a → canW σ s a → kd' (goA σ s a k) ≠ kd (goA σ s a k) → ch' s a ∨ ∀ t, t < nS σ → kd' t = kd' s → t = s)
    (hc : ∀ s a, s < nS σ → kd s ≠ b → ch s a → ch' s a) : PS σ kd' ch' := by
  obtain ⟨h1, h2, h3⟩ := h
  refine ⟨fun s t hs ht e => h1 s t hs ht ((hk s t hs ht).mp e).1, fun s t hs ht e => ?_, fun s t a hs ht ha e n1 n2 => ?_⟩
  · have e1 := h2 s t hs ht e
    refine (hk s t hs ht).mpr ⟨e1, fun eb => (hG s t hs ht eb (e1 ▸ eb)).mpr (fun a ha => ?_)⟩
    obtain ⟨g1, g2⟩ := alk_mch e ha
    refine ⟨g1, fun hcn => ⟨fun k hk => ?_, fun j hj => ?_⟩⟩
    · obtain ⟨j, hj, hx⟩ := (g2 hcn).1 k hk
      exact ⟨j, hj, h2 _ _ (hgo s a k hs ha hk) (hgo t a j ht ha hj) hx⟩
    · obtain ⟨k, hk, hx⟩ := (g2 hcn).2 j hj
      exact ⟨k, hk, h2 _ _ (hgo s a k hs ha hk) (hgo t a j ht ha hj) hx⟩
  · by_cases al : ∀ u, u < nS σ → kd' u = kd' s → u = s
    · have := al t ht e.symm
      subst this
      exact mch_refl (E := fun x y => kd' x = kd' y) (fun _ => rfl)
    · have al2 : ¬ ∀ u, u < nS σ → kd' u = kd' t → u = t := by
        intro z
        have := z s hs e
        subst this
        exact al z
      obtain ⟨e1, e2⟩ := (hk s t hs ht).mp e
      have old : mch σ (fun x y => kd x = kd y) s t a := by
        by_cases eb : kd s = b
        · exact (hG s t hs ht eb (e1 ▸ eb)).mp (e2 eb) a ha
        · exact h3 s t a hs ht ha e1 (fun z => n1 (hc s a hs eb z)) (fun z => n2 (hc t a ht (fun y => eb (e1.trans y)) z))
      have ks : ∀ k, k < dO σ a → canW σ s a → kd' (goA σ s a k) = kd (goA σ s a k) := by
        intro k hk hcn
        apply Classical.byContradiction
        intro z
        rcases hm s a k hs ha hk hcn z with y | y
        · exact n1 y
        · exact al y
      have kt : ∀ k, k < dO σ a → canW σ t a → kd' (goA σ t a k) = kd (goA σ t a k) := by
        intro k hk hcn
        apply Classical.byContradiction
        intro z
        rcases hm t a k ht ha hk hcn z with y | y
        · exact n2 y
        · exact al2 y
      refine ⟨old.1, fun hcn => ⟨fun k hk => ?_, fun j hj => ?_⟩⟩
      · obtain ⟨j, hj, hx⟩ := (old.2 hcn).1 k hk
        exact ⟨j, hj, ((ks k hk hcn).trans hx).trans (kt j hj (old.1.mp hcn)).symm⟩
      · obtain ⟨k, hk, hx⟩ := (old.2 hcn).2 j hj
        exact ⟨k, hk, ((ks k hk hcn).trans hx).trans (kt j hj (old.1.mp hcn)).symm⟩
/-- at the end nothing is marked -/
theorem PS_end {σ : Wd} {kd : Nat → Nat} {ch : Nat → Nat → Prop} (hgo : ∀ s a k, s < nS σ → a < dA σ → k < dO σ a → goA σ s a k < nS σ) (h : PS σ kd ch) (hn : ∀ s a, s < nS σ → ¬ ch s a) : ∀ s t, s < nS σ → t < nS σ → (kd s = kd t ↔ alk σ s t) := by
  obtain ⟨h1, h2, h3⟩ := h
  intro s t hs ht
  exact ⟨fun e => alk_of hgo h1 (fun s t a hs ht ha e => h3 s t a hs ht ha e (hn s a hs) (hn t a ht)) s t hs ht e, fun e => h2 s t hs ht e⟩
