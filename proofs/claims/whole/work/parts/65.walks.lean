/-! WALKS FORWARD AND BACKWARD -/
theorem wk_step {σ : Wd} {i n : Nat} : sm (fun s => wkF σ (i + 1) s * wkB σ n s) (nS σ) = sm (fun v => wkF σ i v * wkB σ (n + 1) v) (nS σ) := by
  have h1 : ∀ s, wkF σ (i + 1) s * wkB σ n s = sm (fun v => wkF σ i v * (mm σ v s * wkB σ n s)) (nS σ) := by
    intro s
    show sm (fun v => wkF σ i v * mm σ v s) (nS σ) * wkB σ n s = _
    rw [Nat.mul_comm, ← sm_mul]
    refine sm_congr (fun v _ => ?_)
    show wkB σ n s * (wkF σ i v * mm σ v s) = wkF σ i v * (mm σ v s * wkB σ n s)
    rw [Nat.mul_comm, Nat.mul_assoc]
  rw [sm_congr (fun s _ => h1 s), sm_swap]
  refine sm_congr (fun v _ => ?_)
  rw [sm_mul]
  rfl
theorem wk_all {σ : Wd} : ∀ {i n : Nat}, sm (fun s => wkF σ i s * wkB σ n s) (nS σ) = sm (fun s => wkF σ 0 s * wkB σ (i + n) s) (nS σ)
  | 0, n => by rw [Nat.zero_add]
  | i + 1, n => by
    rw [wk_step, wk_all (i := i) (n := n + 1), show i + (n + 1) = i + 1 + n by omega]
theorem wk_eq {σ : Wd} {n : Nat} (hB : dB σ < nS σ) : sm (fun s => wkF σ n s * (if aimW σ s = true then 1 else 0)) (nS σ) = wkB σ n (dB σ) := by
  have h := wk_all (σ := σ) (i := n) (n := 0)
  have h0 : sm (fun s => wkF σ 0 s * wkB σ n s) (nS σ) = wkB σ n (dB σ) := by
    have := sm_one (f := fun _ => 0) (g := fun s => wkF σ 0 s * wkB σ n s) (x := dB σ) (c := wkB σ n (dB σ)) hB (fun j _ hj => by show (if j = dB σ then 1 else 0) * _ = 0; rw [if_neg hj, Nat.zero_mul]) (by show (if dB σ = dB σ then 1 else 0) * _ = 0 + _; rw [if_pos rfl, Nat.one_mul, Nat.zero_add])
    rw [this, sm_zero (fun _ _ => rfl), Nat.zero_add]
  rw [Nat.add_zero] at h
  exact h.trans h0
/-- the aim in n acts from s -/
def wlk (σ : Wd) : Nat → Nat → Prop
  | 0, s => aimP σ s
  | n + 1, s => s < nS σ ∧ ∃ t, stp σ s t ∧ wlk σ n t
theorem wlk_in {σ : Wd} : ∀ {n s : Nat}, wlk σ n s → s < nS σ
  | 0, _, h => h.1
  | _ + 1, _, h => h.1
theorem wlk_lev {σ : Wd} : ∀ {n s : Nat}, lev (CMay σ) (aimP σ) n s ↔ ∃ m, m ≤ n ∧ wlk σ m s
  | 0, s => by
    constructor
    · intro h; exact ⟨0, Nat.le_refl _, h⟩
    · rintro ⟨m, h1, h2⟩
      rw [show m = 0 by omega] at h2
      exact h2
  | n + 1, s => by
    constructor
    · rintro (h | ⟨h0, a, k, t, h1, h2, h3, h4⟩)
      · obtain ⟨m, h1, h2⟩ := wlk_lev.mp h
        exact ⟨m, by omega, h2⟩
      · obtain ⟨m, h5, h6⟩ := wlk_lev.mp h4
        exact ⟨m + 1, by omega, h0, t, ⟨a, k, h1, h2, h3⟩, h6⟩
    · rintro ⟨m, h1, h2⟩
      match m, h2 with
      | 0, h2 => exact Or.inl (wlk_lev.mpr ⟨0, Nat.zero_le _, h2⟩)
      | m + 1, ⟨h0, t, ⟨a, k, h3, h4, h5⟩, h6⟩ => exact Or.inr ⟨h0, a, k, t, h3, h4, h5, wlk_lev.mpr ⟨m, by omega, h6⟩⟩
/-- fewest acts to the aim -/
def isW (σ : Wd) (s n : Nat) : Prop := wlk σ n s ∧ ∀ m, m < n → ¬ wlk σ m s
theorem isW_isL {σ : Wd} {s n : Nat} : isL (CMay σ) (aimP σ) s n ↔ isW σ s n := by
  constructor
  · rintro ⟨h1, h2⟩
    obtain ⟨m, h3, h4⟩ := wlk_lev.mp h1
    have : m = n := by
      rcases Nat.lt_or_ge m n with q | q
      · exact absurd (wlk_lev.mpr ⟨m, Nat.le_refl _, h4⟩) (h2 m q)
      · omega
    subst this
    exact ⟨h4, fun k hk hw => h2 k hk (wlk_lev.mpr ⟨k, Nat.le_refl _, hw⟩)⟩
  · rintro ⟨h1, h2⟩
    refine ⟨wlk_lev.mpr ⟨n, Nat.le_refl _, h1⟩, fun m hm h => ?_⟩
    obtain ⟨k, h3, h4⟩ := wlk_lev.mp h
    exact h2 k (by omega) h4
/-- forward and backward meet -/
theorem rch_wlk {σ : Wd} (hB : dB σ < nS σ) (hnx : ∀ s t, s < nS σ → stp σ s t → t < nS σ) : ∀ {i n : Nat}, (∃ t, rch σ i t ∧ wlk σ n t) ↔ wlk σ (i + n) (dB σ)
  | 0, n => by
    rw [Nat.zero_add]
    constructor
    · rintro ⟨t, h1, h2⟩
      have h1 : t = dB σ := h1
      rw [← h1]; exact h2
    · intro h; exact ⟨dB σ, rfl, h⟩
  | i + 1, n => by
    have ih := rch_wlk hB hnx (i := i) (n := n + 1)
    rw [show i + 1 + n = i + (n + 1) by omega, ← ih]
    have rin : ∀ j u, rch σ j u → u < nS σ := by
      intro j
      induction j with
      | zero => intro u h; have h : u = dB σ := h; rw [h]; exact hB
      | succ j ih2 => rintro u ⟨v, h1, h2⟩; exact hnx v u (ih2 v h1) h2
    constructor
    · rintro ⟨t, ⟨u, h1, h2⟩, h3⟩
      exact ⟨u, h1, rin i u h1, t, h2, h3⟩
    · rintro ⟨u, h1, -, t, h2, h3⟩
      exact ⟨t, ⟨u, h1, h2⟩, h3⟩
/-- what plays answers -/
def isPl (σ : Wd) (v : Nat) : Prop := (∃ n, isW σ (dB σ) n ∧ v = wkB σ n (dB σ)) ∨ ((∀ n, ¬ wlk σ n (dB σ)) ∧ v = 0)
theorem isPl_uni {σ : Wd} {v v' : Nat} (h : isPl σ v) (h' : isPl σ v') : v = v' := by
  rcases h with ⟨n, h1, h2⟩ | ⟨h1, h2⟩ <;> rcases h' with ⟨n', h1', h2'⟩ | ⟨h1', h2'⟩
  · have : n = n' := isL_uni (isW_isL.mpr h1) (isW_isL.mpr h1')
    rw [h2, h2', this]
  · exact absurd h1.1 (h1' n)
  · exact absurd h1'.1 (h1 n')
  · rw [h2, h2']
/-- the class's sum: over the aim's states that are nearest -/
theorem isPl_sum {σ : Wd} {d : Nat → Option Nat} {w : Nat → Nat} {n : Nat} (hB : dB σ < nS σ) (hnx : ∀ s t, s < nS σ → stp σ s t → t < nS σ) (hD : isDist σ d) (hw : ∀ n t, t < nS σ → d t = some n → w t = wkF σ n t) (h1 : ∃ s, s < nS σ ∧ aimW σ s = true ∧ d s = some n) (h2 : ∀ s m, s < nS σ → aimW σ s = true → d s = some m → n ≤ m) : isPl σ (sm (fun s => if aimW σ s = true ∧ d s = some n then w s else 0) (nS σ)) := by
  obtain ⟨s, hs, ha, hd⟩ := h1
  refine Or.inl ⟨n, ⟨?_, fun m hm hk => ?_⟩, ?_⟩
  · exact (rch_wlk hB hnx (i := n) (n := 0)).mp ⟨s, ((hD s hs n).mp hd).1, hs, ha⟩
  · obtain ⟨t, h3, h4⟩ := (rch_wlk hB hnx (i := m) (n := 0)).mpr hk
    obtain ⟨k, hk, hk2⟩ := isD_ex h3
    have := h2 t k h4.1 h4.2 ((hD t h4.1 k).mpr hk2)
    omega
  · rw [← wk_eq hB]
    refine sm_congr (fun t ht => ?_)
    by_cases hat : aimW σ t = true
    · rw [if_pos hat, Nat.mul_one]
      by_cases hdt : d t = some n
      · rw [if_pos ⟨hat, hdt⟩, hw n t ht hdt]
      · rw [if_neg (fun z => hdt z.2)]
        rcases Nat.eq_zero_or_pos (wkF σ n t) with z | z
        · exact z.symm
        · exfalso
          obtain ⟨k, hk, hk2⟩ := isD_ex (wkF_pos z)
          have h5 := (hD t ht k).mpr hk2
          have := h2 t k ht hat h5
          rw [show k = n by omega] at h5
          exact hdt h5
    · rw [if_neg (fun z => hat z.1), if_neg hat, Nat.mul_zero]
theorem isPl_none {σ : Wd} {d : Nat → Option Nat} (hB : dB σ < nS σ) (hnx : ∀ s t, s < nS σ → stp σ s t → t < nS σ) (hD : isDist σ d) (h : ∀ s, s < nS σ → aimW σ s = true → d s = none) : isPl σ 0 := by
  refine Or.inr ⟨fun n hn => ?_, rfl⟩
  obtain ⟨t, h3, h4⟩ := (rch_wlk hB hnx (i := n) (n := 0)).mpr hn
  obtain ⟨k, hk, hk2⟩ := isD_ex h3
  have := (hD t h4.1 k).mpr hk2
  rw [h t h4.1 h4.2] at this
  cases this
/-! the reference's ways, level by level -/
def gO (g : Nat → Nat) (o : Option Nat) : Nat := match o with
  | some t => g t
  | none => 0
theorem sm_edge {σ : Wd} {s : Nat} {g : Nat → Nat} (hnx : ∀ a k t, a < dA σ → k < dO σ a → nxW σ s a k = some t → t < nS σ) : sm (fun t => mm σ s t * g t) (nS σ) = sm (fun a => sm (fun k => gO g (nxW σ s a k)) (dO σ a)) (dA σ) := by
  have h1 : ∀ t, mm σ s t * g t = sm (fun a => sm (fun k => ed1 σ s t a k * g t) (dO σ a)) (dA σ) := by
    intro t
    unfold mm
    rw [Nat.mul_comm, ← sm_mul]
    refine sm_congr (fun a _ => ?_)
    rw [← sm_mul]
    exact sm_congr (fun k _ => Nat.mul_comm _ _)
  rw [sm_congr (fun t _ => h1 t), sm_swap]
  refine sm_congr (fun a ha => ?_)
  rw [sm_swap]
  refine sm_congr (fun k hk => ?_)
  cases hx : nxW σ s a k with
  | none =>
    rw [sm_zero]
    · rfl
    · intro t _; unfold ed1; rw [hx]; simp
  | some u =>
    have := sm_one (f := fun _ => 0) (g := fun t => ed1 σ s t a k * g t) (x := u) (c := g u) (hnx a k u ha hk hx) (fun j _ hj => by
      show ed1 σ s j a k * g j = 0
      unfold ed1
      rw [hx, if_neg (fun z => by cases z; exact hj rfl), Nat.zero_mul]) (by
      show ed1 σ s u a k * g u = 0 + g u
      unfold ed1
      rw [hx, if_pos rfl, Nat.one_mul, Nat.zero_add])
    rw [this, sm_zero (fun _ _ => rfl), Nat.zero_add]
    rfl
theorem wkB_pos {σ : Wd} (hnx : ∀ s t, s < nS σ → stp σ s t → t < nS σ) : ∀ {n s : Nat}, s < nS σ → 0 < wkB σ n s → wlk σ n s
  | 0, s, hs, h => by
    have h : 0 < if aimW σ s = true then 1 else 0 := h
    by_cases e : aimW σ s = true
    · exact ⟨hs, e⟩
    · rw [if_neg e] at h; omega
  | n + 1, s, hs, h => by
    obtain ⟨v, hv, h1⟩ := sm_pos h
    exact ⟨hs, v, mm_pos.mp (Nat.pos_of_mul_pos_right h1), wkB_pos hnx hv (Nat.pos_of_mul_pos_left h1)⟩
/-- only edges to the level below count -/
theorem wkB_lev {σ : Wd} {d : Nat → Option Nat} {s n : Nat} (hnx : ∀ s t, s < nS σ → stp σ s t → t < nS σ) (hd : ∀ s n, s < nS σ → (d s = some n ↔ isW σ s n)) (hs : s < nS σ) (hL : d s = some (n + 1)) : wkB σ (n + 1) s = sm (fun a => sm (fun k => gO (fun t => if d t = some n then wkB σ n t else 0) (nxW σ s a k)) (dO σ a)) (dA σ) := by
  rw [← sm_edge (fun a k t ha hk h => hnx s t hs ⟨a, k, ha, hk, h⟩)]
  show sm (fun t => mm σ s t * wkB σ n t) (nS σ) = _
  refine sm_congr (fun t ht => ?_)
  by_cases hdt : d t = some n
  · rw [if_pos hdt]
  · rw [if_neg hdt, Nat.mul_zero]
    rcases Nat.eq_zero_or_pos (mm σ s t * wkB σ n t) with z | z
    · exact z
    · exfalso
      have s1 := mm_pos.mp (Nat.pos_of_mul_pos_right z)
      have w1 := wkB_pos hnx ht (Nat.pos_of_mul_pos_left z)
      refine hdt ((hd t n ht).mpr ⟨w1, fun m hm hw => ?_⟩)
      exact ((hd s (n + 1) hs).mp hL).2 (m + 1) (by omega) ⟨hs, t, s1, hw⟩
theorem sm_flat {f : Nat → Nat} : ∀ {n : Nat}, sm f (3 * n) = sm (fun a => f (3 * a) + f (3 * a + 1) + f (3 * a + 2)) n
  | 0 => rfl
  | n + 1 => by
    show sm f (3 * n) + f (3 * n) + f (3 * n + 1) + f (3 * n + 2) = sm _ n + (f (3 * n) + f (3 * n + 1) + f (3 * n + 2))
    rw [sm_flat (n := n)]; omega
/-- edges by one number x: act x / 3, outcome x % 3 -/
def nxX (σ : Wd) (s x : Nat) : Option Nat := if x % 3 < dO σ (x / 3) then nxW σ s (x / 3) (x % 3) else none
theorem nxX_stp {σ : Wd} {s t : Nat} (h3 : ∀ a, a < dA σ → dO σ a ≤ 3) : stp σ s t ↔ ∃ x, x < 3 * dA σ ∧ nxX σ s x = some t := by
  constructor
  · rintro ⟨a, k, ha, hk, h⟩
    have := h3 a ha
    have ed1 : (3 * a + k) / 3 = a := by omega
    have e2 : (3 * a + k) % 3 = k := by omega
    refine ⟨3 * a + k, by omega, ?_⟩
    unfold nxX
    rw [ed1, e2, if_pos hk]; exact h
  · rintro ⟨x, hx, h⟩
    unfold nxX at h
    by_cases hk : x % 3 < dO σ (x / 3)
    · rw [if_pos hk] at h
      exact ⟨x / 3, x % 3, by omega, hk, h⟩
    · rw [if_neg hk] at h; cases h
theorem sm_x {σ : Wd} {s : Nat} {g : Nat → Nat} (h3 : ∀ a, a < dA σ → 1 ≤ dO σ a ∧ dO σ a ≤ 3) : sm (fun x => gO g (nxX σ s x)) (3 * dA σ) = sm (fun a => sm (fun k => gO g (nxW σ s a k)) (dO σ a)) (dA σ) := by
  rw [sm_flat]
  refine sm_congr (fun a ha => ?_)
  obtain ⟨h1, h2⟩ := h3 a ha
  have r : ∀ k, k < 3 → nxX σ s (3 * a + k) = if k < dO σ a then nxW σ s a k else none := by
    intro k hk
    unfold nxX
    rw [show (3 * a + k) / 3 = a by omega, show (3 * a + k) % 3 = k by omega]
  have r0 := r 0 (by omega)
  rw [Nat.add_zero] at r0
  show gO g (nxX σ s (3 * a)) + gO g (nxX σ s (3 * a + 1)) + gO g (nxX σ s (3 * a + 2)) = _
  rw [r0, r 1 (by omega), r 2 (by omega)]
  have h : dO σ a = 1 ∨ dO σ a = 2 ∨ dO σ a = 3 := by omega
  rcases h with h | h | h <;> rw [h] <;> simp [sm, gO]
