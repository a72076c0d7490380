/-! A CLASS IS DIVIDED: group L keeps its number b, the others get numbers from m on -/
def nnf (b m L g : Nat) : Nat := if g = L then b else m + (if g < L then g else g - 1)
theorem nn_inj {b m L g g' : Nat} (hb : b < m) (h : nnf b m L g = nnf b m L g') : g = g' := by
  unfold nnf at h
  split at h <;> split at h <;> (try split at h) <;> (try split at h) <;> omega
theorem nn_lt {b m L g gs : Nat} (hb : b < m) (hL : L < gs) (hg : g < gs) : nnf b m L g < m + gs - 1 := by
  unfold nnf
  split
  · omega
  · split <;> omega
theorem nn_new {b m L g : Nat} (h : g ≠ L) : m ≤ nnf b m L g := by
  unfold nnf
  rw [if_neg h]; omega
theorem nn_L {b m L : Nat} : nnf b m L L = b := if_pos rfl
theorem nn_ex {b m L gs c : Nat} (hL : L < gs) (h1 : m ≤ c) (h2 : c < m + gs - 1) : ∃ g, g < gs ∧ g ≠ L ∧ c = nnf b m L g := by
  by_cases e : c - m < L
  · exact ⟨c - m, by omega, by omega, by unfold nnf; rw [if_neg (by omega), if_pos e]; omega⟩
  · exact ⟨c - m + 1, by omega, by omega, by unfold nnf; rw [if_neg (by omega), if_neg (by omega)]; omega⟩
theorem PT_div {N m : Nat} {od pl kd fr un kd' fr' un' tl st gp : Nat → Nat} {b gs L : Nat} (hP : PT N m od pl kd fr un) (hb : b < m) (hL : L < gs) (hst : st = stf tl (fr b) gs) (hsum : fr b + sm tl gs = un b) (hpos : ∀ g, g < gs → 0 < tl g)
    (hgp : ∀ s, s < N → kd s = b → gp s < gs ∧ st (gp s) ≤ pl s ∧ pl s < st (gp s) + tl (gp s))
    (hk1 : ∀ s, s < N → kd s ≠ b → kd' s = kd s) (hk2 : ∀ s, s < N → kd s = b → kd' s = nnf b m L (gp s))
    (hf : ∀ c, c < m → c ≠ b → fr' c = fr c ∧ un' c = un c) (hg : ∀ g, g < gs → fr' (nnf b m L g) = st g ∧ un' (nnf b m L g) = st g + tl g) :
    PT N (m + gs - 1) od pl kd' fr' un' ∧ ∀ s t, s < N → t < N → (kd' s = kd' t ↔ kd s = kd t ∧ (kd s = b → gp s = gp t)) := by
  obtain ⟨a1, a2, a3, a4, a5⟩ := hP
  have hin : ∀ g, g < gs → fr b ≤ st g ∧ st g + tl g ≤ un b := by
    intro g hg
    have := st_in (tl := tl) (at0 := fr b) hg
    rw [← hst, hsum] at this; exact this
  have hcl : ∀ c, c < m + gs - 1 → (c < m ∧ c ≠ b) ∨ ∃ g, g < gs ∧ c = nnf b m L g := by
    intro c hc
    by_cases e : c < m
    · by_cases e2 : c = b
      · exact Or.inr ⟨L, hL, by rw [nn_L]; exact e2⟩
      · exact Or.inl ⟨e, e2⟩
    · obtain ⟨g, g1, -, g2⟩ := nn_ex (b := b) hL (by omega) hc
      exact Or.inr ⟨g, g1, g2⟩
  refine ⟨⟨a1, a2, fun c hc => ?_, fun s hs => ?_, fun c i hc i1 i2 => ?_⟩, fun s t hs ht => ?_⟩
  · rcases hcl c hc with ⟨c1, c2⟩ | ⟨g, g1, g2⟩
    · rw [(hf c c1 c2).1, (hf c c1 c2).2]; exact a3 c c1
    · rw [g2, (hg g g1).1, (hg g g1).2]
      have := hpos g g1
      have := hin g g1
      have := (a3 b hb).2
      omega
  · by_cases e : kd s = b
    · obtain ⟨g1, g2, g3⟩ := hgp s hs e
      rw [hk2 s hs e, (hg _ g1).1, (hg _ g1).2]
      exact ⟨nn_lt hb hL g1, g2, g3⟩
    · have h4 := a4 s hs
      rw [hk1 s hs e, (hf _ h4.1 e).1, (hf _ h4.1 e).2]
      exact ⟨by omega, h4.2⟩
  · rcases hcl c hc with ⟨c1, c2⟩ | ⟨g, g1, g2⟩
    · rw [(hf c c1 c2).1] at i1
      rw [(hf c c1 c2).2] at i2
      have h5 := a5 c i c1 i1 i2
      have := (a3 c c1).2
      rw [hk1 _ (a1 i (by omega)).1 (by rw [h5]; exact c2)]; exact h5
    · rw [g2, (hg g g1).1] at i1
      rw [g2, (hg g g1).2] at i2
      have hi := hin g g1
      have := (a3 b hb).2
      have h5 := a5 b i hb (by omega) (by omega)
      have hoi := a1 i (by omega)
      obtain ⟨p1, p2, p3⟩ := hgp (od i) hoi.1 h5
      rw [hoi.2] at p2 p3
      have e : gp (od i) = g := by
        refine st_dis (tl := tl) (at0 := fr b) (gs := gs) (p := i) p1 g1 ?_ ?_ ?_ ?_
        · rw [← hst]; exact p2
        · rw [← hst]; exact p3
        · rw [← hst]; exact i1
        · rw [← hst]; exact i2
      rw [hk2 _ hoi.1 h5, e, g2]
  · by_cases e : kd s = b
    · by_cases e' : kd t = b
      · rw [hk2 s hs e, hk2 t ht e', e, e']
        exact ⟨fun z => ⟨rfl, fun _ => nn_inj hb z⟩, fun z => by rw [z.2 rfl]⟩
      · rw [hk2 s hs e, hk1 t ht e']
        constructor
        · intro z
          exfalso
          by_cases el : gp s = L
          · rw [el, nn_L] at z; exact e' z.symm
          · have := nn_new (b := b) (m := m) el
            have := (a4 t ht).1
            omega
        · intro z; exact absurd (z.1.symm.trans e) e'
    · by_cases e' : kd t = b
      · rw [hk1 s hs e, hk2 t ht e']
        constructor
        · intro z
          exfalso
          by_cases el : gp t = L
          · rw [el, nn_L] at z; exact e z
          · have := nn_new (b := b) (m := m) el
            have := (a4 s hs).1
            omega
        · intro z; exact absurd (z.1.trans e') e
      · rw [hk1 s hs e, hk1 t ht e']
        exact ⟨fun z => ⟨z, fun y => absurd y e⟩, fun z => z.1⟩
