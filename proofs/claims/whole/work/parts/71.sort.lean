/-! SORTING A STRETCH BY GROUPS: group 1 first, group 0 last -/
/-- of the first n from at on, how many are of group g -/
def tlf (h : Nat → Nat) (at0 n g : Nat) : Nat := cnt (fun y => decide (h (at0 + y) = g)) n
theorem tlf_s {h : Nat → Nat} {at0 n g : Nat} : tlf h at0 (n + 1) g = tlf h at0 n g + (if h (at0 + n) = g then 1 else 0) := by
  unfold tlf
  show cnt _ n + (if decide (h (at0 + n) = g) = true then 1 else 0) = _
  by_cases e : h (at0 + n) = g
  · simp [e]
  · simp [e]
theorem tlf_sum {h : Nat → Nat} {at0 gs : Nat} : ∀ {n : Nat}, (∀ y, y < n → h (at0 + y) < gs) → sm (fun g => tlf h at0 n g) gs = n
  | 0, _ => sm_zero (fun _ _ => rfl)
  | n + 1, hh => by
    have ih := tlf_sum (h := h) (at0 := at0) (gs := gs) (n := n) (fun y hy => hh y (by omega))
    have := sm_one (f := fun g => tlf h at0 n g) (g := fun g => tlf h at0 (n + 1) g) (x := h (at0 + n)) (c := 1) (hh n (by omega)) (fun j _ hj => by
      show tlf h at0 (n + 1) j = tlf h at0 n j
      rw [tlf_s, if_neg (fun z => hj z.symm)]; omega) (by
      show tlf h at0 (n + 1) _ = tlf h at0 n _ + 1
      rw [tlf_s, if_pos rfl])
    omega
/-- where group g begins, tl being the tallies, gs groups -/
def stf (tl : Nat → Nat) (at0 gs g : Nat) : Nat := at0 + sm (fun y => tl (y + 1)) (if g = 0 then gs - 1 else g - 1)
theorem sm_shift {f : Nat → Nat} : ∀ n, sm f (n + 1) = f 0 + sm (fun y => f (y + 1)) n
  | 0 => by show 0 + f 0 = f 0 + 0; omega
  | n + 1 => by
    show sm f (n + 1) + f (n + 1) = f 0 + (sm (fun y => f (y + 1)) n + f (n + 1))
    rw [sm_shift n]; omega
theorem st_next {tl : Nat → Nat} {at0 gs g : Nat} (h1 : 1 ≤ g) : stf tl at0 gs (g + 1) = stf tl at0 gs g + tl g := by
  unfold stf
  rw [if_neg (by omega), if_neg (by omega), show g + 1 - 1 = (g - 1) + 1 by omega]
  show at0 + (sm (fun y => tl (y + 1)) (g - 1) + tl (g - 1 + 1)) = _
  rw [show g - 1 + 1 = g by omega]; omega
theorem st_sep {tl : Nat → Nat} {at0 gs g g' : Nat} (h : g < gs) (h' : g' < gs) (hg : (1 ≤ g ∧ g < g') ∨ (1 ≤ g ∧ g' = 0)) : stf tl at0 gs g + tl g ≤ stf tl at0 gs g' := by
  have e : stf tl at0 gs g + tl g = at0 + sm (fun y => tl (y + 1)) g := by
    have := st_next (tl := tl) (at0 := at0) (gs := gs) (g := g) (by omega)
    rw [← this]; unfold stf; rw [if_neg (by omega), Nat.add_sub_cancel]
  rw [e]
  unfold stf
  refine Nat.add_le_add_left (sm_le ?_) _
  rcases hg with hg | hg
  · rw [if_neg (by omega)]; omega
  · rw [if_pos hg.2]; omega
theorem st_end {tl : Nat → Nat} {at0 gs : Nat} (h : 1 ≤ gs) : stf tl at0 gs 0 + tl 0 = at0 + sm tl gs := by
  unfold stf
  rw [if_pos rfl]
  have := sm_shift (f := tl) (gs - 1)
  rw [show gs - 1 + 1 = gs by omega] at this
  omega
theorem st_in {tl : Nat → Nat} {at0 gs g : Nat} (h : g < gs) : at0 ≤ stf tl at0 gs g ∧ stf tl at0 gs g + tl g ≤ at0 + sm tl gs := by
  refine ⟨by unfold stf; omega, ?_⟩
  have he := st_end (tl := tl) (at0 := at0) (gs := gs) (by omega)
  by_cases e : g = 0
  · subst e; omega
  · have := st_sep (tl := tl) (at0 := at0) (gs := gs) (g := g) (g' := 0) h (by omega) (Or.inr ⟨by omega, rfl⟩)
    omega
theorem st_dis {tl : Nat → Nat} {at0 gs g g' p : Nat} (h : g < gs) (h' : g' < gs) (h1 : stf tl at0 gs g ≤ p) (h2 : p < stf tl at0 gs g + tl g) (h3 : stf tl at0 gs g' ≤ p) (h4 : p < stf tl at0 gs g' + tl g') : g = g' := by
  apply Classical.byContradiction
  intro ne
  have hc : ((1 ≤ g ∧ g < g') ∨ (1 ≤ g ∧ g' = 0)) ∨ ((1 ≤ g' ∧ g' < g) ∨ (1 ≤ g' ∧ g = 0)) := by omega
  rcases hc with c | c
  · have := st_sep (tl := tl) (at0 := at0) h h' c; omega
  · have := st_sep (tl := tl) (at0 := at0) h' h c; omega
theorem sm_find {f : Nat → Nat} {x : Nat} : ∀ {n : Nat}, x < sm f n → ∃ j, j < n ∧ sm f j ≤ x ∧ x < sm f j + f j
  | 0, h => absurd h (by show ¬ x < 0; omega)
  | n + 1, h => by
    by_cases e : x < sm f n
    · obtain ⟨j, h1, h2, h3⟩ := sm_find e
      exact ⟨j, by omega, h2, h3⟩
    · exact ⟨n, by omega, by omega, h⟩
theorem st_cov {tl : Nat → Nat} {at0 gs p : Nat} (h0 : 1 ≤ gs) (h1 : at0 ≤ p) (h2 : p < at0 + sm tl gs) : ∃ g, g < gs ∧ stf tl at0 gs g ≤ p ∧ p < stf tl at0 gs g + tl g := by
  by_cases e : p < stf tl at0 gs 0
  · have e2 : p - at0 < sm (fun y => tl (y + 1)) (gs - 1) := by
      unfold stf at e
      rw [if_pos rfl] at e
      omega
    obtain ⟨j, a, b, c⟩ := sm_find e2
    refine ⟨j + 1, by omega, ?_, ?_⟩
    · unfold stf
      rw [if_neg (by omega), Nat.add_sub_cancel]; omega
    · unfold stf
      rw [if_neg (by omega), Nat.add_sub_cancel]; omega
  · exact ⟨0, by omega, by omega, by rw [st_end h0]; exact h2⟩
/-- what is distributed so far: the first n from at0 on; h i the group at place i -/
def DS (od srt h st sp : Nat → Nat) (at0 n gs : Nat) : Prop :=
  (∀ g, g < gs → sp g = st g + tlf h at0 n g) ∧
  (∀ g p, g < gs → st g ≤ p → p < sp g → ∃ y, y < n ∧ srt p = od (at0 + y) ∧ h (at0 + y) = g) ∧
  (∀ y, y < n → ∃ p, st (h (at0 + y)) ≤ p ∧ p < sp (h (at0 + y)) ∧ srt p = od (at0 + y)) ∧
  (∀ g p g' p', g < gs → g' < gs → st g ≤ p → p < sp g → st g' ≤ p' → p' < sp g' → srt p = srt p' → p = p')
theorem tlf_le {h : Nat → Nat} {at0 n N g : Nat} (hn : n ≤ N) : tlf h at0 n g ≤ tlf h at0 N g := by
  induction N with
  | zero => rw [show n = 0 by omega]; exact Nat.le_refl _
  | succ N ih =>
    by_cases e : n = N + 1
    · rw [e]; exact Nat.le_refl _
    · have := ih (by omega)
      rw [tlf_s]; omega
theorem DS_nx {od srt h st sp : Nat → Nat} {at0 n gs T : Nat} (hst : st = stf (fun g => tlf h at0 T g) at0 gs) (hod : ∀ y y', y < y' → y' < T → od (at0 + y) ≠ od (at0 + y')) (hn : n < T) (hh : ∀ y, y < T → h (at0 + y) < gs) (H : DS od srt h st sp at0 n gs) :
    DS od (va_up srt (sp (h (at0 + n))) (od (at0 + n))) h st (va_up sp (h (at0 + n)) (sp (h (at0 + n)) + 1)) at0 (n + 1) gs ∧ at0 ≤ sp (h (at0 + n)) ∧ sp (h (at0 + n)) < at0 + T := by
  obtain ⟨h1, h2, h3, h4⟩ := H
  obtain ⟨g0, eg⟩ : ∃ g0, g0 = h (at0 + n) := ⟨_, rfl⟩
  have hg := hh n hn
  have tl1 : tlf h at0 n g0 + 1 ≤ tlf h at0 T g0 := by
    have := tlf_le (h := h) (at0 := at0) (g := g0) (show n + 1 ≤ T by omega)
    rw [tlf_s, if_pos eg.symm] at this
    exact this
  rw [← eg] at hg ⊢
  have s0 := h1 g0 hg
  have hin := st_in (tl := fun g => tlf h at0 T g) (at0 := at0) hg
  rw [← hst, tlf_sum hh] at hin
  have hin2 : st g0 + tlf h at0 T g0 ≤ at0 + T := hin.2
  -- a filled place is not sp g0
  have nf : ∀ g p, g < gs → st g ≤ p → p < sp g → p ≠ sp g0 := by
    intro g p hgs p1 p2 e
    have l1 : tlf h at0 n g ≤ tlf h at0 T g := tlf_le (by omega)
    have := h1 g hgs
    have e2 : g = g0 := by
      refine st_dis (tl := fun g => tlf h at0 T g) (at0 := at0) (gs := gs) (p := p) hgs hg ?_ ?_ ?_ ?_
      · rw [← hst]; exact p1
      · rw [← hst]; show p < st g + tlf h at0 T g; omega
      · rw [← hst]; omega
      · rw [← hst]; show p < st g0 + tlf h at0 T g0; omega
    rw [e2] at p2
    omega
  have spg : ∀ g p, g < gs → st g ≤ p → p < va_up sp g0 (sp g0 + 1) g → (p < sp g) ∨ (p = sp g0 ∧ g = g0) := by
    intro g p _ p1 p2
    by_cases e : g = g0
    · subst e; rw [ups] at p2; omega
    · rw [upn e] at p2; exact Or.inl p2
  have rd : ∀ g p, g < gs → st g ≤ p → p < sp g → va_up srt (sp g0) (od (at0 + n)) p = srt p := fun g p a b c => upn (nf g p a b c)
  refine ⟨⟨fun g hgs => ?_, fun g p hgs p1 p2 => ?_, fun y hy => ?_, fun g p g' p' hgs hgs' p1 p2 q1 q2 e => ?_⟩, by omega, by omega⟩
  · by_cases e : g = g0
    · rw [e, ups, tlf_s, if_pos eg.symm, s0]; omega
    · rw [upn e, tlf_s, if_neg (fun z => e (z.symm.trans eg.symm)), h1 g hgs]; omega
  · rcases spg g p hgs p1 p2 with q | ⟨q1, q2⟩
    · obtain ⟨y, y1, y2, y3⟩ := h2 g p hgs p1 q
      exact ⟨y, by omega, by rw [rd g p hgs p1 q]; exact y2, y3⟩
    · exact ⟨n, by omega, by rw [q1, ups], by rw [q2]; exact eg.symm⟩
  · by_cases e : y = n
    · subst e
      rw [← eg]
      exact ⟨sp g0, by omega, by rw [ups]; omega, ups⟩
    · obtain ⟨p, p1, p2, p3⟩ := h3 y (by omega)
      have hy2 := hh y (by omega)
      refine ⟨p, p1, ?_, by rw [rd _ p hy2 p1 p2]; exact p3⟩
      by_cases e2 : h (at0 + y) = g0
      · rw [e2, ups]; rw [e2] at p2; omega
      · rw [upn e2]; exact p2
  · rcases spg g p hgs p1 p2 with a | ⟨a1, a2⟩ <;> rcases spg g' p' hgs' q1 q2 with b | ⟨b1, b2⟩
    · rw [rd g p hgs p1 a, rd g' p' hgs' q1 b] at e
      exact h4 g p g' p' hgs hgs' p1 a q1 b e
    · rw [rd g p hgs p1 a, b1, ups] at e
      obtain ⟨y, y1, y2, -⟩ := h2 g p hgs p1 a
      rw [e] at y2
      exact absurd y2.symm (hod y n y1 hn)
    · rw [rd g' p' hgs' q1 b, a1, ups] at e
      obtain ⟨y, y1, y2, -⟩ := h2 g' p' hgs' q1 b
      rw [← e] at y2
      exact absurd y2.symm (hod y n y1 hn)
    · omega
/-- the stretch is put back in the new order: still a partition -/
theorem PT_sort {N m : Nat} {od pl kd fr un od' pl' h st sp srt : Nat → Nat} {b T gs : Nat} (hP : PT N m od pl kd fr un) (hb : b < m) (hT : fr b + T ≤ un b) (h0 : 1 ≤ gs) (hst : st = stf (fun g => tlf h (fr b) T g) (fr b) gs) (hh : ∀ y, y < T → h (fr b + y) < gs) (H : DS od srt h st sp (fr b) T gs)
    (ho : ∀ p, od' p = if fr b ≤ p ∧ p < fr b + T then srt p else od p) (hp1 : ∀ p, fr b ≤ p → p < fr b + T → pl' (srt p) = p) (hp2 : ∀ s, (∀ p, fr b ≤ p → p < fr b + T → srt p ≠ s) → pl' s = pl s) :
    PT N m od' pl' kd fr un ∧ ∀ p, fr b ≤ p → p < fr b + T → ∃ g y, g < gs ∧ st g ≤ p ∧ p < st g + tlf h (fr b) T g ∧ y < T ∧ od' p = od (fr b + y) ∧ h (fr b + y) = g := by
  obtain ⟨a1, a2, a3, a4, a5⟩ := hP
  obtain ⟨h1, h2, h3, h4⟩ := H
  have hN := (a3 b hb).2
  -- what stands at a place
  have at1 : ∀ p, fr b ≤ p → p < fr b + T → ∃ g y, g < gs ∧ st g ≤ p ∧ p < sp g ∧ y < T ∧ srt p = od (fr b + y) ∧ h (fr b + y) = g := by
    intro p p1 p2
    obtain ⟨g, g1, g2, g3⟩ := st_cov (tl := fun g => tlf h (fr b) T g) (at0 := fr b) (gs := gs) (p := p) h0 p1 (by rw [tlf_sum hh]; exact p2)
    rw [← hst] at g2 g3
    have g4 : p < sp g := by rw [h1 g g1]; exact g3
    obtain ⟨y, y1, y2, y3⟩ := h2 g p g1 g2 g4
    exact ⟨g, y, g1, g2, g4, y1, y2, y3⟩
  have inr : ∀ g p, g < gs → st g ≤ p → p < sp g → fr b ≤ p ∧ p < fr b + T := by
    intro g p g1 g2 g3
    have := st_in (tl := fun g => tlf h (fr b) T g) (at0 := fr b) g1
    rw [← hst, tlf_sum hh] at this
    rw [h1 g g1] at g3
    have h5 : st g + tlf h (fr b) T g ≤ fr b + T := this.2
    omega
  have inj : ∀ p p', fr b ≤ p → p < fr b + T → fr b ≤ p' → p' < fr b + T → srt p = srt p' → p = p' := by
    intro p p' p1 p2 q1 q2 e
    obtain ⟨g, y, c1, c2, c3, -⟩ := at1 p p1 p2
    obtain ⟨g', y', d1, d2, d3, -⟩ := at1 p' q1 q2
    exact h4 g p g' p' c1 d1 c2 c3 d2 d3 e
  have old : ∀ s, s < N → fr b ≤ pl s → pl s < fr b + T → ∃ p, fr b ≤ p ∧ p < fr b + T ∧ srt p = s := by
    intro s hs s1 s2
    obtain ⟨p, p1, p2, p3⟩ := h3 (pl s - fr b) (by omega)
    rw [show fr b + (pl s - fr b) = pl s by omega] at p1 p2 p3
    have hg := hh (pl s - fr b) (by omega)
    rw [show fr b + (pl s - fr b) = pl s by omega] at hg
    obtain ⟨q1, q2⟩ := inr _ p hg p1 p2
    exact ⟨p, q1, q2, by rw [p3]; exact (a2 s hs).2⟩
  have new : ∀ p, fr b ≤ p → p < fr b + T → srt p < N ∧ kd (srt p) = b ∧ fr b ≤ pl (srt p) ∧ pl (srt p) < fr b + T := by
    intro p p1 p2
    obtain ⟨g, y, c1, c2, c3, c4, c5, c6⟩ := at1 p p1 p2
    rw [c5]
    have := a1 (fr b + y) (by omega)
    exact ⟨this.1, a5 b _ hb (by omega) (by omega), by rw [this.2]; omega, by rw [this.2]; omega⟩
  refine ⟨⟨fun i hi => ?_, fun s hs => ?_, a3, fun s hs => ?_, fun c i hc i1 i2 => ?_⟩, fun p p1 p2 => ?_⟩
  · rw [ho i]
    by_cases e : fr b ≤ i ∧ i < fr b + T
    · rw [if_pos e]; exact ⟨(new i e.1 e.2).1, hp1 i e.1 e.2⟩
    · rw [if_neg e]
      refine ⟨(a1 i hi).1, ?_⟩
      rw [hp2 (od i) (fun p p1 p2 z => ?_)]
      · exact (a1 i hi).2
      · obtain ⟨-, -, n1, n2⟩ := new p p1 p2
        rw [z, (a1 i hi).2] at n1 n2
        exact e ⟨n1, n2⟩
  · by_cases e : fr b ≤ pl s ∧ pl s < fr b + T
    · obtain ⟨p, p1, p2, p3⟩ := old s hs e.1 e.2
      have := hp1 p p1 p2
      rw [p3] at this
      rw [this, ho p, if_pos ⟨p1, p2⟩]
      exact ⟨by omega, p3⟩
    · rw [hp2 s (fun p p1 p2 z => ?_)]
      · rw [ho, if_neg e]; exact a2 s hs
      · obtain ⟨-, -, n1, n2⟩ := new p p1 p2
        rw [z] at n1 n2
        exact e ⟨n1, n2⟩
  · by_cases e : fr b ≤ pl s ∧ pl s < fr b + T
    · obtain ⟨p, p1, p2, p3⟩ := old s hs e.1 e.2
      have e2 := hp1 p p1 p2
      rw [p3] at e2
      have e3 := (new p p1 p2).2.1
      rw [p3] at e3
      rw [e2, e3]
      exact ⟨hb, p1, by omega⟩
    · rw [hp2 s (fun p p1 p2 z => ?_)]
      · exact a4 s hs
      · obtain ⟨-, -, n1, n2⟩ := new p p1 p2
        rw [z] at n1 n2
        exact e ⟨n1, n2⟩
  · rw [ho i]
    by_cases e : fr b ≤ i ∧ i < fr b + T
    · rw [if_pos e, (new i e.1 e.2).2.1]
      have := a5 c i hc i1 i2
      have := a5 b i hb e.1 (by omega)
      omega
    · rw [if_neg e]; exact a5 c i hc i1 i2
  · obtain ⟨g, y, c1, c2, c3, c4, c5, c6⟩ := at1 p p1 p2
    rw [h1 g c1] at c3
    exact ⟨g, y, c1, c2, c3, c4, by rw [ho p, if_pos ⟨p1, p2⟩]; exact c5, c6⟩
