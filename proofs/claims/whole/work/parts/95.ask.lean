/-! WHAT THE QUESTIONS ANSWER, by σ alone; the class's answers -/
theorem dist_u {σ : Wd} {d d' : Nat → Option Nat} (h : isDist σ d) (h' : isDist σ d') {s : Nat} (hs : s < nS σ) : d s = d' s := by
  cases hx : d s with
  | none =>
    cases hy : d' s with
    | none => rfl
    | some m => rw [(h s hs m).mpr ((h' s hs m).mp hy)] at hx; cases hx
  | some n => rw [(h' s hs n).mpr ((h s hs n).mp hx)]
/-- count -/
def anCnt (σ : Wd) (v r : Int32) : Prop :=
  (v = 0 ∧ r = nI (nS σ)) ∨ (v = 1 ∧ r = nI (dT σ)) ∨ (v = 2 ∧ r = nI (dA σ)) ∨ (v = 3 ∧ ∃ d, isDist σ d ∧ r = nI (cnt (fun s => (d s).isSome) (nS σ))) ∨ (v = 4 ∧ r = nI (cnt (aimW σ) (nS σ))) ∨
  (v = 5 ∧ ∃ d, isNo σ 1 d ∧ r = nI (cnt (fun s => (d s).isSome) (nS σ))) ∨ (v = 6 ∧ ∃ d, isNo σ 2 d ∧ r = nI (cnt (fun s => (d s).isSome) (nS σ))) ∨ (v = 7 ∧ ∃ d, isNo σ 3 d ∧ r = nI (cnt (fun s => (d s).isSome) (nS σ))) ∨
  (v = 8 ∧ ∃ d e, isDist σ d ∧ isNo σ 1 e ∧ r = nI (cnt (fun s => (d s).isSome && !(e s).isSome) (nS σ))) ∨ (v = 9 ∧ ∃ f : Nat → Bool, (∀ s, s < nS σ → (f s = true ↔ isF (alk σ) s)) ∧ r = nI (cnt f (nS σ))) ∨ (v = 10 ∧ r = nI (dP σ)) ∨
  (v ≠ 0 ∧ v ≠ 1 ∧ v ≠ 2 ∧ v ≠ 3 ∧ v ≠ 4 ∧ v ≠ 5 ∧ v ≠ 6 ∧ v ≠ 7 ∧ v ≠ 8 ∧ v ≠ 9 ∧ v ≠ 10 ∧ r = -2)
theorem anCnt_u {σ : Wd} {v r r' : Int32} (h : anCnt σ v r) (h' : anCnt σ v r') : r = r' := by
  have hdu : ∀ d d', isDist σ d → isDist σ d' → cnt (fun s => (d s).isSome) (nS σ) = cnt (fun s => (d' s).isSome) (nS σ) := fun d d' a b => cnt_congr (fun s hs => by rw [dist_u a b hs])
  have ne : ∀ a b : Int32, a ≠ b → v = a → v = b → False := fun a b hab x y => hab (x.symm.trans y)
  rcases h with ⟨e, h⟩ | ⟨e, h⟩ | ⟨e, h⟩ | ⟨e, h⟩ | ⟨e, h⟩ | ⟨e, h⟩ | ⟨e, h⟩ | ⟨e, h⟩ | ⟨e, h⟩ | ⟨e, h⟩ | ⟨e, h⟩ | ⟨e0, e1, e2, e3, e4, e5, e6, e7, e8, e9, e10, h⟩
  · subst e; rcases h' with ⟨f, g⟩ | ⟨f, g⟩ | ⟨f, g⟩ | ⟨f, g⟩ | ⟨f, g⟩ | ⟨f, g⟩ | ⟨f, g⟩ | ⟨f, g⟩ | ⟨f, g⟩ | ⟨f, g⟩ | ⟨f, g⟩ | ⟨f0, f1, f2, f3, f4, f5, f6, f7, f8, f9, f10, g⟩ <;> first | (exact absurd f (by decide)) | (exact absurd rfl f0) | (rw [h, g])
  · subst e; rcases h' with ⟨f, g⟩ | ⟨f, g⟩ | ⟨f, g⟩ | ⟨f, g⟩ | ⟨f, g⟩ | ⟨f, g⟩ | ⟨f, g⟩ | ⟨f, g⟩ | ⟨f, g⟩ | ⟨f, g⟩ | ⟨f, g⟩ | ⟨f0, f1, f2, f3, f4, f5, f6, f7, f8, f9, f10, g⟩ <;> first | (exact absurd f (by decide)) | (exact absurd rfl f1) | (rw [h, g])
  · subst e; rcases h' with ⟨f, g⟩ | ⟨f, g⟩ | ⟨f, g⟩ | ⟨f, g⟩ | ⟨f, g⟩ | ⟨f, g⟩ | ⟨f, g⟩ | ⟨f, g⟩ | ⟨f, g⟩ | ⟨f, g⟩ | ⟨f, g⟩ | ⟨f0, f1, f2, f3, f4, f5, f6, f7, f8, f9, f10, g⟩ <;> first | (exact absurd f (by decide)) | (exact absurd rfl f2) | (rw [h, g])
  · subst e; rcases h' with ⟨f, g⟩ | ⟨f, g⟩ | ⟨f, g⟩ | ⟨f, g⟩ | ⟨f, g⟩ | ⟨f, g⟩ | ⟨f, g⟩ | ⟨f, g⟩ | ⟨f, g⟩ | ⟨f, g⟩ | ⟨f, g⟩ | ⟨f0, f1, f2, f3, f4, f5, f6, f7, f8, f9, f10, g⟩ <;> first | (exact absurd f (by decide)) | (exact absurd rfl f3) | skip
    obtain ⟨d, a, b⟩ := h
    obtain ⟨d', a', b'⟩ := g
    rw [b, b', hdu d d' a a']
  · subst e; rcases h' with ⟨f, g⟩ | ⟨f, g⟩ | ⟨f, g⟩ | ⟨f, g⟩ | ⟨f, g⟩ | ⟨f, g⟩ | ⟨f, g⟩ | ⟨f, g⟩ | ⟨f, g⟩ | ⟨f, g⟩ | ⟨f, g⟩ | ⟨f0, f1, f2, f3, f4, f5, f6, f7, f8, f9, f10, g⟩ <;> first | (exact absurd f (by decide)) | (exact absurd rfl f4) | (rw [h, g])
  · subst e; rcases h' with ⟨f, g⟩ | ⟨f, g⟩ | ⟨f, g⟩ | ⟨f, g⟩ | ⟨f, g⟩ | ⟨f, g⟩ | ⟨f, g⟩ | ⟨f, g⟩ | ⟨f, g⟩ | ⟨f, g⟩ | ⟨f, g⟩ | ⟨f0, f1, f2, f3, f4, f5, f6, f7, f8, f9, f10, g⟩ <;> first | (exact absurd f (by decide)) | (exact absurd rfl f5) | skip
    obtain ⟨d, a, b⟩ := h
    obtain ⟨d', a', b'⟩ := g
    rw [b, b', isNo_uni a a']
  · subst e; rcases h' with ⟨f, g⟩ | ⟨f, g⟩ | ⟨f, g⟩ | ⟨f, g⟩ | ⟨f, g⟩ | ⟨f, g⟩ | ⟨f, g⟩ | ⟨f, g⟩ | ⟨f, g⟩ | ⟨f, g⟩ | ⟨f, g⟩ | ⟨f0, f1, f2, f3, f4, f5, f6, f7, f8, f9, f10, g⟩ <;> first | (exact absurd f (by decide)) | (exact absurd rfl f6) | skip
    obtain ⟨d, a, b⟩ := h
    obtain ⟨d', a', b'⟩ := g
    rw [b, b', isNo_uni a a']
  · subst e; rcases h' with ⟨f, g⟩ | ⟨f, g⟩ | ⟨f, g⟩ | ⟨f, g⟩ | ⟨f, g⟩ | ⟨f, g⟩ | ⟨f, g⟩ | ⟨f, g⟩ | ⟨f, g⟩ | ⟨f, g⟩ | ⟨f, g⟩ | ⟨f0, f1, f2, f3, f4, f5, f6, f7, f8, f9, f10, g⟩ <;> first | (exact absurd f (by decide)) | (exact absurd rfl f7) | skip
    obtain ⟨d, a, b⟩ := h
    obtain ⟨d', a', b'⟩ := g
    rw [b, b', isNo_uni a a']
  · subst e; rcases h' with ⟨f, g⟩ | ⟨f, g⟩ | ⟨f, g⟩ | ⟨f, g⟩ | ⟨f, g⟩ | ⟨f, g⟩ | ⟨f, g⟩ | ⟨f, g⟩ | ⟨f, g⟩ | ⟨f, g⟩ | ⟨f, g⟩ | ⟨f0, f1, f2, f3, f4, f5, f6, f7, f8, f9, f10, g⟩ <;> first | (exact absurd f (by decide)) | (exact absurd rfl f8) | skip
    obtain ⟨d, e, a, b, c⟩ := h
    obtain ⟨d', e', a', b', c'⟩ := g
    rw [c, c', isNo_uni b b', cnt_congr (p := fun s => (d s).isSome && !(e' s).isSome) (p' := fun s => (d' s).isSome && !(e' s).isSome) (fun s hs => by rw [dist_u a a' hs])]
  · subst e; rcases h' with ⟨f, g⟩ | ⟨f, g⟩ | ⟨f, g⟩ | ⟨f, g⟩ | ⟨f, g⟩ | ⟨f, g⟩ | ⟨f, g⟩ | ⟨f, g⟩ | ⟨f, g⟩ | ⟨f, g⟩ | ⟨f, g⟩ | ⟨f0, f1, f2, f3, f4, f5, f6, f7, f8, f9, f10, g⟩ <;> first | (exact absurd f (by decide)) | (exact absurd rfl f9) | skip
    obtain ⟨p, a, b⟩ := h
    obtain ⟨p', a', b'⟩ := g
    rw [b, b', cnt_congr (p := p) (p' := p') (fun s hs => by rw [Bool.eq_iff_iff, a s hs, a' s hs])]
  · subst e; rcases h' with ⟨f, g⟩ | ⟨f, g⟩ | ⟨f, g⟩ | ⟨f, g⟩ | ⟨f, g⟩ | ⟨f, g⟩ | ⟨f, g⟩ | ⟨f, g⟩ | ⟨f, g⟩ | ⟨f, g⟩ | ⟨f, g⟩ | ⟨f0, f1, f2, f3, f4, f5, f6, f7, f8, f9, f10, g⟩ <;> first | (exact absurd f (by decide)) | (exact absurd rfl f10) | (rw [h, g])
  · rcases h' with ⟨f, g⟩ | ⟨f, g⟩ | ⟨f, g⟩ | ⟨f, g⟩ | ⟨f, g⟩ | ⟨f, g⟩ | ⟨f, g⟩ | ⟨f, g⟩ | ⟨f, g⟩ | ⟨f, g⟩ | ⟨f, g⟩ | ⟨f0, f1, f2, f3, f4, f5, f6, f7, f8, f9, f10, g⟩ <;> first | (exact absurd f (by assumption)) | (rw [h, g])
/-- of -/
def anOf (σ : Wd) (v w r : Int32) : Prop :=
  (¬ (vp_in v (nS σ) ∧ vp_in w 5) ∧ r = -2) ∨ (∃ s, s < nS σ ∧ v = nI s ∧ ((w = 0 ∧ ∃ d, isDist σ d ∧ r = oI (d s)) ∨ (∃ x, 1 ≤ x ∧ x ≤ 3 ∧ w = nI x ∧ ∃ d, isNo σ x d ∧ r = oI (d s)) ∨ (w = 4 ∧ ∃ f, f ≤ s ∧ alk σ f s ∧ isF (alk σ) f ∧ r = nI f)))
theorem anOf_u {σ : Wd} {v w r r' : Int32} (h4 : nS σ ≤ 4096) (h : anOf σ v w r) (h' : anOf σ v w r') : r = r' := by
  have vin : ∀ s, s < nS σ → v = nI s → vp_in v (nS σ) := fun s hs e => by rw [e]; exact vp_in_nI hs (by omega)
  rcases h with ⟨a, b⟩ | ⟨s, hs, ev, h⟩
  · rcases h' with ⟨a', b'⟩ | ⟨s', hs', ev', h'⟩
    · rw [b, b']
    · exfalso
      apply a
      refine ⟨vin s' hs' ev', ?_⟩
      rcases h' with ⟨e, -⟩ | ⟨x, x1, x2, e, -⟩ | ⟨e, -⟩
      · rw [e]; exact vp_in_nI (n := 0) (by omega) (by omega)
      · rw [e]; exact vp_in_nI (by omega) (by omega)
      · rw [e]; exact vp_in_nI (n := 4) (by omega) (by omega)
  · rcases h' with ⟨a', b'⟩ | ⟨s', hs', ev', h'⟩
    · exfalso
      apply a'
      refine ⟨vin s hs ev, ?_⟩
      rcases h with ⟨e, -⟩ | ⟨x, x1, x2, e, -⟩ | ⟨e, -⟩
      · rw [e]; exact vp_in_nI (n := 0) (by omega) (by omega)
      · rw [e]; exact vp_in_nI (by omega) (by omega)
      · rw [e]; exact vp_in_nI (n := 4) (by omega) (by omega)
    · have es : s = s' := (nI_eq (by omega) (by omega)).mp (ev.symm.trans ev')
      subst es
      rcases h with ⟨e, d, a, b⟩ | ⟨x, x1, x2, e, d, a, b⟩ | ⟨e, f, a, b, c, g⟩
      · rcases h' with ⟨e', d', a', b'⟩ | ⟨x', x1', x2', e', d', a', b'⟩ | ⟨e', f', a', b', c', g'⟩
        · rw [b, b', dist_u a a' hs]
        · exfalso
          have := (nI_eq (a := 0) (b := x') (by omega) (by omega)).mp (e.symm.trans e'); omega
        · exact absurd (e.symm.trans e') (by decide)
      · rcases h' with ⟨e', d', a', b'⟩ | ⟨x', x1', x2', e', d', a', b'⟩ | ⟨e', f', a', b', c', g'⟩
        · exfalso
          have := (nI_eq (a := x) (b := 0) (by omega) (by omega)).mp (e.symm.trans e'); omega
        · have : x = x' := (nI_eq (by omega) (by omega)).mp (e.symm.trans e')
          subst this
          rw [b, b', isNo_uni a a']
        · exfalso
          have := (nI_eq (a := x) (b := 4) (by omega) (by omega)).mp (e.symm.trans e'); omega
      · rcases h' with ⟨e', d', a', b'⟩ | ⟨x', x1', x2', e', d', a', b'⟩ | ⟨e', f', a', b', c', g'⟩
        · exact absurd (e.symm.trans e') (by decide)
        · exfalso
          have := (nI_eq (a := 4) (b := x') (by omega) (by omega)).mp (e.symm.trans e'); omega
        · rw [g, g', isF_uni (fun _ _ h => alk_symm h) c c' (alk_trans b (alk_symm b'))]
/-- best -/
def anBs (σ : Wd) (v w r : Int32) : Prop :=
  (¬ (vp_in v (nS σ) ∧ ∃ x, 1 ≤ x ∧ x ≤ 3 ∧ w = nI x) ∧ r = -2) ∨ (∃ s x d o, s < nS σ ∧ v = nI s ∧ 1 ≤ x ∧ x ≤ 3 ∧ w = nI x ∧ isNo σ x d ∧ isBs σ x d s o ∧ r = oI o)
theorem anBs_u {σ : Wd} {v w r r' : Int32} (h4 : nS σ ≤ 4096) (h : anBs σ v w r) (h' : anBs σ v w r') : r = r' := by
  rcases h with ⟨a, b⟩ | ⟨s, x, d, o, h1, h2, h3, h5, h6, h7, h8, h9⟩
  · rcases h' with ⟨a', b'⟩ | ⟨s, x, d, o, h1, h2, h3, h5, h6, h7, h8, h9⟩
    · rw [b, b']
    · exact absurd ⟨by rw [h2]; exact vp_in_nI h1 (by omega), x, h3, h5, h6⟩ a
  · rcases h' with ⟨a', b'⟩ | ⟨s', x', d', o', h1', h2', h3', h5', h6', h7', h8', h9'⟩
    · exact absurd ⟨by rw [h2]; exact vp_in_nI h1 (by omega), x, h3, h5, h6⟩ a'
    · have es : s = s' := (nI_eq (by omega) (by omega)).mp (h2.symm.trans h2')
      have ex : x = x' := (nI_eq (by omega) (by omega)).mp (h6.symm.trans h6')
      subst es
      subst ex
      have ed := isNo_uni h7 h7'
      subst ed
      rw [h9, h9', isBs_uni h8 h8']
def PCl (q : Ro) : Prop := q.1 < 40
