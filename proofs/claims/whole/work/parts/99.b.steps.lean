/-! WHAT THE CALLS THAT BUILD DO TO σ -/
def sClear (σ : Wd) : Wd := (0, dS σ, 0, 0, dO σ, va_up (dC σ) 12 [], dE σ, 0)
def sThing (σ : Wd) (z : Nat) : Wd := (dT σ + 1, va_up (dS σ) (dT σ) z, dB σ, dA σ, dO σ, dC σ, dE σ, dP σ)
def sStart (σ : Wd) (b : Nat) : Wd := (dT σ, dS σ, b, dA σ, dO σ, dC σ, dE σ, dP σ)
def sAct (σ : Wd) : Wd := (dT σ, dS σ, dB σ, dA σ + 1, va_up (dO σ) (dA σ) 1, va_up (dC σ) (dA σ) [], (fun a k => if a = dA σ ∧ k = 0 then [] else dE σ a k), dP σ)
def sOut (σ : Wd) (a : Nat) : Wd := (dT σ, dS σ, dB σ, dA σ, va_up (dO σ) a (dO σ a + 1), dC σ, (fun b k => if b = a ∧ k = dO σ a then [] else dE σ b k), dP σ)
def sCond (σ : Wd) (x : Nat) (L : List Ce) : Wd := (dT σ, dS σ, dB σ, dA σ, dO σ, va_up (dC σ) x L, dE σ, dP σ)
def sEff (σ : Wd) (a k : Nat) (c : Ce) : Wd := (dT σ, dS σ, dB σ, dA σ, dO σ, dC σ, (fun b j => if b = a ∧ j = k then dE σ a k ++ [c] else dE σ b j), dP σ)
def sUnact (σ : Wd) : Wd := (dT σ, dS σ, dB σ, dA σ - 1, dO σ, dC σ, dE σ, dP σ)
def sCover (σ : Wd) : Wd := (dT σ, dS σ, dB σ, dA σ, dO σ, va_up (dC σ) (13 + dP σ) [], dE σ, dP σ + 1)
def sBare (σ : Wd) : Wd := (dT σ, dS σ, dB σ, dA σ, dO σ, dC σ, dE σ, 0)
/-- a clause out of the ints of a call -/
def isCe (c : Ce) (t op v : Int32) : Prop := t = nI c.1 ∧ op = nI c.2.1 ∧ v = nI c.2.2
theorem coI_ce {n : Nat} (hn : n ≤ 8) {t op v : Int32} : coI n t op v ↔ ∃ c, okCo n c ∧ isCe c t op v := by
  constructor
  · rintro ⟨h1, h2, h3⟩
    obtain ⟨x, hx, ex⟩ := vp_in_of h1 (by omega)
    obtain ⟨y, hy, ey⟩ := vp_in_of h2 (by omega)
    by_cases e : op = 2
    · rw [if_pos e] at h3
      obtain ⟨z, hz, ez⟩ := vp_in_of h3 (by omega)
      have : y = 2 := (nI_eq (b := 2) (by omega) (by decide)).mp (ey.symm.trans e)
      exact ⟨(x, y, z), ⟨hx, hy, by show (if y = 2 then z < n else z < 4); rw [if_pos this]; exact hz⟩, ex, ey, ez⟩
    · rw [if_neg e] at h3
      obtain ⟨z, hz, ez⟩ := vp_in_of h3 (by omega)
      have : y ≠ 2 := fun q => e (by rw [ey, q]; rfl)
      exact ⟨(x, y, z), ⟨hx, hy, by show (if y = 2 then z < n else z < 4); rw [if_neg this]; exact hz⟩, ex, ey, ez⟩
  · rintro ⟨c, ⟨h1, h2, h3⟩, e1, e2, e3⟩
    refine ⟨by rw [e1]; exact vp_in_nI h1 (by omega), by rw [e2]; exact vp_in_nI h2 (by omega), ?_⟩
    by_cases e : c.2.1 = 2
    · rw [if_pos e] at h3
      rw [if_pos (by rw [e2, e]; rfl), e3]; exact vp_in_nI h3 (by omega)
    · rw [if_neg e] at h3
      have ne : ¬ op = 2 := fun q => e ((nI_eq (b := 2) (by omega) (by decide)).mp (e2.symm.trans q))
      rw [if_neg ne, e3]; exact vp_in_nI h3 (by omega)
theorem efI_ce {n : Nat} {sz : Nat → Nat} (hn : n ≤ 8) (hz : ∀ t, t < n → 2 ≤ sz t ∧ sz t ≤ 4) {t op v : Int32} : efI sz n t op v ↔ ∃ c, okEf sz n c ∧ isCe c t op v := by
  constructor
  · rintro ⟨h1, h2, h3⟩
    obtain ⟨x, hx, ex⟩ := vp_in_of h1 (by omega)
    obtain ⟨y, hy, ey⟩ := vp_in_of h2 (by omega)
    have hzx := hz x hx
    have e1 : (op = 1) ↔ y = 1 := by rw [ey]; exact nI_eq (b := 1) (by omega) (by decide)
    have e0 : (op = 0) ↔ y = 0 := by rw [ey]; exact nI_eq (b := 0) (by omega) (by decide)
    rw [ex, nI_clamp (by omega)] at h3
    have hb : ∃ z, v = nI z ∧ (if y = 0 then z < sz x else if y = 1 then z < n else z < 4) := by
      by_cases q1 : y = 1
      · rw [if_pos (e1.mpr q1)] at h3
        obtain ⟨z, hz, ez⟩ := vp_in_of h3 (by omega)
        exact ⟨z, ez, by rw [if_neg (by omega), if_pos q1]; exact hz⟩
      · rw [if_neg (fun q => q1 (e1.mp q))] at h3
        by_cases q0 : y = 0
        · rw [if_pos (e0.mpr q0)] at h3
          obtain ⟨z, hz, ez⟩ := vp_in_of h3 (by omega)
          exact ⟨z, ez, by rw [if_pos q0]; exact hz⟩
        · rw [if_neg (fun q => q0 (e0.mp q))] at h3
          obtain ⟨z, hz, ez⟩ := vp_in_of h3 (by omega)
          exact ⟨z, ez, by rw [if_neg q0, if_neg q1]; exact hz⟩
    obtain ⟨z, ez, hz2⟩ := hb
    exact ⟨(x, y, z), ⟨hx, hy, hz2⟩, ex, ey, ez⟩
  · rintro ⟨c, ⟨h1, h2, h3⟩, e1, e2, e3⟩
    have hzx := hz _ h1
    have g1 : (op = 1) ↔ c.2.1 = 1 := by rw [e2]; exact nI_eq (b := 1) (by omega) (by decide)
    have g0 : (op = 0) ↔ c.2.1 = 0 := by rw [e2]; exact nI_eq (b := 0) (by omega) (by decide)
    refine ⟨by rw [e1]; exact vp_in_nI h1 (by omega), by rw [e2]; exact vp_in_nI h2 (by omega), ?_⟩
    rw [e1, nI_clamp (by omega), e3]
    by_cases q1 : c.2.1 = 1
    · rw [if_neg (by omega), if_pos q1] at h3
      rw [if_pos (g1.mpr q1)]; exact vp_in_nI h3 (by omega)
    · rw [if_neg (fun q => q1 (g1.mp q))]
      by_cases q0 : c.2.1 = 0
      · rw [if_pos q0] at h3
        rw [if_pos (g0.mpr q0)]; exact vp_in_nI h3 (by omega)
      · rw [if_neg q0, if_neg q1] at h3
        rw [if_neg (fun q => q0 (g0.mp q))]; exact vp_in_nI h3 (by omega)
theorem isCe_u {c d : Ce} {t op v : Int32} (hc : c.1 < 2 ^ 31 ∧ c.2.1 < 2 ^ 31 ∧ c.2.2 < 2 ^ 31) (hd : d.1 < 2 ^ 31 ∧ d.2.1 < 2 ^ 31 ∧ d.2.2 < 2 ^ 31) (h : isCe c t op v) (h' : isCe d t op v) : c = d := by
  obtain ⟨a, b, e⟩ := c
  obtain ⟨a', b', e'⟩ := d
  obtain ⟨h1, h2, h3⟩ := h
  obtain ⟨h1', h2', h3'⟩ := h'
  have i1 : a = a' := (nI_eq hc.1 hd.1).mp (h1.symm.trans h1')
  have i2 : b = b' := (nI_eq hc.2.1 hd.2.1).mp (h2.symm.trans h2')
  have i3 : e = e' := (nI_eq hc.2.2 hd.2.2).mp (h3.symm.trans h3')
  rw [i1, i2, i3]
theorem okCo_b {n : Nat} (hn : n ≤ 8) {c : Ce} (h : okCo n c) : c.1 < 2 ^ 31 ∧ c.2.1 < 2 ^ 31 ∧ c.2.2 < 2 ^ 31 := by
  obtain ⟨h1, h2, h3⟩ := h
  refine ⟨by omega, by omega, ?_⟩
  split at h3 <;> omega
theorem okEf_b {n : Nat} {sz : Nat → Nat} (hn : n ≤ 8) (hz : ∀ t, t < n → 2 ≤ sz t ∧ sz t ≤ 4) {c : Ce} (h : okEf sz n c) : c.1 < 2 ^ 31 ∧ c.2.1 < 2 ^ 31 ∧ c.2.2 < 2 ^ 31 := by
  obtain ⟨h1, h2, h3⟩ := h
  have := hz _ h1
  refine ⟨by omega, by omega, ?_⟩
  split at h3
  · omega
  · split at h3 <;> omega
/-! each call: its answer r and the world τ behind it -/
def trClear (σ : Wd) (r : Int32) (τ : Wd) : Prop := r = nI (dT σ) ∧ τ = sClear σ
def okTh (σ : Wd) (v : Int32) (z : Nat) : Prop := 2 ≤ z ∧ z ≤ 4 ∧ v = nI z ∧ dA σ = 0 ∧ dP σ = 0 ∧ dC σ 12 = []
def trThing (σ : Wd) (v r : Int32) (τ : Wd) : Prop := ((¬ ∃ z, okTh σ v z) ∧ r = -2 ∧ τ = σ) ∨ (∃ z, okTh σ v z ∧ ((¬ (dT σ < 8 ∧ nS σ * z ≤ 4096) ∧ r = -3 ∧ τ = σ) ∨ (dT σ < 8 ∧ nS σ * z ≤ 4096 ∧ r = nI (dT σ) ∧ τ = sThing σ z)))
theorem trThing_u {σ : Wd} {v r r' : Int32} {τ τ' : Wd} (h : trThing σ v r τ) (h' : trThing σ v r' τ') : r = r' ∧ τ = τ' := by
  rcases h with ⟨a, b, c⟩ | ⟨z, o, h⟩
  · rcases h' with ⟨a', b', c'⟩ | ⟨z', o', -⟩
    · exact ⟨b.trans b'.symm, c.trans c'.symm⟩
    · exact absurd ⟨z', o'⟩ a
  · rcases h' with ⟨a', b', c'⟩ | ⟨z', o', h'⟩
    · exact absurd ⟨z, o⟩ a'
    · have ez : z = z' := by
        obtain ⟨-, o2, o3, -⟩ := o
        obtain ⟨-, o2', o3', -⟩ := o'
        exact (nI_eq (by omega) (by omega)).mp (o3.symm.trans o3')
      subst ez
      rcases h with ⟨a, b, c⟩ | ⟨a1, a2, b, c⟩ <;> rcases h' with ⟨a', b', c'⟩ | ⟨a1', a2', b', c'⟩
      · exact ⟨b.trans b'.symm, c.trans c'.symm⟩
      · exact absurd ⟨a1', a2'⟩ a
      · exact absurd ⟨a1, a2⟩ a'
      · exact ⟨b.trans b'.symm, c.trans c'.symm⟩
def trStart (σ : Wd) (v r : Int32) (τ : Wd) : Prop := (¬ vp_in v (nS σ) ∧ r = -2 ∧ τ = σ) ∨ (∃ s, s < nS σ ∧ v = nI s ∧ r = nI (dB σ) ∧ τ = sStart σ s)
theorem trStart_u {σ : Wd} {v r r' : Int32} {τ τ' : Wd} (h4 : nS σ ≤ 4096) (h : trStart σ v r τ) (h' : trStart σ v r' τ') : r = r' ∧ τ = τ' := by
  rcases h with ⟨a, b, c⟩ | ⟨s, a, b, c, d⟩ <;> rcases h' with ⟨a', b', c'⟩ | ⟨s', a', b', c', d'⟩
  · exact ⟨b.trans b'.symm, c.trans c'.symm⟩
  · exact absurd (by rw [b']; exact vp_in_nI a' (by omega)) a
  · exact absurd (by rw [b]; exact vp_in_nI a (by omega)) a'
  · have : s = s' := (nI_eq (by omega) (by omega)).mp (b.symm.trans b')
    subst this
    exact ⟨c.trans c'.symm, d.trans d'.symm⟩
def trAct (σ : Wd) (r : Int32) (τ : Wd) : Prop := (dA σ = 12 ∧ r = -3 ∧ τ = σ) ∨ (dA σ < 12 ∧ r = nI (dA σ) ∧ τ = sAct σ)
theorem trAct_u {σ : Wd} {r r' : Int32} {τ τ' : Wd} (h : trAct σ r τ) (h' : trAct σ r' τ') : r = r' ∧ τ = τ' := by
  rcases h with ⟨a, b, c⟩ | ⟨a, b, c⟩ <;> rcases h' with ⟨a', b', c'⟩ | ⟨a', b', c'⟩
  · exact ⟨b.trans b'.symm, c.trans c'.symm⟩
  · omega
  · omega
  · exact ⟨b.trans b'.symm, c.trans c'.symm⟩
def trOut (σ : Wd) (v r : Int32) (τ : Wd) : Prop := (¬ vp_in v (dA σ) ∧ r = -2 ∧ τ = σ) ∨ (∃ a, a < dA σ ∧ v = nI a ∧ ((dO σ a = 3 ∧ r = -3 ∧ τ = σ) ∨ (dO σ a < 3 ∧ r = nI (dO σ a) ∧ τ = sOut σ a)))
theorem trOut_u {σ : Wd} {v r r' : Int32} {τ τ' : Wd} (h12 : dA σ ≤ 12) (h : trOut σ v r τ) (h' : trOut σ v r' τ') : r = r' ∧ τ = τ' := by
  rcases h with ⟨a, b, c⟩ | ⟨s, a, b, h⟩ <;> rcases h' with ⟨a', b', c'⟩ | ⟨s', a', b', h'⟩
  · exact ⟨b.trans b'.symm, c.trans c'.symm⟩
  · exact absurd (by rw [b']; exact vp_in_nI a' (by omega)) a
  · exact absurd (by rw [b]; exact vp_in_nI a (by omega)) a'
  · have : s = s' := (nI_eq (by omega) (by omega)).mp (b.symm.trans b')
    subst this
    rcases h with ⟨x, y, z⟩ | ⟨x, y, z⟩ <;> rcases h' with ⟨x', y', z'⟩ | ⟨x', y', z'⟩
    · exact ⟨y.trans y'.symm, z.trans z'.symm⟩
    · omega
    · omega
    · exact ⟨y.trans y'.symm, z.trans z'.symm⟩
/-- a condition more in row x, where the call is right -/
def trCo (σ : Wd) (x : Nat) (t op v r : Int32) (τ : Wd) : Prop := (¬ coI (dT σ) t op v ∧ r = -2 ∧ τ = σ) ∨ (∃ c, okCo (dT σ) c ∧ isCe c t op v ∧ (((dC σ x).length = 4 ∧ r = -3 ∧ τ = σ) ∨ ((dC σ x).length < 4 ∧ r = nI ((dC σ x).length + 1) ∧ τ = sCond σ x (dC σ x ++ [c]))))
theorem trCo_u {σ : Wd} {x : Nat} {t op v r r' : Int32} {τ τ' : Wd} (h8 : dT σ ≤ 8) (h : trCo σ x t op v r τ) (h' : trCo σ x t op v r' τ') : r = r' ∧ τ = τ' := by
  rcases h with ⟨a, b, c⟩ | ⟨s, a, b, h⟩ <;> rcases h' with ⟨a', b', c'⟩ | ⟨s', a', b', h'⟩
  · exact ⟨b.trans b'.symm, c.trans c'.symm⟩
  · exact absurd ((coI_ce h8).mpr ⟨s', a', b'⟩) a
  · exact absurd ((coI_ce h8).mpr ⟨s, a, b⟩) a'
  · have : s = s' := isCe_u (okCo_b h8 a) (okCo_b h8 a') b b'
    subst this
    rcases h with ⟨x, y, z⟩ | ⟨x, y, z⟩ <;> rcases h' with ⟨x', y', z'⟩ | ⟨x', y', z'⟩
    · exact ⟨y.trans y'.symm, z.trans z'.symm⟩
    · omega
    · omega
    · exact ⟨y.trans y'.symm, z.trans z'.symm⟩
def trWhen (σ : Wd) (w t op v r : Int32) (τ : Wd) : Prop := (¬ vp_in w (dA σ) ∧ r = -2 ∧ τ = σ) ∨ (∃ a, a < dA σ ∧ w = nI a ∧ trCo σ a t op v r τ)
theorem trWhen_u {σ : Wd} {w t op v r r' : Int32} {τ τ' : Wd} (h8 : dT σ ≤ 8) (h12 : dA σ ≤ 12) (h : trWhen σ w t op v r τ) (h' : trWhen σ w t op v r' τ') : r = r' ∧ τ = τ' := by
  rcases h with ⟨a, b, c⟩ | ⟨s, a, b, h⟩ <;> rcases h' with ⟨a', b', c'⟩ | ⟨s', a', b', h'⟩
  · exact ⟨b.trans b'.symm, c.trans c'.symm⟩
  · exact absurd (by rw [b']; exact vp_in_nI a' (by omega)) a
  · exact absurd (by rw [b]; exact vp_in_nI a (by omega)) a'
  · have : s = s' := (nI_eq (by omega) (by omega)).mp (b.symm.trans b')
    subst this
    exact trCo_u h8 h h'
def trPart (σ : Wd) (w t op v r : Int32) (τ : Wd) : Prop := (¬ vp_in w (dP σ) ∧ r = -2 ∧ τ = σ) ∨ (∃ p, p < dP σ ∧ w = nI p ∧ trCo σ (13 + p) t op v r τ)
theorem trPart_u {σ : Wd} {w t op v r r' : Int32} {τ τ' : Wd} (h8 : dT σ ≤ 8) (h6 : dP σ ≤ 6) (h : trPart σ w t op v r τ) (h' : trPart σ w t op v r' τ') : r = r' ∧ τ = τ' := by
  rcases h with ⟨a, b, c⟩ | ⟨s, a, b, h⟩ <;> rcases h' with ⟨a', b', c'⟩ | ⟨s', a', b', h'⟩
  · exact ⟨b.trans b'.symm, c.trans c'.symm⟩
  · exact absurd (by rw [b']; exact vp_in_nI a' (by omega)) a
  · exact absurd (by rw [b]; exact vp_in_nI a (by omega)) a'
  · have : s = s' := (nI_eq (by omega) (by omega)).mp (b.symm.trans b')
    subst this
    exact trCo_u h8 h h'
def trEff (σ : Wd) (w u t op v r : Int32) (τ : Wd) : Prop := (¬ (vp_in w (dA σ) ∧ vp_in u (dO σ w.toNatClampNeg) ∧ efI (dS σ) (dT σ) t op v) ∧ r = -2 ∧ τ = σ) ∨ (∃ a k c, a < dA σ ∧ k < dO σ a ∧ w = nI a ∧ u = nI k ∧ okEf (dS σ) (dT σ) c ∧ isCe c t op v ∧ (((dE σ a k).length = 4 ∧ r = -3 ∧ τ = σ) ∨ ((dE σ a k).length < 4 ∧ r = nI ((dE σ a k).length + 1) ∧ τ = sEff σ a k c)))
theorem trEff_u {σ : Wd} {w u t op v r r' : Int32} {τ τ' : Wd} (hW : Wok σ) (h : trEff σ w u t op v r τ) (h' : trEff σ w u t op v r' τ') : r = r' ∧ τ = τ' := by
  have h8 := hW.1
  have hz := hW.2.1
  have h12 := hW.2.2.2.2.1
  have h3 := hW.2.2.2.2.2.1
  have inn : ∀ a k c, a < dA σ → k < dO σ a → w = nI a → u = nI k → okEf (dS σ) (dT σ) c → isCe c t op v → vp_in w (dA σ) ∧ vp_in u (dO σ w.toNatClampNeg) ∧ efI (dS σ) (dT σ) t op v := by
    intro a k c h1 h2 e1 e2 e3 e4
    have := h3 a h1
    refine ⟨by rw [e1]; exact vp_in_nI h1 (by omega), by rw [e1, nI_clamp (by omega), e2]; exact vp_in_nI h2 (by omega), (efI_ce h8 hz).mpr ⟨c, e3, e4⟩⟩
  rcases h with ⟨a, b, c⟩ | ⟨a, k, c, x1, x2, x3, x4, x5, x6, h⟩ <;> rcases h' with ⟨a', b', c'⟩ | ⟨a', k', c', x1', x2', x3', x4', x5', x6', h'⟩
  · exact ⟨b.trans b'.symm, c.trans c'.symm⟩
  · exact absurd (inn a' k' c' x1' x2' x3' x4' x5' x6') a
  · exact absurd (inn a k c x1 x2 x3 x4 x5 x6) a'
  · have := h3 a x1
    have := h3 a' x1'
    have i1 : a = a' := (nI_eq (by omega) (by omega)).mp (x3.symm.trans x3')
    have i2 : k = k' := (nI_eq (by omega) (by omega)).mp (x4.symm.trans x4')
    have i3 : c = c' := isCe_u (okEf_b h8 hz x5) (okEf_b h8 hz x5') x6 x6'
    subst i1; subst i2; subst i3
    rcases h with ⟨x, y, z⟩ | ⟨x, y, z⟩ <;> rcases h' with ⟨x', y', z'⟩ | ⟨x', y', z'⟩
    · exact ⟨y.trans y'.symm, z.trans z'.symm⟩
    · omega
    · omega
    · exact ⟨y.trans y'.symm, z.trans z'.symm⟩
def trAimless (σ : Wd) (r : Int32) (τ : Wd) : Prop := r = nI (dC σ 12).length ∧ τ = sCond σ 12 []
def trUnact (σ : Wd) (r : Int32) (τ : Wd) : Prop := (dA σ = 0 ∧ r = -1 ∧ τ = σ) ∨ (0 < dA σ ∧ r = nI (dA σ - 1) ∧ τ = sUnact σ)
theorem trUnact_u {σ : Wd} {r r' : Int32} {τ τ' : Wd} (h : trUnact σ r τ) (h' : trUnact σ r' τ') : r = r' ∧ τ = τ' := by
  rcases h with ⟨a, b, c⟩ | ⟨a, b, c⟩ <;> rcases h' with ⟨a', b', c'⟩ | ⟨a', b', c'⟩
  · exact ⟨b.trans b'.symm, c.trans c'.symm⟩
  · omega
  · omega
  · exact ⟨b.trans b'.symm, c.trans c'.symm⟩
def trCover (σ : Wd) (r : Int32) (τ : Wd) : Prop := (dP σ = 6 ∧ r = -3 ∧ τ = σ) ∨ (dP σ < 6 ∧ r = nI (dP σ) ∧ τ = sCover σ)
theorem trCover_u {σ : Wd} {r r' : Int32} {τ τ' : Wd} (h : trCover σ r τ) (h' : trCover σ r' τ') : r = r' ∧ τ = τ' := by
  rcases h with ⟨a, b, c⟩ | ⟨a, b, c⟩ <;> rcases h' with ⟨a', b', c'⟩ | ⟨a', b', c'⟩
  · exact ⟨b.trans b'.symm, c.trans c'.symm⟩
  · omega
  · omega
  · exact ⟨b.trans b'.symm, c.trans c'.symm⟩
def trBare (σ : Wd) (r : Int32) (τ : Wd) : Prop := r = nI (dP σ) ∧ τ = sBare σ
