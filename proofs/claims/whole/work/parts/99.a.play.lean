/-! PLAY: the first step that comes nearer, again and again -/
def fstX (σ : Wd) (d : Nat → Option Nat) (s x t : Nat) : Prop := ∃ n, d s = some (n + 1) ∧ x < 3 * dA σ ∧ nxX σ s x = some t ∧ d t = some n ∧ ∀ y u, y < x → nxX σ s y = some u → d u ≠ some n
theorem fstX_u {σ : Wd} {d : Nat → Option Nat} {s x t x' t' : Nat} (h : fstX σ d s x t) (h' : fstX σ d s x' t') : x = x' ∧ t = t' := by
  obtain ⟨n, h1, h2, h3, h4, h5⟩ := h
  obtain ⟨n', h1', h2', h3', h4', h5'⟩ := h'
  rw [h1] at h1'
  cases h1'
  have ex : x = x' := by
    rcases Nat.lt_trichotomy x x' with q | q | q
    · exact absurd h4 (h5' x t q h3)
    · exact q
    · exact absurd h4' (h5 x' t' q h3')
  subst ex
  rw [h3] at h3'
  cases h3'
  exact ⟨rfl, rfl⟩
def pthX (σ : Wd) (d : Nat → Option Nat) : Nat → Nat → Nat → Prop
  | 0, x, t => fstX σ d (dB σ) x t
  | i + 1, x, t => ∃ y u, pthX σ d i y u ∧ fstX σ d u x t
theorem pthX_u {σ : Wd} {d : Nat → Option Nat} : ∀ {i x t x' t' : Nat}, pthX σ d i x t → pthX σ d i x' t' → x = x' ∧ t = t'
  | 0, _, _, _, _, h, h' => fstX_u h h'
  | i + 1, _, _, _, _, ⟨y, u, h1, h2⟩, ⟨y', u', h1', h2'⟩ => by
    obtain ⟨e1, e2⟩ := pthX_u (i := i) h1 h1'
    subst e2
    exact fstX_u h2 h2'
def anPy (σ : Wd) (v w r : Int32) : Prop :=
  (¬ vp_in w 3 ∧ r = -2) ∨ (vp_in w 3 ∧ ∃ d, isNo σ 1 d ∧ ((¬ (∃ i m, v = nI i ∧ d (dB σ) = some m ∧ i < m) ∧ r = -1) ∨ (∃ i m x t, v = nI i ∧ d (dB σ) = some m ∧ i < m ∧ m < 4096 ∧ pthX σ d i x t ∧ ((w = 0 ∧ r = nI (x / 3)) ∨ (w = 1 ∧ r = nI (x % 3)) ∨ (w = 2 ∧ r = nI t)))))
theorem anPy_u {σ : Wd} {v w r r' : Int32} (h : anPy σ v w r) (h' : anPy σ v w r') : r = r' := by
  rcases h with ⟨p, q⟩ | ⟨hw, d, hd, h⟩
  · rcases h' with ⟨p', q'⟩ | ⟨hw', -⟩
    · rw [q, q']
    · exact absurd hw' p
  · rcases h' with ⟨p', q'⟩ | ⟨hw', d', hd', h'⟩
    · exact absurd hw p'
    · have ed := isNo_uni hd hd'
      subst ed
      rcases h with ⟨a, b⟩ | ⟨i, m, x, t, h1, h2, h3, h4, h5, h6⟩
      · rcases h' with ⟨a', b'⟩ | ⟨i', m', x', t', h1', h2', h3', h4', h5', h6'⟩
        · rw [b, b']
        · exact absurd ⟨i', m', h1', h2', h3'⟩ a
      · rcases h' with ⟨a', b'⟩ | ⟨i', m', x', t', h1', h2', h3', h4', h5', h6'⟩
        · exact absurd ⟨i, m, h1, h2, h3⟩ a'
        · have ei : i = i' := (nI_eq (by omega) (by omega)).mp (h1.symm.trans h1')
          subst ei
          obtain ⟨e1, e2⟩ := pthX_u h5 h5'
          subst e1; subst e2
          rcases h6 with ⟨e, g⟩ | ⟨e, g⟩ | ⟨e, g⟩ <;> rcases h6' with ⟨e', g'⟩ | ⟨e', g'⟩ | ⟨e', g'⟩ <;> first | (exact absurd (e.symm.trans e') (by decide)) | (rw [g, g'])
/-- MAY: every step lowers it by one at most, one step does -/
theorem may_step {σ : Wd} {d : Nat → Option Nat} (hd : ∀ s n, d s = some n ↔ isL (CZ σ ZMay) (aimP σ) s n) {s n : Nat} (hs : s < nS σ) (hn : d s = some (n + 1)) : (∀ t m, stp σ s t → d t = some m → n ≤ m) ∧ ∃ t, stp σ s t ∧ d t = some n := by
  have eC : CZ σ ZMay = CMay σ := by funext P s; exact propext CZ_may
  rw [eC] at hd
  have hw := isW_isL.mp ((hd s (n + 1)).mp hn)
  refine ⟨fun t m hst hm => ?_, ?_⟩
  · have hwt := isW_isL.mp ((hd t m).mp hm)
    rcases Nat.lt_or_ge m n with q | q
    · exact absurd ⟨hs, t, hst, hwt.1⟩ (hw.2 (m + 1) (by omega))
    · exact q
  · obtain ⟨-, t, hst, hwt⟩ := hw.1
    refine ⟨t, hst, (hd t n).mpr (isW_isL.mpr ⟨hwt, fun m hm h => ?_⟩)⟩
    exact hw.2 (m + 1) (by omega) ⟨hs, t, hst, h⟩
section B42
variable {G : Gc} {ρ : Rs} {K : (Ro → Nat) → Option Value → Rs → Prop}
theorem c_behind (hG : gok G) {σ : Wd} {a kk s t : Nat} (hR : RWr ρ σ) (ha : a < dA σ) (hk : kk < dO σ a) (hs : s < nS σ) (ht : nxW σ s a kk = some t) (k : ∀ ad, K ad (some (.int (nI t))) ρ) : semV G r_Wo_behind [] (fun ad => [.ref (ad (1, 0, 0)), .int (nI (a * 16384 + kk * 4096 + s))]) ρ K := by
  have h12 := hR.2.1
  have h4 := hR.1.2.2.2.1
  have hO := (hR.2.2.2.1 a ha).2.2.1
  have q1 := ed_a (a := a) (k := kk) (s := s) (by omega) (by omega)
  have q2 := ed_k (a := a) (k := kk) (s := s) (by omega) (by omega)
  have q3 := ed_s (a := a) (k := kk) (s := s) (by omega) (by omega)
  obtain ⟨rn, rv⟩ := RWr_to hR ha hk hs
  rw [ht] at rv
  refine semV_intro yk_Wo_behind.2.2.2.2 (fun _ => Nat.le_of_ble_eq_true rfl) (fun M Q ad0 hM => ?_)
  refine T_Wo_behind_0 hG hM _ ρ ?_
  refine c_actOf hG (by omega) (fun ad => ⟨_, rfl, by rw [q1]; exact vp_in_nI (by omega) (by omega), ?_⟩)
  refine c_outcomeOf hG (by omega) (fun ad => ⟨_, rfl, by rw [q2]; exact vp_in_nI (by omega) (by omega), ?_⟩)
  refine c_stateOf hG (by omega) (fun ad => ⟨_, rfl, ?_⟩)
  rw [q1, q2, q3, nI_clamp (n := a) (by omega), nI_clamp (n := kk) (by omega), nI_clamp (n := s) (by omega), rv]
  exact ⟨in_nI (by omega) (by omega), k⟩
theorem c_play (hG : gok G) {σ : Wd} {B : Nat} {v w : Int32} (hB : B < 2 ^ 30) (h : RC ρ σ B) (k : ∀ ad ρ' r, RC ρ' σ B → anPy σ v w r → Ag PCl ρ ρ' → K ad (some (.int r)) ρ') : semV G r_WP_play [23, 24, 30, 33] (fun ad => [.ref (ad (0, 0, 0)), .int v, .int w]) ρ K := by
  have in2 : (¬ w < 0 ∧ w ≤ 2) ↔ vp_in w 3 := by
    rw [vp_in_iff, Int32.lt_iff_toInt_lt, Int32.le_iff_toInt_le]
    have e1 : (0 : Int32).toInt = 0 := rfl
    have e2 : (2 : Int32).toInt = 2 := rfl
    rw [e1, e2]; omega
  refine semV_intro yk_WP_play.2.2.2.2 (fun _ => Nat.le_of_ble_eq_true rfl) (fun M Q ad0 hM => ?_)
  refine T_WP_play_0 hG hM _ _ ρ ⟨fun z ad => k ad ρ _ h (Or.inl ⟨fun y => (in2.mpr y).1 z, rfl⟩) Ag_rf, fun z => ⟨fun y => ?_, fun y ad => k ad ρ _ h (Or.inl ⟨fun x => y (in2.mpr x).2, rfl⟩) Ag_rf⟩⟩
  have hw := in2.mp ⟨z, y⟩
  refine c_prepW hG h (fun ad ρ1 h1 d1 a1 => ⟨rfl, ?_⟩)
  refine c_fNum (w := 1) hG (by omega) hB h1 d1 (fun ad ρ5 h5 d5 m5 n5 a5 => ⟨gNo 1, rfl, rfl, rfl, ?_⟩)
  have ag : Ag PCl ρ ρ5 := Ag_tr (Ag_mono a1 (fun _ => PW_Cl)) (Ag_mono a5 (fun _ => PWn_Cl))
  obtain ⟨d, y1, y2, y3, y4⟩ := n5
  have y1' : ∀ s n, d s = some n ↔ isL (CZ σ ZMay) (aimP σ) s n := y1
  have hB2 := h5.1.2.2.2.1
  have hR := RWr_of h5.2.1 d5
  have h4 := hR.1.2.2.2.1
  have h12 := hR.2.1
  rw [h5.2.2.2.2.1, nI_clamp (by omega), y4 _ hB2]
  refine ⟨fun z ad => k ad ρ5 _ h5 (Or.inr ⟨hw, d, y1, Or.inl ⟨fun ⟨i, m, e1, e2, e3⟩ => ?_, rfl⟩⟩) ag, fun z => ⟨in_nI (by omega) (by omega), fun q => ?_, fun q ad => k ad ρ5 _ h5 (Or.inr ⟨hw, d, y1, Or.inl ⟨fun ⟨i, m, e1, e2, e3⟩ => ?_, rfl⟩⟩) ag⟩⟩
  · have := (y2 _ m e2).2
    rw [e1] at z
    exact nI_pos (by omega) z
  · -- the walk
    have hv : ∃ i m, v = nI i ∧ d (dB σ) = some m ∧ i < m ∧ m < 4096 := by
      cases hd0 : d (dB σ) with
      | none =>
        exfalso
        rw [hd0] at q
        have q : v < -1 := q
        rw [Int32.lt_iff_toInt_lt] at z q
        have e1 : (0 : Int32).toInt = 0 := rfl
        have e2 : (-1 : Int32).toInt = -1 := by decide
        omega
      | some m =>
        have := (y2 _ m hd0).2
        rw [hd0] at q
        have q : v < nI m := q
        rw [Int32.lt_iff_toInt_lt, nI_toInt (by omega)] at q
        rw [Int32.lt_iff_toInt_lt] at z
        have e1 : (0 : Int32).toInt = 0 := rfl
        obtain ⟨j, hj, e⟩ := vp_in_of (vp_in_iff.mpr ⟨by omega, q⟩) (by omega)
        exact ⟨j, m, e, rfl, hj, by omega⟩
    obtain ⟨i, m, ev, hm, him, hm4⟩ := hv
    subst ev
    have key : ∀ dj j s (v5 : Int32), j + dj = i + 1 → s < nS σ → d s = some (m - j) → ((j = 0 ∧ s = dB σ) ∨ (∃ a kk s0, 1 ≤ j ∧ a < 12 ∧ kk < 3 ∧ s0 < 4096 ∧ v5 = nI (a * 16384 + kk * 4096 + s0) ∧ pthX σ d (j - 1) (3 * a + kk) s)) → Y G [23, 24, 30, 33] ad0 M Q 53 (fun ad => [(0, .ref (ad (0, 0, 0))), (1, .int (nI i)), (2, .int w), (4, .int (nI s)), (5, .int v5), (6, .int (nI j))]) (fun ad => []) ρ5 := by
      intro dj
      induction dj with
      | zero =>
        intro j s v5 hdj hs hds hor
        rcases hor with ⟨e, -⟩ | ⟨a, kk, s0, b1, b2, b3, b4, b5, b6⟩
        · omega
        · have q1 := ed_a (a := a) (k := kk) (s := s0) (by omega) (by omega)
          have q2 := ed_k (a := a) (k := kk) (s := s0) (by omega) (by omega)
          rw [show j - 1 = i by omega] at b6
          subst b5
          refine T_WP_play_53 hG hM _ _ _ _ _ ρ5 ⟨fun _ => ⟨fun e0 => ?_, fun e0 => ⟨fun e1 => ?_, fun e1 ad => ?_⟩⟩, fun z => absurd ((nI_ltI (by omega) (by omega)).mpr (by omega)) z⟩
          · refine c_actOf hG (by omega) (fun ad => ⟨_, rfl, fun ad => ?_⟩)
            rw [q1]
            exact k ad ρ5 _ h5 (Or.inr ⟨hw, d, y1, Or.inr ⟨i, m, _, _, rfl, hm, him, hm4, b6, Or.inl ⟨e0, by rw [show (3 * a + kk) / 3 = a by omega]⟩⟩⟩) ag
          · refine c_outcomeOf hG (by omega) (fun ad => ⟨_, rfl, fun ad => ?_⟩)
            rw [q2]
            exact k ad ρ5 _ h5 (Or.inr ⟨hw, d, y1, Or.inr ⟨i, m, _, _, rfl, hm, him, hm4, b6, Or.inr (Or.inl ⟨e1, by rw [show (3 * a + kk) % 3 = kk by omega]⟩)⟩⟩) ag
          · obtain ⟨x, hx, e⟩ := vp_in_of hw (by omega)
            have e2 : w = 2 := by
              have x0 : x ≠ 0 := fun q => e0 (by rw [e, q]; rfl)
              have x1 : x ≠ 1 := fun q => e1 (by rw [e, q]; rfl)
              rw [e, show x = 2 by omega]; rfl
            exact k ad ρ5 _ h5 (Or.inr ⟨hw, d, y1, Or.inr ⟨i, m, _, _, rfl, hm, him, hm4, b6, Or.inr (Or.inr ⟨e2, rfl⟩)⟩⟩) ag
      | succ dj ih =>
        intro j s v5 hdj hs hds hor
        have hds' : d s = some ((m - j - 1) + 1) := by rw [hds, show m - j - 1 + 1 = m - j by omega]
        obtain ⟨ms1, ms2⟩ := may_step y1' hs hds'
        refine T_WP_play_53 hG hM _ _ _ _ _ ρ5 ⟨fun z => absurd ((nI_ltI (by omega) (by omega)).mp z) (by omega), fun _ => ?_⟩
        refine c_firstStep hG hR hs y3 y4 (fun u n hn => (y2 u n hn).2) hds' ms1 ms2 (fun ad a kk t f1 f2 f3 f4 f5 => ⟨_, rfl, fun z => ?_, fun _ => ?_⟩)
        · exfalso
          have hO := (hR.2.2.2.1 a f1).2.2.1
          have := (oI_m1 (o := some (a * 16384 + kk * 4096 + s)) (fun n hn => by cases hn; omega)).mp z
          cases this
        · have hO := (hR.2.2.2.1 a f1).2.2.1
          refine c_behind hG hR f1 f2 hs f3 (fun ad => ⟨_, rfl, ?_⟩)
          rw [nI_1]
          have htN := nx_lt (RWr_Es hR) f1 f2 f3
          have hfst : fstX σ d s (3 * a + kk) t := by
            refine ⟨m - j - 1, hds', by omega, ?_, f4, fun y u hy hu => ?_⟩
            · unfold nxX
              rw [show (3 * a + kk) / 3 = a by omega, show (3 * a + kk) % 3 = kk by omega, if_pos f2]; exact f3
            · unfold nxX at hu
              by_cases hk : y % 3 < dO σ (y / 3)
              · rw [if_pos hk] at hu
                exact f5 (y / 3) (y % 3) u (by omega) hk (by omega) hu
              · rw [if_neg hk] at hu; cases hu
          refine ih (j + 1) t _ (by omega) htN (by rw [f4, show m - j - 1 = m - (j + 1) by omega]) (Or.inr ⟨a, kk, s, by omega, by omega, by omega, by omega, rfl, ?_⟩)
          rcases hor with ⟨e1, e2⟩ | ⟨a', kk', s0, b1, b2, b3, b4, b5, b6⟩
          · subst e1; subst e2
            exact hfst
          · rw [show j + 1 - 1 = (j - 1) + 1 by omega]
            exact ⟨_, _, b6, hfst⟩
    exact key (i + 1) 0 (dB σ) (-1) (by omega) hB2 (by rw [hm, Nat.sub_zero]) (Or.inl ⟨rfl, rfl⟩)
  · have := (y2 _ m e2).2
    rw [e2, e1] at q
    exact q ((nI_ltI (by omega) (by omega)).mpr e3)
end B42
