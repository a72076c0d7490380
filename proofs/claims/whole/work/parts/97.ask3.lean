/-! leads, plays, needed, fact, values, flaw: what they answer, and the class -/
def anLd (σ : Wd) (v a k r : Int32) : Prop :=
  (¬ (vp_in v (nS σ) ∧ vp_in a (dA σ) ∧ vp_in k (dO σ a.toNatClampNeg)) ∧ r = -2) ∨ (∃ s x y, s < nS σ ∧ x < dA σ ∧ y < dO σ x ∧ v = nI s ∧ a = nI x ∧ k = nI y ∧ r = oI (nxW σ s x y))
theorem anLd_u {σ : Wd} {v a k r r' : Int32} (hW : Wok σ) (h : anLd σ v a k r) (h' : anLd σ v a k r') : r = r' := by
  have h4 := hW.2.2.1
  have h12 := hW.2.2.2.2.1
  have h3 := hW.2.2.2.2.2.1
  have inn : ∀ s x y, s < nS σ → x < dA σ → y < dO σ x → v = nI s → a = nI x → k = nI y → vp_in v (nS σ) ∧ vp_in a (dA σ) ∧ vp_in k (dO σ a.toNatClampNeg) := by
    intro s x y h1 h2 h5 e1 e2 e3
    have := h3 x h2
    rw [e1, e2, e3, nI_clamp (by omega)]
    exact ⟨vp_in_nI h1 (by omega), vp_in_nI h2 (by omega), vp_in_nI h5 (by omega)⟩
  rcases h with ⟨p, q⟩ | ⟨s, x, y, h1, h2, h5, e1, e2, e3, e5⟩
  · rcases h' with ⟨p', q'⟩ | ⟨s, x, y, h1, h2, h5, e1, e2, e3, e5⟩
    · rw [q, q']
    · exact absurd (inn s x y h1 h2 h5 e1 e2 e3) p
  · rcases h' with ⟨p', q'⟩ | ⟨s', x', y', h1', h2', h5', e1', e2', e3', e5'⟩
    · exact absurd (inn s x y h1 h2 h5 e1 e2 e3) p'
    · have := h3 x h2
      have := h3 x' h2'
      have i1 : s = s' := (nI_eq (by omega) (by omega)).mp (e1.symm.trans e1')
      have i2 : x = x' := (nI_eq (by omega) (by omega)).mp (e2.symm.trans e2')
      have i3 : y = y' := (nI_eq (by omega) (by omega)).mp (e3.symm.trans e3')
      subst i1; subst i2; subst i3
      rw [e5, e5']
def anPl (σ : Wd) (r : Int64) : Prop := ∃ v, isPl σ v ∧ r = lN v
theorem anPl_u {σ : Wd} {r r' : Int64} (h : anPl σ r) (h' : anPl σ r') : r = r' := by
  obtain ⟨v, h1, h2⟩ := h
  obtain ⟨v', h1', h2'⟩ := h'
  rw [h2, h2', isPl_uni h1 h1']
def anNd (σ : Wd) (r : Int32) : Prop := ∃ n, isNd σ n ∧ r = nI n
theorem anNd_u {σ : Wd} {r r' : Int32} (h : anNd σ r) (h' : anNd σ r') : r = r' := by
  obtain ⟨v, h1, h2⟩ := h
  obtain ⟨v', h1', h2'⟩ := h'
  rw [h2, h2', isNd_uni h1 h1']
def anFc (σ : Wd) (v w r : Int32) : Prop :=
  (¬ (vp_in v (dT σ) ∧ vp_in w (dS σ v.toNatClampNeg)) ∧ r = -2) ∨ (∃ t x, t < dT σ ∧ x < dS σ t ∧ v = nI t ∧ w = nI x ∧ ((isRW σ none (barF σ (some t) x) ∧ r = 0) ∨ (¬ isRW σ none (barF σ (some t) x) ∧ r = 1)))
theorem anFc_u {σ : Wd} {v w r r' : Int32} (hW : Wok σ) (h : anFc σ v w r) (h' : anFc σ v w r') : r = r' := by
  have h8 := hW.1
  have hz := hW.2.1
  have inn : ∀ t x, t < dT σ → x < dS σ t → v = nI t → w = nI x → vp_in v (dT σ) ∧ vp_in w (dS σ v.toNatClampNeg) := by
    intro t x h1 h2 e1 e2
    have := hz t h1
    rw [e1, e2, nI_clamp (by omega)]
    exact ⟨vp_in_nI h1 (by omega), vp_in_nI h2 (by omega)⟩
  rcases h with ⟨p, q⟩ | ⟨t, x, h1, h2, e1, e2, h3⟩
  · rcases h' with ⟨p', q'⟩ | ⟨t', x', h1', h2', e1', e2', h3'⟩
    · rw [q, q']
    · exact absurd (inn t' x' h1' h2' e1' e2') p
  · rcases h' with ⟨p', q'⟩ | ⟨t', x', h1', h2', e1', e2', h3'⟩
    · exact absurd (inn t x h1 h2 e1 e2) p'
    · have := hz t h1
      have := hz t' h1'
      have i1 : t = t' := (nI_eq (by omega) (by omega)).mp (e1.symm.trans e1')
      have i2 : x = x' := (nI_eq (by omega) (by omega)).mp (e2.symm.trans e2')
      subst i1; subst i2
      rcases h3 with ⟨a, b⟩ | ⟨a, b⟩ <;> rcases h3' with ⟨a', b'⟩ | ⟨a', b'⟩
      · rw [b, b']
      · exact absurd a a'
      · exact absurd a' a
      · rw [b, b']
def anVl (σ : Wd) (v r : Int32) : Prop :=
  (¬ vp_in v (dT σ) ∧ r = -2) ∨ (∃ t n d, t < dT σ ∧ v = nI t ∧ isDist σ d ∧ (∀ x, (n.testBit x = true ↔ ∃ s, s < nS σ ∧ (∃ m, d s = some m) ∧ vl σ s t = x)) ∧ r = nI n)
theorem anVl_u {σ : Wd} {v r r' : Int32} (hW : Wok σ) (h : anVl σ v r) (h' : anVl σ v r') : r = r' := by
  have h8 := hW.1
  rcases h with ⟨p, q⟩ | ⟨t, n, d, h1, e1, h2, h3, h4⟩
  · rcases h' with ⟨p', q'⟩ | ⟨t', n', d', h1', e1', h2', h3', h4'⟩
    · rw [q, q']
    · exact absurd (by rw [e1']; exact vp_in_nI h1' (by omega)) p
  · rcases h' with ⟨p', q'⟩ | ⟨t', n', d', h1', e1', h2', h3', h4'⟩
    · exact absurd (by rw [e1]; exact vp_in_nI h1 (by omega)) p'
    · have i1 : t = t' := (nI_eq (by omega) (by omega)).mp (e1.symm.trans e1')
      subst i1
      have en : n = n' := by
        apply Nat.eq_of_testBit_eq
        intro x
        rw [Bool.eq_iff_iff, h3 x, h3' x]
        constructor
        · rintro ⟨s, a, b, c⟩; exact ⟨s, a, by rw [← dist_u h2 h2' a]; exact b, c⟩
        · rintro ⟨s, a, b, c⟩; exact ⟨s, a, by rw [dist_u h2 h2' a]; exact b, c⟩
      rw [h4, h4', en]
def anFl (σ : Wd) (w r : Int32) : Prop :=
  (¬ vp_in w 4 ∧ r = -2) ∨ (∃ n fs fa fk, isFl σ n fs fa fk ∧ ((w = 0 ∧ r = nI n) ∨ (w = 1 ∧ r = oI fs) ∨ (w = 2 ∧ r = oI fa) ∨ (w = 3 ∧ r = oI fk)))
theorem anFl_u {σ : Wd} {w r r' : Int32} (h : anFl σ w r) (h' : anFl σ w r') : r = r' := by
  have inn : (w = 0 ∨ w = 1 ∨ w = 2 ∨ w = 3) → vp_in w 4 := by
    rintro (e | e | e | e) <;> rw [e]
    · exact vp_in_nI (n := 0) (by omega) (by omega)
    · exact vp_in_nI (n := 1) (by omega) (by omega)
    · exact vp_in_nI (n := 2) (by omega) (by omega)
    · exact vp_in_nI (n := 3) (by omega) (by omega)
  rcases h with ⟨p, q⟩ | ⟨n, fs, fa, fk, h1, h2⟩
  · rcases h' with ⟨p', q'⟩ | ⟨n', fs', fa', fk', h1', h2'⟩
    · rw [q, q']
    · refine absurd (inn ?_) p
      rcases h2' with ⟨e, -⟩ | ⟨e, -⟩ | ⟨e, -⟩ | ⟨e, -⟩
      · exact Or.inl e
      · exact Or.inr (Or.inl e)
      · exact Or.inr (Or.inr (Or.inl e))
      · exact Or.inr (Or.inr (Or.inr e))
  · rcases h' with ⟨p', q'⟩ | ⟨n', fs', fa', fk', h1', h2'⟩
    · refine absurd (inn ?_) p'
      rcases h2 with ⟨e, -⟩ | ⟨e, -⟩ | ⟨e, -⟩ | ⟨e, -⟩
      · exact Or.inl e
      · exact Or.inr (Or.inl e)
      · exact Or.inr (Or.inr (Or.inl e))
      · exact Or.inr (Or.inr (Or.inr e))
    · obtain ⟨u1, u2, u3, u4⟩ := isFl_uni h1 h1'
      subst u1; subst u2; subst u3; subst u4
      rcases h2 with ⟨e, g⟩ | ⟨e, g⟩ | ⟨e, g⟩ | ⟨e, g⟩ <;> rcases h2' with ⟨e', g'⟩ | ⟨e', g'⟩ | ⟨e', g'⟩ | ⟨e', g'⟩ <;> first | (exact absurd (e.symm.trans e') (by decide)) | (rw [g, g'])
section B40
variable {G : Gc} {ρ : Rs} {K : (Ro → Nat) → Option Value → Rs → Prop}
theorem c_leads (hG : gok G) {σ : Wd} {B : Nat} {v a kk : Int32} (h : RC ρ σ B) (k : ∀ ad r, anLd σ v a kk r → K ad (some (.int r)) ρ) : semV G r_WP_leads [] (fun ad => [.ref (ad (0, 0, 0)), .int v, .int a, .int kk]) ρ K := by
  have hW := h.2.1
  have hT := hW.1
  have h4 := hT.2.2.2.1
  have h12 := hW.2.1
  have hA := hW.2.2.2.1
  refine semV_intro yk_WP_leads.2.2.2.2 (fun _ => Nat.le_of_ble_eq_true rfl) (fun M Q ad0 hM => ?_)
  refine T_WP_leads_0 hG hM _ _ _ ρ ?_
  refine c_isState hG hT.2.1 (by omega) (fun hv ad => ⟨_, rfl, fun z => absurd z (by decide), fun _ => ?_⟩) (fun hv ad => ⟨_, rfl, fun _ ad => k ad _ (Or.inl ⟨fun z => hv z.1, rfl⟩), fun z => absurd rfl z⟩)
  refine c_isOutcome hG (dO σ) hW.2.2.1 h12 (fun x hx => ⟨(hA x hx).1, (hA x hx).2.2.1⟩) (fun ha hk ad => ⟨_, rfl, fun z => absurd z (by decide), fun _ => ?_⟩) (fun hno ad => ⟨_, rfl, fun _ ad => k ad _ (Or.inl ⟨fun z => hno ⟨z.2.1, z.2.2⟩, rfl⟩), fun z => absurd rfl z⟩)
  obtain ⟨s, hs, ev⟩ := vp_in_of hv (by omega)
  obtain ⟨x, hx, ea⟩ := vp_in_of ha (by omega)
  have hO := hA x hx
  have hOx := hO.2.1
  have hOy := hO.2.2.1
  rw [ea, nI_clamp (by omega)] at hk
  obtain ⟨y, hy, ek⟩ := vp_in_of hk (by omega)
  subst ev; subst ea; subst ek
  rw [nI_clamp (n := x) (by omega), nI_clamp (n := y) (by omega)]
  refine ⟨vp_in_nI (by omega) (by omega), ?_⟩
  refine c_pack (sz := dS σ) hG hT.1 hT.2.2.1 (fun t ht => (hT.2.2.2.2.2 t ht).1) hT.2.2.2.2.1 (by omega) (fun ad => ⟨_, rfl, ?_⟩)
  refine c_Cl_hold (p := pkW σ s) hG (okC_ac (by omega)) (pkW_lt hT) hO.2.2.2.1 (fun ad => ⟨_, rfl, ?_⟩)
  rw [hold_pk hT hO.2.2.2.2.1]
  cases hh : holdW σ (dC σ x) s with
  | false =>
    refine ⟨fun _ ad => k ad _ (Or.inr ⟨s, x, y, hs, hx, hy, rfl, rfl, rfl, ?_⟩), fun z => absurd rfl z⟩
    unfold nxW
    rw [if_neg (by rw [hh]; simp)]; rfl
  | true =>
    refine ⟨fun z => absurd z (by decide), fun _ => ⟨vp_in_nI (by omega) (by omega), ?_⟩⟩
    refine c_after hG hT (okC_ou (by omega) (by omega)) (hO.2.2.2.2.2 y hy).1 (hO.2.2.2.2.2 y hy).2 hs (fun ad => ⟨_, rfl, fun ad => ?_⟩)
    refine k ad _ (Or.inr ⟨s, x, y, hs, hx, hy, rfl, rfl, rfl, ?_⟩)
    unfold nxW
    rw [if_pos hh]; rfl
theorem c_plays (hG : gok G) {σ : Wd} {B : Nat} (hB : B < 2 ^ 30) (h : RC ρ σ B) (k : ∀ ad ρ' r, RC ρ' σ B → anPl σ r → Ag PCl ρ ρ' → K ad (some (.long r)) ρ') : semV G r_WP_plays [23, 24, 30, 32, 33] (fun ad => [.ref (ad (0, 0, 0))]) ρ K := by
  refine semV_intro yk_WP_plays.2.2.2.2 (fun _ => Nat.le_of_ble_eq_true rfl) (fun M Q ad0 hM => ?_)
  refine T_WP_plays_0 hG hM ρ ?_
  refine c_prepW hG h (fun ad ρ1 h1 d1 a1 => ⟨rfl, ?_⟩)
  refine c_fReached hG hB h1 d1 (fun ad ρ2 h2 d2 r2 a2 => ⟨rfl, ?_⟩)
  refine c_fAim hG hB h2 d2 (fun ad ρ3 h3 d3 m3 a3 => ⟨rfl, ?_⟩)
  have r3 : RSt ρ3 σ := RSt_of r2 (a3 (32, 0, 0) (by simp [PWi])).1 (a3 (32, 0, 0) (by simp [PWi])).2.1 (a3 (32, 1, 0) (by simp [PWi])).1 (a3 (32, 1, 0) (by simp [PWi])).2.2 (by rw [(a3 (5, 0, 0) (by simp [PWi])).2.1])
  obtain ⟨d, x1, x2, x3, x4, x5, x6, x7⟩ := r3
  have hW := h3.1
  have hWo := h3.2.1
  have hT := hWo.1
  have h4 := hT.2.2.2.1
  have hB2 := hW.2.2.2.1
  have hnx := RWr_stp (RWr_of hWo d3)
  have ag : Ag PCl ρ ρ3 := Ag_tr (Ag_mono a1 (fun _ => PW_Cl)) (Ag_tr (Ag_mono a2 (fun _ => PR_Cl)) (Ag_mono a3 (fun _ => PWi_Cl)))
  obtain ⟨w, ew⟩ : ∃ w : Nat → Nat, w = fun s => match d s with | some n => wkF σ n s | none => 0 := ⟨_, rfl⟩
  have hw : ∀ n t, t < nS σ → d t = some n → w t = wkF σ n t := fun n t _ hd => by rw [ew]; show (match d t with | some n => wkF σ n t | none => 0) = _; rw [hd]
  have key : ∀ dd s f m, s + dd = nS σ → ((f = 4096 ∧ m = 0 ∧ ∀ u, u < s → aimW σ u = true → d u = none) ∨ (f < 4096 ∧ (∃ u, u < s ∧ aimW σ u = true ∧ d u = some f) ∧ (∀ u n, u < s → aimW σ u = true → d u = some n → f ≤ n) ∧ m = sm (fun u => if aimW σ u = true ∧ d u = some f then w u else 0) s)) → Y G [23, 24, 30, 32, 33] ad0 M Q 24 (fun ad => [(0, .ref (ad (0, 0, 0))), (1, .int (nI f)), (2, .long (lN m)), (4, .int (nI s))]) (fun ad => []) ρ3 := by
    intro dd
    induction dd with
    | zero =>
      intro s f m hdd hI
      have es : s = nS σ := by omega
      subst es
      refine T_WP_plays_24 hG hM _ _ _ ρ3 ⟨fun _ ad => k ad ρ3 _ h3 ?_ ag, fun z => absurd (by rw [hT.2.1]; exact (nI_leI (by omega) (by omega)).mpr (Nat.le_refl _)) z⟩
      rcases hI with ⟨i1, i2, i3⟩ | ⟨i1, i2, i3, i4⟩
      · exact ⟨0, isPl_none hB2 hnx x1 i3, by rw [i2]⟩
      · exact ⟨m, by rw [i4]; exact isPl_sum hB2 hnx x1 hw i2 (fun s n hs ha hd => i3 s n hs ha hd), rfl⟩
    | succ dd ih =>
      intro s f m hdd hI
      have hs : s < nS σ := by omega
      refine T_WP_plays_24 hG hM _ _ _ ρ3 ⟨fun z => absurd (by rw [hT.2.1] at z; exact (nI_leI (by omega) (by omega)).mp z) (by omega), fun _ => ⟨in_nI (by omega) (by omega), in_nI (by have := m3.1; omega) (by omega), fun _ _ _ => ⟨fun _ => in_nI (by omega) (by omega), fun _ => in_nI (by omega) (by omega)⟩, ?_⟩⟩
      rw [nI_clamp (by omega), m3.2.1 s hs, x5 s hs, nI_1]
      intro z7 e7 z8 e8
      -- nothing counts here
      have keep : ¬ (aimW σ s = true ∧ ∃ n, d s = some n ∧ n ≤ f) → z7 = nI f → z8 = lN m → Y G [23, 24, 30, 32, 33] ad0 M Q 24 (fun ad => [(0, .ref (ad (0, 0, 0))), (1, .int z7), (2, .long z8), (4, .int (nI (s + 1)))]) (fun ad => []) ρ3 := by
        intro hno q7 q8
        rw [q7, q8]
        refine ih (s + 1) f m (by omega) ?_
        rcases hI with ⟨i1, i2, i3⟩ | ⟨i1, ⟨u, i21, i22, i23⟩, i3, i4⟩
        · left
          refine ⟨i1, i2, fun u hu ha => ?_⟩
          by_cases e : u = s
          · rw [e] at ha ⊢
            cases hd : d s with
            | none => rfl
            | some n => exact absurd ⟨ha, n, hd, by have := x2 s n hs hd; omega⟩ hno
          · exact i3 u (by omega) ha
        · right
          refine ⟨i1, ⟨u, by omega, i22, i23⟩, fun u n hu ha hd => ?_, ?_⟩
          · by_cases e : u = s
            · rw [e] at ha hd
              rcases Nat.lt_or_ge n f with q | q
              · exact absurd ⟨ha, n, hd, by omega⟩ hno
              · exact q
            · exact i3 u n (by omega) ha hd
          · show m = sm _ s + (if aimW σ s = true ∧ d s = some f then w s else 0)
            rw [if_neg (fun q => hno ⟨q.1, f, q.2, Nat.le_refl _⟩), ← i4]; rfl
      cases ha : aimW σ s with
      | false =>
        rw [ha, if_pos (show bI false = 0 from rfl)] at e7 e8
        exact keep (fun q => by rw [ha] at q; exact absurd q.1 (by simp)) e7 e8
      | true =>
        rw [ha, if_neg (by decide)] at e7 e8
        have hm1 := oI_m1 (o := d s) (fun n hn => by have := x2 s n hs hn; omega)
        cases hd : d s with
        | none =>
          rw [hd, if_pos (show oI none = -1 from rfl)] at e7 e8
          exact keep (fun q => by obtain ⟨-, n, q2, -⟩ := q; rw [hd] at q2; cases q2) e7 e8
        | some n =>
          have hnN := x2 s n hs hd
          have hf : f ≤ 4096 := by rcases hI with ⟨i1, -⟩ | ⟨i1, -⟩ <;> omega
          rw [hd] at hm1
          rw [hd, if_neg (fun y => by have := hm1.mp y; cases this)] at e7 e8
          have el : (oI (some n) ≤ nI f) ↔ n ≤ f := nI_leI (by omega) (by omega)
          have el2 : (nI f ≤ oI (some n)) ↔ f ≤ n := nI_leI (by omega) (by omega)
          by_cases hnf : n ≤ f
          · rw [if_pos (el.mpr hnf)] at e7 e8
            have e7 : z7 = nI n := e7
            have hlw : lR ρ3 (32, 1, 0) s = lN (w s) := by rw [x7 s n hs hd, hw n s hs hd]; rfl
            rw [hlw] at e8
            by_cases hfn : f ≤ n
            · have en : n = f := by omega
              rw [if_pos (el2.mpr hfn), lN_add] at e8
              rw [e7, e8, en]
              refine ih (s + 1) f (m + w s) (by omega) ?_
              rcases hI with ⟨i1, -⟩ | ⟨i1, ⟨u, i21, i22, i23⟩, i3, i4⟩
              · omega
              · right
                refine ⟨i1, ⟨u, by omega, i22, i23⟩, fun u n' hu ha' hd' => ?_, ?_⟩
                · by_cases e : u = s
                  · rw [e, hd] at hd'; cases hd'; omega
                  · exact i3 u n' (by omega) ha' hd'
                · show m + w s = sm _ s + (if aimW σ s = true ∧ d s = some f then w s else 0)
                  rw [if_pos ⟨ha, by rw [hd, en]⟩, ← i4]
            · rw [if_neg (fun y => hfn (el2.mp y))] at e8
              rw [e7, e8]
              refine ih (s + 1) n (w s) (by omega) ?_
              right
              refine ⟨by omega, ⟨s, by omega, ha, hd⟩, fun u n' hu ha' hd' => ?_, ?_⟩
              · by_cases e : u = s
                · rw [e, hd] at hd'; cases hd'; omega
                · rcases hI with ⟨i1, i2, i3⟩ | ⟨i1, -, i3, -⟩
                  · rw [i3 u (by omega) ha'] at hd'; cases hd'
                  · have := i3 u n' (by omega) ha' hd'; omega
              · show w s = sm _ s + (if aimW σ s = true ∧ d s = some n then w s else 0)
                rw [if_pos ⟨ha, hd⟩, sm_zero]
                · omega
                · intro u hu
                  refine if_neg (fun q => ?_)
                  rcases hI with ⟨i1, i2, i3⟩ | ⟨i1, -, i3, -⟩
                  · rw [i3 u (by omega) q.1] at q; cases q.2
                  · have := i3 u n (by omega) q.1 q.2; omega
          · rw [if_neg (fun y => hnf (el.mp y))] at e7 e8
            exact keep (fun q => by obtain ⟨-, n', q2, q3⟩ := q; rw [hd] at q2; cases q2; exact hnf q3) e7 e8
  exact key (nS σ) 0 4096 0 (by omega) (Or.inl ⟨rfl, rfl, fun u hu => absurd hu (by omega)⟩)
end B40
