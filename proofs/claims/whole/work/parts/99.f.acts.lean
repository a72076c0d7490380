/-! THE CLASS BUILDS: thing, act, unact, outcome, when, effect -/
theorem wtf_up {sz : Nat → Nat} {n z : Nat} : ∀ {t : Nat}, t ≤ n → wtf (va_up sz n z) t = wtf sz t
  | 0, _ => rfl
  | t + 1, h => by
    show wtf (va_up sz n z) t * va_up sz n z t = wtf sz t * sz t
    rw [wtf_up (by omega), upn (by omega)]
def PAc (a : Nat) (q : Ro) : Prop := ((q.1 = 10 ∨ q.1 = 11 ∨ q.1 = 12 ∨ q.1 = 13) ∧ q.2.1 = a + 2) ∨ q = (20, a, 0) ∨ q = (1, 0, 0)
theorem PAc_Cl {a : Nat} {q : Ro} (h : PAc a q) : PCl q := by
  unfold PCl
  rcases h with ⟨h, -⟩ | h | h
  · rcases h with z | z | z | z <;> rw [z] <;> omega
  · rw [h]; show 20 < 40; omega
  · rw [h]; decide
theorem nx_same {σ τ : Wd} {s a k : Nat} (h2 : dT τ = dT σ) (h3 : dS τ = dS σ) (h4 : dC τ a = dC σ a) (h5 : dE τ a k = dE σ a k) : nxW τ s a k = nxW σ s a k := by
  have eq : EqC ((dT σ, dS σ, 0, 0, dO σ, dC σ, dE σ, 0) : Wd) ((dT τ, dS τ, 0, 0, dO σ, dC σ, dE σ, 0) : Wd) := ⟨h2, h3, rfl, rfl, rfl, fun _ _ => rfl⟩
  have e1 : holdW τ (dC σ a) s = holdW σ (dC σ a) s := eq_hold eq
  have e2 : goW τ (dE σ a k) s = goW σ (dE σ a k) s := eq_go eq
  unfold nxW
  rw [h4, h5, e1, e2]
/-- one act changed -/
theorem RWo_act {ρ ρ' : Rs} {σ τ : Wd} {a : Nat} (g : RWo ρ σ) (h2 : dT τ = dT σ) (h3 : dS τ = dS σ) (h4 : dA τ = dA σ) (h5 : ∀ b, b < dA σ → b ≠ a → dO τ b = dO σ b ∧ dC τ b = dC σ b ∧ ∀ k, dE τ b k = dE σ b k) (ha : Ag (PAc a) ρ ρ') (i1 : ∀ j, j ≠ 9 → iR ρ' (1, 0, 0) j = iR ρ (1, 0, 0) j) (i9 : iR ρ' (1, 0, 0) 9 = 0) (i3 : iR ρ' (20, a, 0) 3 = 0) (hA : a < dA σ → RA ρ' τ a) : RWo ρ' τ := by
  obtain ⟨gT, g12, gna, gA, g8, g3, g9⟩ := g
  have eN : nS τ = nS σ := by unfold nS; rw [h2, h3]
  have n2 : ∀ f i j, 21 ≤ f → f ≤ 30 → ¬ PAc a (f, i, j) := fun f i j q1 q2 z => by
    rcases z with ⟨z, -⟩ | z | z
    · have z : f = 10 ∨ f = 11 ∨ f = 12 ∨ f = 13 := z
      omega
    · simp at z <;> omega
    · simp at z <;> omega
  have n4 : ∀ f b j, 10 ≤ f → f ≤ 13 → b ≠ a → ¬ PAc a (f, b + 2, j) := fun f b j q1 q2 hne z => by
    rcases z with ⟨-, z⟩ | z | z
    · have z : b + 2 = a + 2 := z
      omega
    · simp at z <;> omega
    · simp at z <;> omega
  have n20 : ∀ b, b ≠ a → ¬ PAc a (20, b, 0) := fun b hne z => by
    rcases z with ⟨z, -⟩ | z | z
    · simp at z
    · simp at z; exact hne z
    · simp at z
  have T' : RT ρ' τ := by
    obtain ⟨b0, b1, b2, b3, b4, b5⟩ := gT
    refine ⟨by rw [i1 0 (by omega), h2]; exact b0, by rw [i1 1 (by omega), eN]; exact b1, by rw [h2]; exact b2, by rw [eN]; exact b3, by rw [h2, h3]; exact b4, ?_⟩
    rw [h2, h3, (ha (30, 3, 0) (n2 _ _ _ (by omega) (by omega))).2.1, (ha (30, 4, 0) (n2 _ _ _ (by omega) (by omega))).2.1]
    unfold wt at *
    rw [h3]; exact b5
  have P' : RP ρ σ → RP ρ' τ := fun hP => by
    have hp : RP ρ' σ := RP_ag hP ha (n2 _ _ _ (by omega) (by omega)) (ha _ (n2 _ _ _ (by omega) (by omega))).1
    unfold RP pkW at *
    rw [eN, h2, h3]; exact hp
  refine ⟨T', by rw [h4]; exact g12, by rw [i1 2 (by omega), h4]; exact gna, fun b hb => ?_, fun z => P' (g8 (by rw [← i1 8 (by omega)]; exact z)), fun b hb z => ?_, fun z => absurd i9 z⟩
  · rw [h4] at hb
    by_cases e : b = a
    · rw [e]; exact hA (by omega)
    · obtain ⟨e1, e2, e3⟩ := h5 b hb e
      obtain ⟨o2, o1, o3, oc, ocok, oe⟩ := gA b hb
      refine ⟨by rw [(ha (20, b, 0) (n20 b e)).2.1, e1]; exact o2, by rw [e1]; exact o1, by rw [e1]; exact o3, by rw [e2]; exact Cls_ag oc ha (n4 _ _ _ (by omega) (by omega) e) (n4 _ _ _ (by omega) (by omega) e) (n4 _ _ _ (by omega) (by omega) e) (n4 _ _ _ (by omega) (by omega) e), by rw [e2, h2]; exact ocok, fun x hx => ?_⟩
      rw [e1] at hx
      rw [e3 x, h2, h3]
      exact ⟨Cls_ag (oe x hx).1 ha (n4 _ _ _ (by omega) (by omega) e) (n4 _ _ _ (by omega) (by omega) e) (n4 _ _ _ (by omega) (by omega) e) (n4 _ _ _ (by omega) (by omega) e), (oe x hx).2⟩
  · rw [h4] at hb
    by_cases e : b = a
    · rw [e] at z; exact absurd i3 z
    · obtain ⟨e1, e2, e3⟩ := h5 b hb e
      rw [(ha (20, b, 0) (n20 b e)).2.1] at z
      have hf := g3 b hb z
      intro k hk
      rw [e1] at hk
      have := hf k hk
      rw [eN, (ha (23, b, k) (n2 _ _ _ (by omega) (by omega))).1, (ha (24, b, k) (n2 _ _ _ (by omega) (by omega))).1, (ha (23, b, k) (n2 _ _ _ (by omega) (by omega))).2.1]
      refine ⟨this.1, this.2.1, fun s hs => ?_⟩
      rw [nx_same h2 h3 e2 (e3 k)]; exact this.2.2 s hs
section B46
variable {G : Gc} {ρ : Rs} {K : (Ro → Nat) → Option Value → Rs → Prop}
theorem c_thing (hG : gok G) {σ : Wd} {B : Nat} {v : Int32} (h : RC ρ σ B) (k : ∀ ad ρ' r τ, RC ρ' τ (B + 1) → trThing σ v r τ → Ag PCl ρ ρ' → K ad (some (.int r)) ρ') : semV G r_WP_thing [] (fun ad => [.ref (ad (0, 0, 0)), .int v]) ρ K := by
  have h0 := h
  obtain ⟨g1, g2, g3, g4, g5, g6, st, s1, s2, s3, hv⟩ := h
  have hT := g2.1
  have h8 := hT.2.2.1
  have h4 := hT.2.2.2.1
  have h12 := g2.2.1
  have hl4 := g3.1.1
  have h6 := g4.2.1
  have in24 : (¬ v < 2 ∧ v ≤ 4) ↔ ∃ z, 2 ≤ z ∧ z ≤ 4 ∧ v = nI z := by
    rw [Int32.lt_iff_toInt_lt, Int32.le_iff_toInt_le]
    have e1 : (2 : Int32).toInt = 2 := rfl
    have e2 : (4 : Int32).toInt = 4 := rfl
    rw [e1, e2]
    constructor
    · rintro ⟨h1, h2⟩
      obtain ⟨j, hj, e⟩ := vp_in_of (x := v) (n := 5) (vp_in_iff.mpr ⟨by omega, by omega⟩) (by omega)
      rw [e, nI_toInt (by omega)] at h1 h2
      exact ⟨j, by omega, by omega, e⟩
    · rintro ⟨x, h1, h2, e⟩
      rw [e, nI_toInt (by omega)]; omega
  refine semV_intro yk_WP_thing.2.2.2.2 (fun _ => Nat.le_of_ble_eq_true rfl) (fun M Q ad0 hM => ?_)
  have bad : (¬ ∃ z, okTh σ v z) → ∀ ad, K ad (some (.int (-2))) ρ := fun hno ad => k ad ρ _ σ (RC_le h0 (by omega)) (Or.inl ⟨hno, rfl, rfl⟩) Ag_rf
  refine T_WP_thing_0 hG hM _ ρ ⟨fun z => bad (fun ⟨x, o1, o2, o3, _⟩ => (in24.mpr ⟨x, o1, o2, o3⟩).1 z), fun z => ⟨fun y => ?_, fun y => bad (fun ⟨x, o1, o2, o3, _⟩ => y (in24.mpr ⟨x, o1, o2, o3⟩).2)⟩⟩
  obtain ⟨x, x1, x2, ev⟩ := in24.mp ⟨z, y⟩
  subst ev
  rw [g2.2.2.1, g3.1.2.1, g4.1]
  refine ⟨fun q => bad (fun ⟨w, o1, o2, o3, o4, _⟩ => ?_), fun q => ⟨fun q2 => bad (fun ⟨w, o1, o2, o3, o4, o5, o6⟩ => ?_), fun q2 => ⟨fun q3 => ?_, fun q3 => bad (fun ⟨w, o1, o2, o3, o4, o5, o6⟩ => ?_)⟩⟩⟩
  · have := (nI_ltI (a := 0) (by decide) (by omega)).mp q; omega
  · have := (nI_ltI (a := 0) (by decide) (by omega)).mp q2
    rw [o6] at this; simp at this
  · have hA0 : dA σ = 0 := by
      rcases Nat.eq_zero_or_pos (dA σ) with p | p
      · exact p
      · exact absurd ((nI_ltI (a := 0) (by decide) (by omega)).mpr p) q
    have hC0 : dC σ 12 = [] := by
      rcases Nat.eq_zero_or_pos (dC σ 12).length with p | p
      · exact List.eq_nil_of_length_eq_zero p
      · exact absurd ((nI_ltI (a := 0) (by decide) (by omega)).mpr p) q2
    have hP0 : dP σ = 0 := by
      have := (nI_leI (b := 0) (by omega) (by decide)).mp q3; omega
    have ok : okTh σ (nI x) x := ⟨x1, x2, rfl, hA0, hP0, hC0⟩
    have full : ¬ (dT σ < 8 ∧ nS σ * x ≤ 4096) → ∀ ad, K ad (some (.int (-3))) ρ := fun hno ad => k ad ρ _ σ (RC_le h0 (by omega)) (Or.inr ⟨x, ok, Or.inl ⟨hno, rfl, rfl⟩⟩) Ag_rf
    have hmul : nS σ * x ≤ 16384 := by
      have := Nat.mul_le_mul h4 x2
      omega
    refine semV_intro yk_Wo_addThing.2.2.2.2 (fun _ => Nat.le_of_ble_eq_true rfl) (fun M2 Q2 ad2 hM2 => ?_)
    refine T_Wo_addThing_0 hG hM2 _ ρ ?_
    have e8 : ((8 : Int32) ≤ nI (dT σ)) ↔ 8 ≤ dT σ := nI_leI (a := 8) (by decide) (by omega)
    have e4 : (nI (nS σ * x) ≤ (4096 : Int32)) ↔ nS σ * x ≤ 4096 := nI_leI (b := 4096) (by omega) (by decide)
    rw [hT.1, hT.2.1, pk_mul, e8, e4, nI_clamp (by omega)]
    refine ⟨fun p ad => ⟨_, rfl, fun _ => full (fun w => by omega), fun w => absurd rfl w⟩, fun p => ⟨fun p2 => ⟨vp_in_nI (by omega) (by omega), fun ρ1 e1 => ?_⟩, fun p2 ad => ⟨_, rfl, fun _ => full (fun w => p2 w.2), fun w => absurd rfl w⟩⟩⟩
    have q1 : ∀ j, iR ρ1 (1, 0, 0) j = iR ρ (1, 0, 0) j := fun j => by rw [e1, iR_pI, if_neg (by simp)]
    rw [q1, q1, hT.1, hT.2.1, nI_clamp (by omega)]
    refine ⟨vp_in_nI (by omega) (by omega), fun ρ2 e2 ρ3 e3 ρ4 e4' ρ5 e5 ρ6 e6 => ?_⟩
    have q2' : iR ρ2 (1, 0, 0) 1 = nI (nS σ) := by rw [e2, iR_pI, if_neg (by simp), q1]; exact hT.2.1
    rw [q2', pk_mul] at e3
    have q3' : iR ρ3 (1, 0, 0) 0 = nI (dT σ) := by rw [e3, iR_pI, if_neg (by simp), e2, iR_pI, if_neg (by simp), q1]; exact hT.1
    rw [q3', nI_1] at e4'
    have i6 : ∀ j, iR ρ6 (1, 0, 0) j = if j = 9 then 0 else if j = 8 then 0 else if j = 0 then nI (dT σ + 1) else if j = 1 then nI (nS σ * x) else iR ρ (1, 0, 0) j := by
      intro j
      rw [e6, iR_pI, e5, iR_pI, e4', iR_pI, e3, iR_pI, e2, iR_pI, e1, iR_pI]
      simp
    have r3 : ∀ t, iR ρ6 (30, 3, 0) t = if t = dT σ then nI x else iR ρ (30, 3, 0) t := by
      intro t
      rw [e6, iR_pI, e5, iR_pI, e4', iR_pI, e3, iR_pI, e2, iR_pI, e1, iR_pI]
      simp
    have r4 : ∀ t, iR ρ6 (30, 4, 0) t = if t = dT σ then nI (nS σ) else iR ρ (30, 4, 0) t := by
      intro t
      rw [e6, iR_pI, e5, iR_pI, e4', iR_pI, e3, iR_pI, e2, iR_pI, e1, iR_pI]
      simp
    have a6 : Ag (fun q => q = (30, 3, 0) ∨ q = (30, 4, 0) ∨ q = (1, 0, 0)) ρ ρ6 := by
      rw [e6, e5, e4', e3, e2, e1]
      exact Ag_tr (Ag_pI (Or.inl rfl)) (Ag_tr (Ag_pI (Or.inr (Or.inl rfl))) (Ag_tr (Ag_pI (Or.inr (Or.inr rfl))) (Ag_tr (Ag_pI (Or.inr (Or.inr rfl))) (Ag_tr (Ag_pI (Or.inr (Or.inr rfl))) (Ag_pI (Or.inr (Or.inr rfl)))))))
    have eN : nS (sThing σ x) = nS σ * x := by
      show wtf (va_up (dS σ) (dT σ) x) (dT σ) * va_up (dS σ) (dT σ) x (dT σ) = wtf (dS σ) (dT σ) * x
      rw [wtf_up (Nat.le_refl _), ups]
    have hz : ∀ t, t < dT σ + 1 → 2 ≤ va_up (dS σ) (dT σ) x t ∧ va_up (dS σ) (dT σ) x t ≤ 4 := by
      intro t ht
      by_cases e : t = dT σ
      · rw [e, ups]; omega
      · rw [upn e]; exact hT.2.2.2.2.1 t (by omega)
    have hB2 := g1.2.2.2.1
    have core : RCo ρ6 (sThing σ x) := by
      refine ⟨⟨?_, hz, by rw [eN]; exact p2, ?_, ?_, ?_, ?_, ?_, ?_⟩, ⟨⟨?_, ?_, ?_, ?_, hz, ?_⟩, ?_, ?_, ?_, ?_, ?_, ?_⟩, ⟨?_, ?_⟩, ⟨?_, ?_, ?_⟩, ?_, ?_⟩
      · show dT σ + 1 ≤ 8; omega
      · rw [eN]
        show dB σ < nS σ * x
        have : nS σ * 1 ≤ nS σ * x := Nat.mul_le_mul_left _ (by omega)
        omega
      · show dA σ ≤ 12; omega
      · intro a ha
        have ha : a < dA σ := ha
        omega
      · show dP σ ≤ 6; omega
      · rintro w (hw | hw | hw)
        · have hw : w < dA σ := hw
          omega
        · show (dC σ w).length ≤ 4 ∧ ∀ c ∈ dC σ w, _
          rw [hw, hC0]; exact ⟨by simp, fun c hc => absurd hc List.not_mem_nil⟩
        · have hw : 13 ≤ w ∧ w < 13 + dP σ := hw
          omega
      · intro a kk ha
        have ha : a < dA σ := ha
        omega
      · rw [i6]; simp; rfl
      · rw [i6, eN]; simp
      · show dT σ + 1 ≤ 8; omega
      · rw [eN]; exact p2
      · intro t ht
        have ht : t < dT σ + 1 := ht
        show iR ρ6 (30, 3, 0) t = nI (va_up (dS σ) (dT σ) x t) ∧ iR ρ6 (30, 4, 0) t = nI (wtf (va_up (dS σ) (dT σ) x) t)
        rw [r3, r4, wtf_up (by omega)]
        by_cases e : t = dT σ
        · rw [if_pos e, if_pos e, e, ups]; exact ⟨rfl, rfl⟩
        · rw [if_neg e, if_neg e, upn e]; exact hT.2.2.2.2.2 t (by omega)
      · show dA σ ≤ 12; omega
      · rw [i6]; simp; exact g2.2.2.1
      · intro a ha
        have ha : a < dA σ := ha
        omega
      · intro w; exact absurd (by rw [i6]; simp) w
      · intro a ha
        have ha : a < dA σ := ha
        omega
      · intro w; exact absurd (by rw [i6]; simp) w
      · exact Cls_ag g3.1 a6 (by simp) (by simp) (by simp) (by simp)
      · show ∀ c ∈ dC σ 12, _
        rw [hC0]; exact fun c hc => absurd hc List.not_mem_nil
      · rw [(a6 (3, 0, 0) (by simp)).2.1]; exact g4.1
      · exact h6
      · intro p' hp'
        have hp' : p' < dP σ := hp'
        omega
      · rw [(a6 (0, 0, 0) (by simp)).2.1]; exact g5
      · exact KRm_of g6 (fun f => (a6 (34, f, 0) (by simp)).1)
    have hr : iR ρ6 (1, 0, 0) 0 = nI (dT σ + 1) := by rw [i6]; simp
    rw [hr, nI_pred]
    intro ad
    refine ⟨_, rfl, fun w => ?_, fun _ => ?_⟩
    · exfalso
      have e := congrArg Int32.toInt w
      rw [nI_toInt (by omega)] at e
      have e4 : (-3 : Int32).toInt = -3 := by decide
      omega
    · refine c_inWorld hG (fun ad => ⟨rfl, fun ad => ?_⟩)
      refine k ad _ _ (sThing σ x) (RC_W core (RSp_i s1 (fun q => by rw [e6, e5, e4', e3, e2, e1]; rfl)) s2 s3) (Or.inr ⟨x, ok, Or.inr ⟨by omega, p2, rfl, rfl⟩⟩) (Ag_tr (Ag_mono a6 (fun q hq => ?_)) (Ag_tr (Ag_pL (by unfold PCl; decide)) (Ag_pL (by unfold PCl; decide))))
      unfold PCl
      rcases hq with w | w | w <;> rw [w] <;> decide
  · have := (nI_leI (b := 0) (by omega) (by decide)).mpr (show dP σ ≤ 0 by omega)
    exact q3 this
end B46
