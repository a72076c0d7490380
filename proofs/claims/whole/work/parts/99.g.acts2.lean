/-! THE CLASS BUILDS: act, unact, outcome, when, effect -/
theorem okEf_c {n : Nat} {sz : Nat → Nat} (hn : n ≤ 8) (hz : ∀ t, t < n → 2 ≤ sz t ∧ sz t ≤ 4) {c : Ce} (h : okEf sz n c) : okc c := by
  obtain ⟨h1, h2, h3⟩ := h
  have := hz _ h1
  refine ⟨by omega, by omega, ?_⟩
  split at h3
  · omega
  · split at h3 <;> omega
theorem ne3 {n : Nat} (h : n < 2 ^ 31) : ¬ nI n = -3 := fun z => by
  have e := congrArg Int32.toInt z
  rw [nI_toInt h] at e
  have e4 : (-3 : Int32).toInt = -3 := by decide
  omega
section B47
variable {G : Gc} {ρ : Rs} {K : (Ro → Nat) → Option Value → Rs → Prop}
theorem c_act (hG : gok G) {σ : Wd} {B : Nat} (h : RC ρ σ B) (k : ∀ ad ρ' r τ, RC ρ' τ (B + 1) → trAct σ r τ → Ag PCl ρ ρ' → K ad (some (.int r)) ρ') : semV G r_WP_act [] (fun ad => [.ref (ad (0, 0, 0))]) ρ K := by
  have h0 := h
  obtain ⟨g1, g2, g3, g4, g5, g6, st, s1, s2, s3, hv⟩ := h
  have g20 := g2
  obtain ⟨gT, g12, gna, gA, g8, gf3, g9⟩ := g2
  refine semV_intro yk_WP_act.2.2.2.2 (fun _ => Nat.le_of_ble_eq_true rfl) (fun M Q ad0 hM => ?_)
  refine T_WP_act_0 hG hM ρ ?_
  refine semV_intro yk_Wo_addAct.2.2.2.2 (fun _ => Nat.le_of_ble_eq_true rfl) (fun M2 Q2 ad2 hM2 => ?_)
  refine T_Wo_addAct_0 hG hM2 ρ ?_
  have e12 : (nI (dA σ) < (12 : Int32)) ↔ dA σ < 12 := nI_ltI (b := 12) (by omega) (by decide)
  rw [gna, e12, nI_clamp (by omega)]
  refine ⟨fun z => ⟨vp_in_nI (by omega) (by omega), ?_⟩, fun z ad => ⟨_, rfl, fun _ ad => k ad ρ _ σ (RC_le h0 (by omega)) (Or.inl ⟨by omega, rfl, rfl⟩) Ag_rf, fun y => absurd rfl y⟩⟩
  refine semV_intro yk_Ac_beginAnew.2.2.2.2 (fun _ => Nat.le_of_ble_eq_true rfl) (fun M3 Q3 ad3 hM3 => ?_)
  refine T_Ac_beginAnew_0 hG hM3 (dA σ) z ρ (fun ρ1 e1 => ⟨vp_in_nI (n := 0) (by omega) (by omega), ?_⟩)
  rw [show Int32.toNatClampNeg 0 = 0 from rfl]
  intro ρ3 e3 ρ4 e4 ρ5 e5 ad
  refine ⟨rfl, fun ρ6 e6 ρ7 e7 ad => ⟨_, rfl, ?_⟩⟩
  have q5 : iR ρ5 (1, 0, 0) 2 = nI (dA σ) := by rw [e5, iR_pI, if_neg (by simp), e4, iR_pI, if_neg (by simp), e3, iR_pI, if_neg (by simp), e1, iR_pI, if_neg (by simp)]; exact gna
  rw [q5, nI_1] at e6
  have i7 : ∀ j, iR ρ7 (1, 0, 0) j = if j = 9 then 0 else if j = 2 then nI (dA σ + 1) else iR ρ (1, 0, 0) j := by
    intro j
    rw [e7, iR_pI, e6, iR_pI, e5, iR_pI, e4, iR_pI, e3, iR_pI, e1, iR_pI]
    simp
  have i20 : ∀ b j, iR ρ7 (20, b, 0) j = if b = dA σ ∧ j = 3 then 0 else if b = dA σ ∧ j = 2 then 1 else iR ρ (20, b, 0) j := by
    intro b j
    rw [e7, iR_pI, e6, iR_pI, e5, iR_pI, e4, iR_pI, e3, iR_pI, e1, iR_pI]
    simp
  have a7 : Ag (fun q => q = (10, dA σ + 2, 0) ∨ q = (10, dA σ + 2, 1) ∨ q = (20, dA σ, 0) ∨ q = (1, 0, 0)) ρ ρ7 := by
    rw [e7, e6, e5, e4, e3, e1]
    exact Ag_tr (Ag_pI (Or.inl rfl)) (Ag_tr (Ag_pI (Or.inr (Or.inl rfl))) (Ag_tr (Ag_pI (Or.inr (Or.inr (Or.inl rfl)))) (Ag_tr (Ag_pI (Or.inr (Or.inr (Or.inl rfl)))) (Ag_tr (Ag_pI (Or.inr (Or.inr (Or.inr rfl)))) (Ag_pI (Or.inr (Or.inr (Or.inr rfl))))))))
  have n4 : ∀ f b j, b ≠ dA σ → ¬ ((f, b + 2, j) = ((10, dA σ + 2, 0) : Ro) ∨ (f, b + 2, j) = ((10, dA σ + 2, 1) : Ro) ∨ (f, b + 2, j) = ((20, dA σ, 0) : Ro) ∨ (f, b + 2, j) = ((1, 0, 0) : Ro)) ∨ f = 20 := by
    intro f b j hne
    by_cases hf : f = 20
    · exact Or.inr hf
    · left
      rintro (w | w | w | w) <;> simp at w <;> omega
  have c1 : ∀ L, Cls ρ7 (dA σ + 2) 0 L ↔ Cls ρ7 (dA σ + 2) 0 L := fun L => Iff.rfl
  have z0 : iR ρ7 (10, dA σ + 2, 0) 0 = 0 := by
    rw [e7, iR_pI, if_neg (by simp), e6, iR_pI, if_neg (by simp), e5, iR_pI, if_neg (by simp), e4, iR_pI, if_neg (by simp), e3, iR_pI, if_neg (by simp), e1, iR_pI, if_pos ⟨rfl, rfl⟩]
  have z1 : iR ρ7 (10, dA σ + 2, 1) 0 = 0 := by
    rw [e7, iR_pI, if_neg (by simp), e6, iR_pI, if_neg (by simp), e5, iR_pI, if_neg (by simp), e4, iR_pI, if_neg (by simp), e3, iR_pI, if_pos ⟨rfl, rfl⟩]
  have nxs : ∀ b s kk, b ≠ dA σ → nxW (sAct σ) s b kk = nxW σ s b kk := fun b s kk hne => nx_same rfl rfl (by show va_up (dC σ) (dA σ) [] b = _; rw [upn hne]) (by show (if b = dA σ ∧ kk = 0 then [] else dE σ b kk) = _; rw [if_neg (fun w => hne w.1)])
  have core : RCo ρ7 (sAct σ) := by
    obtain ⟨b1, b2, b3, b4, b5, b6, b7, b8, b9⟩ := g1
    refine ⟨⟨b1, b2, b3, b4, ?_, ?_, b7, ?_, ?_⟩, ⟨?_, ?_, ?_, ?_, ?_, ?_, ?_⟩, ⟨?_, ?_⟩, ?_, ?_, ?_⟩
    · show dA σ + 1 ≤ 12; omega
    · intro a ha
      have ha : a < dA σ + 1 := ha
      show 1 ≤ va_up (dO σ) (dA σ) 1 a ∧ va_up (dO σ) (dA σ) 1 a ≤ 3
      by_cases e : a = dA σ
      · rw [e, ups]; omega
      · rw [upn e]; exact b6 a (by omega)
    · intro x hx
      show (va_up (dC σ) (dA σ) [] x).length ≤ 4 ∧ ∀ c ∈ va_up (dC σ) (dA σ) [] x, okCo (dT σ) c
      by_cases e : x = dA σ
      · rw [e, ups]; exact ⟨by simp, fun c hc => absurd hc List.not_mem_nil⟩
      · rw [upn e]
        refine b8 x ?_
        rcases hx with w | w | w
        · have w : x < dA σ + 1 := w
          exact Or.inl (by omega)
        · exact Or.inr (Or.inl w)
        · exact Or.inr (Or.inr w)
    · intro a kk ha hk
      have ha : a < dA σ + 1 := ha
      have hk : kk < va_up (dO σ) (dA σ) 1 a := hk
      show (if a = dA σ ∧ kk = 0 then [] else dE σ a kk).length ≤ 4 ∧ ∀ c ∈ (if a = dA σ ∧ kk = 0 then [] else dE σ a kk), okEf (dS σ) (dT σ) c
      by_cases e : a = dA σ
      · rw [e, ups] at hk
        rw [if_pos ⟨e, by omega⟩]; exact ⟨by simp, fun c hc => absurd hc List.not_mem_nil⟩
      · rw [upn e] at hk
        rw [if_neg (fun w => e w.1)]; exact b9 a kk (by omega) hk
    · exact RT_ag gT a7 (by rw [i7]; simp) (by rw [i7]; simp) (by simp) (by simp)
    · show dA σ + 1 ≤ 12; omega
    · rw [i7]; simp; rfl
    · intro a ha
      have ha : a < dA σ + 1 := ha
      by_cases e : a = dA σ
      · subst e
        refine ⟨?_, ?_, ?_, ?_, ?_, fun kk hk => ?_⟩
        · rw [i20]
          show _ = nI (va_up (dO σ) (dA σ) 1 (dA σ))
          rw [ups]; simp; rfl
        · show 1 ≤ va_up (dO σ) (dA σ) 1 (dA σ)
          rw [ups]; omega
        · show va_up (dO σ) (dA σ) 1 (dA σ) ≤ 3
          rw [ups]; omega
        · show Cls ρ7 (dA σ + 2) 0 (va_up (dC σ) (dA σ) [] (dA σ))
          rw [ups]; exact Cls_nil z0
        · show ∀ c ∈ va_up (dC σ) (dA σ) ([] : List Ce) (dA σ), _
          rw [ups]; exact fun c hc => absurd hc List.not_mem_nil
        · have hk : kk < va_up (dO σ) (dA σ) 1 (dA σ) := hk
          rw [ups] at hk
          have : kk = 0 := by omega
          subst this
          show Cls ρ7 (dA σ + 2) 1 (if dA σ = dA σ ∧ 0 = 0 then [] else dE σ (dA σ) 0) ∧ ∀ c ∈ (if dA σ = dA σ ∧ 0 = 0 then [] else dE σ (dA σ) 0), _
          rw [if_pos ⟨rfl, rfl⟩]
          exact ⟨Cls_nil z1, fun c hc => absurd hc List.not_mem_nil⟩
      · have hA := gA a (by omega)
        obtain ⟨o2, o1, o3, oc, ocok, oe⟩ := hA
        have eO : dO (sAct σ) a = dO σ a := by show va_up (dO σ) (dA σ) 1 a = _; rw [upn e]
        have eC : dC (sAct σ) a = dC σ a := by show va_up (dC σ) (dA σ) [] a = _; rw [upn e]
        have eE : ∀ kk, dE (sAct σ) a kk = dE σ a kk := fun kk => by show (if a = dA σ ∧ kk = 0 then [] else dE σ a kk) = _; rw [if_neg (fun w => e w.1)]
        have n5 : ∀ f j, f = 10 ∨ f = 11 ∨ f = 12 ∨ f = 13 → ¬ ((f, a + 2, j) = ((10, dA σ + 2, 0) : Ro) ∨ (f, a + 2, j) = ((10, dA σ + 2, 1) : Ro) ∨ (f, a + 2, j) = ((20, dA σ, 0) : Ro) ∨ (f, a + 2, j) = ((1, 0, 0) : Ro)) := fun f j hf => by
          rcases n4 f a j e with w | w
          · exact w
          · omega
        refine ⟨by rw [i20, if_neg (fun w => e w.1), if_neg (fun w => e w.1), eO]; exact o2, by rw [eO]; exact o1, by rw [eO]; exact o3, by rw [eC]; exact Cls_ag oc a7 (n5 _ _ (by omega)) (n5 _ _ (by omega)) (n5 _ _ (by omega)) (n5 _ _ (by omega)), by rw [eC]; exact ocok, fun x hx => ?_⟩
        rw [eO] at hx
        rw [eE]
        exact ⟨Cls_ag (oe x hx).1 a7 (n5 _ _ (by omega)) (n5 _ _ (by omega)) (n5 _ _ (by omega)) (n5 _ _ (by omega)), (oe x hx).2⟩
    · intro w
      rw [i7] at w
      exact RP_ag (g8 (by simpa using w)) a7 (by simp) (a7 (30, 7, 0) (by simp)).1
    · intro a ha w
      have ha : a < dA σ + 1 := ha
      rw [i20] at w
      by_cases e : a = dA σ
      · exact absurd (by rw [if_pos ⟨e, rfl⟩]) w
      · rw [if_neg (fun q => e q.1), if_neg (fun q => e q.1)] at w
        have hf := gf3 a (by omega) w
        intro kk hk
        have eO : dO (sAct σ) a = dO σ a := by show va_up (dO σ) (dA σ) 1 a = _; rw [upn e]
        rw [eO] at hk
        have := hf kk hk
        rw [(a7 (23, a, kk) (by simp)).1, (a7 (24, a, kk) (by simp)).1, (a7 (23, a, kk) (by simp)).2.1]
        exact ⟨this.1, this.2.1, fun s hs => by rw [nxs a s kk e]; exact this.2.2 s hs⟩
    · intro w; exact absurd (by rw [i7]; simp) w
    · show Cls ρ7 0 0 (va_up (dC σ) (dA σ) [] 12)
      rw [upn (by omega)]
      exact Cls_ag g3.1 a7 (by simp) (by simp) (by simp) (by simp)
    · show ∀ c ∈ va_up (dC σ) (dA σ) [] 12, okCo (dT σ) c
      rw [upn (by omega)]; exact g3.2
    · refine ⟨by rw [(a7 (3, 0, 0) (by simp)).2.1]; exact g4.1, g4.2.1, fun p hp => ?_⟩
      have hp2 := g4.2.2 p hp
      show Cls ρ7 1 p (va_up (dC σ) (dA σ) [] (13 + p)) ∧ ∀ c ∈ va_up (dC σ) (dA σ) [] (13 + p), okCo (dT σ) c
      rw [upn (by omega)]
      exact ⟨Cls_ag hp2.1 a7 (by simp) (by simp) (by simp) (by simp), hp2.2⟩
    · rw [(a7 (0, 0, 0) (by simp)).2.1]; exact g5
    · exact KRm_of g6 (fun f => (a7 (34, f, 0) (by simp)).1)
  have hr : iR ρ7 (1, 0, 0) 2 = nI (dA σ + 1) := by rw [i7]; simp
  rw [hr, nI_pred]
  refine ⟨fun w => absurd w (ne3 (by omega)), fun _ => ?_⟩
  refine c_inWorld hG (fun ad => ⟨rfl, fun ad => ?_⟩)
  refine k ad _ _ (sAct σ) (RC_W core (RSp_i s1 (fun q => by rw [e7, e6, e5, e4, e3, e1]; rfl)) s2 s3) (Or.inr ⟨z, rfl, rfl⟩) (Ag_tr (Ag_mono a7 (fun q hq => ?_)) (Ag_tr (Ag_pL (by unfold PCl; decide)) (Ag_pL (by unfold PCl; decide))))
  unfold PCl
  rcases hq with w | w | w | w
  · rw [w]; show 10 < 40; omega
  · rw [w]; show 10 < 40; omega
  · rw [w]; show 20 < 40; omega
  · rw [w]; decide
theorem c_unact (hG : gok G) {σ : Wd} {B : Nat} (h : RC ρ σ B) (k : ∀ ad ρ' r τ, RC ρ' τ (B + 1) → trUnact σ r τ → Ag PCl ρ ρ' → K ad (some (.int r)) ρ') : semV G r_WP_unact [] (fun ad => [.ref (ad (0, 0, 0))]) ρ K := by
  have h0 := h
  obtain ⟨g1, g2, g3, g4, g5, g6, st, s1, s2, s3, hv⟩ := h
  obtain ⟨gT, g12, gna, gA, g8, gf3, g9⟩ := g2
  refine semV_intro yk_WP_unact.2.2.2.2 (fun _ => Nat.le_of_ble_eq_true rfl) (fun M Q ad0 hM => ?_)
  refine T_WP_unact_0 hG hM ρ ?_
  have e0 : (nI (dA σ) = (0 : Int32)) ↔ dA σ = 0 := nI_eq (b := 0) (by omega) (by decide)
  rw [gna, e0]
  refine ⟨fun z ad => k ad ρ _ σ (RC_le h0 (by omega)) (Or.inl ⟨z, rfl, rfl⟩) Ag_rf, fun z => ?_⟩
  refine semV_intro yk_Wo_dropAct.2.2.2.2 (fun _ => Nat.le_of_ble_eq_true rfl) (fun M2 Q2 ad2 hM2 => ?_)
  refine T_Wo_dropAct_0 hG hM2 ρ ?_
  have em : nI (dA σ) - 1 = nI (dA σ - 1) := nI_sb (b := 1) (by omega)
  rw [gna, em]
  intro ρ1 e1 ρ2 e2 ad
  refine ⟨rfl, ?_⟩
  have i2 : ∀ j, iR ρ2 (1, 0, 0) j = if j = 9 then 0 else if j = 2 then nI (dA σ - 1) else iR ρ (1, 0, 0) j := by
    intro j
    rw [e2, iR_pI, e1, iR_pI]; simp
  have a2 : Ag (fun q => q = (1, 0, 0)) ρ ρ2 := by rw [e2, e1]; exact Ag_tr (Ag_pI rfl) (Ag_pI rfl)
  have core : RCo ρ2 (sUnact σ) := by
    obtain ⟨b1, b2, b3, b4, b5, b6, b7, b8, b9⟩ := g1
    have lt : ∀ a, a < dA σ - 1 → a < dA σ := fun a ha => by omega
    refine ⟨⟨b1, b2, b3, b4, ?_, fun a ha => b6 a (lt a ha), b7, fun x hx => b8 x ?_, fun a kk ha hk => b9 a kk (lt a ha) hk⟩, ⟨RT_ag gT a2 (by rw [i2]; simp) (by rw [i2]; simp) (by simp) (by simp), ?_, ?_, fun a ha => RA_of (gA a (lt a ha)) a2 (by rw [(a2 (20, a, 0) (by simp)).2.1]) (fun i j => by simp), fun w => ?_, fun a ha w => ?_, fun w => absurd (by rw [i2]; simp) w⟩, RG_ag g3 a2 (by simp), RCv_ag g4 a2 (by rw [(a2 (3, 0, 0) (by simp)).2.1]) (fun j => by simp), by rw [(a2 (0, 0, 0) (by simp)).2.1]; exact g5, KRm_of g6 (fun f => (a2 (34, f, 0) (by simp)).1)⟩
    · show dA σ - 1 ≤ 12; omega
    · rcases hx with w | w | w
      · exact Or.inl (lt x w)
      · exact Or.inr (Or.inl w)
      · exact Or.inr (Or.inr w)
    · show dA σ - 1 ≤ 12; omega
    · rw [i2]; simp; rfl
    · rw [i2] at w
      exact RP_ag (g8 (by simpa using w)) a2 (by simp) (a2 (30, 7, 0) (by simp)).1
    · rw [(a2 (20, a, 0) (by simp)).2.1] at w
      have hf := gf3 a (lt a ha) w
      intro kk hk
      have := hf kk hk
      rw [(a2 (23, a, kk) (by simp)).1, (a2 (24, a, kk) (by simp)).1, (a2 (23, a, kk) (by simp)).2.1]
      exact this
  refine c_inWorld hG (fun ad => ⟨rfl, fun ad => ?_⟩)
  rw [show iR (pL (pL ρ2 (4, 0, 0) 0 (lR ρ2 (4, 0, 0) 0 + 1)) (4, 0, 0) 1 (lR ρ2 (4, 0, 0) 0 + 1)) (1, 0, 0) 2 = nI (dA σ - 1) by rw [iR_pL, iR_pL, i2]; simp]
  exact k ad _ _ (sUnact σ) (RC_W core (RSp_i s1 (fun q => by rw [e2, e1]; rfl)) s2 s3) (Or.inr ⟨by omega, rfl, rfl⟩) (Ag_tr (Ag_mono a2 (fun q h => by rw [h]; unfold PCl; decide)) (Ag_tr (Ag_pL (by unfold PCl; decide)) (Ag_pL (by unfold PCl; decide))))
end B47
