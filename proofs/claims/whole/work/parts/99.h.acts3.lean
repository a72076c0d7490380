/-! THE CLASS BUILDS: outcome, when, effect -/
section B48
variable {G : Gc} {ρ : Rs} {K : (Ro → Nat) → Option Value → Rs → Prop}
theorem c_note (hG : gok G) {a n : Nat} (ha : a < 12) (hn : n < 2 ^ 31) (k : ∀ ad, K ad none (pL (pL (pI (pI ρ (20, a, 0) 3 0) (1, 0, 0) 9 0) (4, 0, 0) 0 (lR ρ (4, 0, 0) 0 + 1)) (4, 0, 0) 1 (lR ρ (4, 0, 0) 0 + 1))) : semV G r_WP_noteActChange [] (fun ad => [.ref (ad (0, 0, 0)), .int (nI a), .int (nI n)]) ρ K := by
  refine semV_intro yk_WP_noteActChange.2.2.2.2 (fun _ => Nat.le_of_ble_eq_true rfl) (fun M Q ad0 hM => ?_)
  refine T_WP_noteActChange_0 hG hM _ _ ρ ⟨fun z => absurd z (ne3 hn), fun _ => ⟨vp_in_nI ha (by omega), ?_⟩⟩
  rw [nI_clamp (by omega)]
  intro ρ3 e3 ρ4 e4
  refine c_inWorld hG (fun ad => ⟨rfl, fun ad => ?_⟩)
  rw [e4, e3]
  exact k ad
theorem c_noteF (hG : gok G) {v : Int32} (k : ∀ ad, K ad none ρ) : semV G r_WP_noteActChange [] (fun ad => [.ref (ad (0, 0, 0)), .int v, .int (-3)]) ρ K := by
  refine semV_intro yk_WP_noteActChange.2.2.2.2 (fun _ => Nat.le_of_ble_eq_true rfl) (fun M Q ad0 hM => ?_)
  exact T_WP_noteActChange_0 hG hM _ _ ρ ⟨fun _ => k, fun z => absurd rfl z⟩
/-- behind a change in act a: the whole relation -/
theorem RC_act {ρ ρ1 : Rs} {σ τ : Wd} {B a : Nat} (h : RC ρ σ B) (hw : Wok τ) (h2 : dT τ = dT σ) (h3 : dS τ = dS σ) (h4 : dA τ = dA σ) (hB : dB τ = dB σ) (hP : dP τ = dP σ) (h5 : ∀ b, b ≠ a → dO τ b = dO σ b ∧ dC τ b = dC σ b ∧ ∀ k, dE τ b k = dE σ b k) (ha : a < dA σ) (ag : Ag (PAc a) ρ ρ1) (i1 : iR ρ1 (1, 0, 0) = iR ρ (1, 0, 0)) (hl : ∀ q : Ro, q.1 ≠ 10 ∧ q.1 ≠ 11 ∧ q.1 ≠ 12 ∧ q.1 ≠ 13 → lR ρ1 q = lR ρ q) (hA : RA (pI (pI ρ1 (20, a, 0) 3 0) (1, 0, 0) 9 0) τ a) : RC (pL (pL (pI (pI ρ1 (20, a, 0) 3 0) (1, 0, 0) 9 0) (4, 0, 0) 0 (lR ρ1 (4, 0, 0) 0 + 1)) (4, 0, 0) 1 (lR ρ1 (4, 0, 0) 0 + 1)) τ (B + 1) ∧ Ag PCl ρ (pL (pL (pI (pI ρ1 (20, a, 0) 3 0) (1, 0, 0) 9 0) (4, 0, 0) 0 (lR ρ1 (4, 0, 0) 0 + 1)) (4, 0, 0) 1 (lR ρ1 (4, 0, 0) 0 + 1)) := by
  obtain ⟨g1, g2, g3, g4, g5, g6, st, s1, s2, s3, hv⟩ := h
  have h12 := g2.2.1
  obtain ⟨ρ2, e2⟩ : ∃ ρ2, ρ2 = pI (pI ρ1 (20, a, 0) 3 0) (1, 0, 0) 9 0 := ⟨_, rfl⟩
  rw [← e2] at hA ⊢
  have a2 : Ag (PAc a) ρ ρ2 := Ag_tr ag (by rw [e2]; exact Ag_tr (Ag_pI (Or.inr (Or.inl rfl))) (Ag_pI (Or.inr (Or.inr rfl))))
  have l2 : ∀ q : Ro, q.1 ≠ 10 ∧ q.1 ≠ 11 ∧ q.1 ≠ 12 ∧ q.1 ≠ 13 → lR ρ2 q = lR ρ q := fun q hq => by rw [e2]; exact hl q hq
  have n : ∀ q : Ro, (q.1 ≠ 10 ∧ q.1 ≠ 11 ∧ q.1 ≠ 12 ∧ q.1 ≠ 13 ∧ q.1 ≠ 20 ∧ q.1 ≠ 1) ∨ (q.1 ≠ 20 ∧ q.1 ≠ 1 ∧ q.2.1 < 2) → ¬ PAc a q := fun q hq z => by
    rcases z with ⟨z1, z2⟩ | z | z
    · omega
    · rw [z] at hq
      have hq : (20 ≠ 10 ∧ 20 ≠ 11 ∧ 20 ≠ 12 ∧ 20 ≠ 13 ∧ 20 ≠ 20 ∧ 20 ≠ 1) ∨ (20 ≠ 20 ∧ 20 ≠ 1 ∧ a < 2) := hq
      omega
    · rw [z] at hq
      have hq : (1 ≠ 10 ∧ 1 ≠ 11 ∧ 1 ≠ 12 ∧ 1 ≠ 13 ∧ 1 ≠ 20 ∧ 1 ≠ 1) ∨ (1 ≠ 20 ∧ 1 ≠ 1 ∧ 0 < 2) := hq
      omega
  have core : RCo ρ2 τ := by
    refine ⟨hw, RWo_act (a := a) g2 h2 h3 h4 (fun b _ hne => h5 b hne) a2 (fun j hj => ?_) (by rw [e2, iR_pI, if_pos ⟨rfl, rfl⟩]) (by rw [e2, iR_pI, if_neg (by simp), iR_pI, if_pos ⟨rfl, rfl⟩]) (fun _ => hA), ?_, ?_, ?_, KRm_of g6 (fun f => (a2 (34, f, 0) (n _ (Or.inl (by simp)))).1)⟩
    · rw [e2, iR_pI, if_neg (fun z => hj z.2), iR_pI, if_neg (by simp), i1]
    · unfold RG
      rw [(h5 12 (by omega)).2.1, h2]
      exact RG_ag g3 a2 ⟨n _ (Or.inr (by simp)), n _ (Or.inr (by simp)), n _ (Or.inr (by simp)), n _ (Or.inr (by simp))⟩
    · refine ⟨by rw [(a2 (3, 0, 0) (n _ (Or.inl (by simp)))).2.1, hP]; exact g4.1, by rw [hP]; exact g4.2.1, fun p hp => ?_⟩
      rw [hP] at hp
      rw [(h5 (13 + p) (by omega)).2.1, h2]
      have hp2 := g4.2.2 p hp
      exact ⟨Cls_ag hp2.1 a2 (n _ (Or.inr (by simp))) (n _ (Or.inr (by simp))) (n _ (Or.inr (by simp))) (n _ (Or.inr (by simp))), hp2.2⟩
    · rw [(a2 (0, 0, 0) (n _ (Or.inl (by simp)))).2.1, hB]; exact g5
  have r := RC_W core (RSp_ag s1 (l2 _ (by simp)) (l2 _ (by simp)) (l2 _ (by simp)) (l2 _ (by simp)) (l2 _ (by simp)) (l2 _ (by simp)) (l2 _ (by simp))) s2 s3
  have el : lR ρ2 (4, 0, 0) 0 = lR ρ1 (4, 0, 0) 0 := by rw [e2]; rfl
  rw [el] at r
  exact ⟨r, Ag_tr (Ag_mono a2 (fun q h => PAc_Cl h)) (Ag_tr (Ag_pL (by unfold PCl; decide)) (Ag_pL (by unfold PCl; decide)))⟩
theorem c_outcome (hG : gok G) {σ : Wd} {B : Nat} {v : Int32} (h : RC ρ σ B) (k : ∀ ad ρ' r τ, RC ρ' τ (B + 1) → trOut σ v r τ → Ag PCl ρ ρ' → K ad (some (.int r)) ρ') : semV G r_WP_outcome [] (fun ad => [.ref (ad (0, 0, 0)), .int v]) ρ K := by
  have h0 := h
  obtain ⟨g1, g2, g3, g4, g5, g6, -⟩ := h
  have h12 := g2.2.1
  refine semV_intro yk_WP_outcome.2.2.2.2 (fun _ => Nat.le_of_ble_eq_true rfl) (fun M Q ad0 hM => ?_)
  refine T_WP_outcome_0 hG hM _ ρ ?_
  refine c_isAct hG g2.2.2.1 (by omega) (fun hv ad => ⟨_, rfl, fun z => absurd z (by decide), fun _ => ?_⟩) (fun hv ad => ⟨_, rfl, fun _ ad => k ad ρ _ σ (RC_le h0 (by omega)) (Or.inl ⟨hv, rfl, rfl⟩) Ag_rf, fun z => absurd rfl z⟩)
  obtain ⟨a, ha, ev⟩ := vp_in_of hv (by omega)
  subst ev
  have hA := g2.2.2.2.1 a ha
  have hAx := hA.2.1
  have hAy := hA.2.2.1
  rw [nI_clamp (by omega)]
  refine ⟨vp_in_nI (by omega) (by omega), ?_⟩
  refine semV_intro yk_Ac_addOutcome.2.2.2.2 (fun _ => Nat.le_of_ble_eq_true rfl) (fun M2 Q2 ad2 hM2 => ?_)
  refine T_Ac_addOutcome_0 hG hM2 a (by omega) ρ ?_
  have e3 : (nI (dO σ a) < (3 : Int32)) ↔ dO σ a < 3 := nI_ltI (b := 3) (by omega) (by decide)
  rw [hA.1, e3, nI_clamp (by omega)]
  refine ⟨fun z => ⟨vp_in_nI (by omega) (by omega), fun ρ2 e2 ρ3 e3' ad => ⟨_, rfl, ?_⟩⟩, fun z ad => ⟨_, rfl, c_noteF hG (fun ad => ⟨rfl, fun ad => k ad ρ _ σ (RC_le h0 (by omega)) (Or.inr ⟨a, ha, rfl, Or.inl ⟨by omega, rfl, rfl⟩⟩) Ag_rf⟩)⟩⟩
  have q2 : iR ρ2 (20, a, 0) 2 = nI (dO σ a) := by rw [e2, iR_pI, if_neg (by simp)]; exact hA.1
  rw [q2, nI_1] at e3'
  have q3 : iR ρ3 (20, a, 0) 2 = nI (dO σ a + 1) := by rw [e3', iR_pI, if_pos ⟨rfl, rfl⟩]
  rw [q3, nI_pred]
  have a3 : Ag (PAc a) ρ ρ3 := by rw [e3', e2]; exact Ag_tr (Ag_pI (Or.inl ⟨Or.inl rfl, rfl⟩)) (Ag_pI (Or.inr (Or.inl rfl)))
  have z3 : iR ρ3 (10, a + 2, dO σ a + 1) 0 = 0 := by rw [e3', iR_pI, if_neg (by simp), e2, iR_pI, if_pos ⟨rfl, rfl⟩]
  have c3 : ∀ j L, j ≠ dO σ a + 1 → Cls ρ (a + 2) j L → Cls ρ3 (a + 2) j L := by
    intro j L hj hc
    have ag2 : Ag (fun q => q = (10, a + 2, dO σ a + 1) ∨ q = (20, a, 0)) ρ ρ3 := by rw [e3', e2]; exact Ag_tr (Ag_pI (Or.inl rfl)) (Ag_pI (Or.inr rfl))
    exact Cls_ag hc ag2 (by simp [hj]) (by simp) (by simp) (by simp)
  have agx : ∀ i j L, Cls ρ3 (i + 2) j L → Cls (pI (pI ρ3 (20, a, 0) 3 0) (1, 0, 0) 9 0) (i + 2) j L := fun i j L hc => Cls_ag (P := fun q => q = (20, a, 0) ∨ q = (1, 0, 0)) hc (Ag_tr (Ag_pI (Or.inl rfl)) (Ag_pI (Or.inr rfl))) (by simp) (by simp) (by simp) (by simp)
  refine c_note hG (by omega) (by omega) (fun ad => ⟨rfl, fun ad => ?_⟩)
  have hw : Wok (sOut σ a) := by
    obtain ⟨b1, b2, b3, b4, b5, b6, b7, b8, b9⟩ := g1
    refine ⟨b1, b2, b3, b4, b5, fun b hb => ?_, b7, b8, fun b kk hb hk => ?_⟩
    · show 1 ≤ va_up (dO σ) a (dO σ a + 1) b ∧ va_up (dO σ) a (dO σ a + 1) b ≤ 3
      by_cases e : b = a
      · rw [e, ups]; omega
      · rw [upn e]; exact b6 b hb
    · have hk : kk < va_up (dO σ) a (dO σ a + 1) b := hk
      show (if b = a ∧ kk = dO σ a then [] else dE σ b kk).length ≤ 4 ∧ ∀ c ∈ (if b = a ∧ kk = dO σ a then [] else dE σ b kk), okEf (dS σ) (dT σ) c
      by_cases e : b = a ∧ kk = dO σ a
      · rw [if_pos e]; exact ⟨by simp, fun c hc => absurd hc List.not_mem_nil⟩
      · rw [if_neg e]
        refine b9 b kk hb ?_
        by_cases eb : b = a
        · rw [eb, ups] at hk
          rw [eb]
          have : kk ≠ dO σ a := fun w => e ⟨eb, w⟩
          omega
        · rw [upn eb] at hk; exact hk
  obtain ⟨r1, r2⟩ := RC_act (a := a) (τ := sOut σ a) h0 hw rfl rfl rfl rfl rfl (fun b hb => ⟨by show va_up (dO σ) a (dO σ a + 1) b = _; rw [upn hb], rfl, fun kk => by show (if b = a ∧ kk = dO σ a then [] else dE σ b kk) = _; rw [if_neg (fun w => hb w.1)]⟩) ha a3 (by funext j; rw [e3', iR_pI, if_neg (by simp), e2, iR_pI, if_neg (by simp)]) (fun q _ => by rw [e3', e2]; rfl) (by
    obtain ⟨o2, o1, o3, oc, ocok, oe⟩ := hA
    have eO : dO (sOut σ a) a = dO σ a + 1 := by show va_up (dO σ) a (dO σ a + 1) a = _; rw [ups]
    refine ⟨by rw [iR_pI, if_neg (by simp), iR_pI, if_neg (by simp), q3, eO], by rw [eO]; omega, by rw [eO]; omega, agx a 0 _ (c3 0 _ (by omega) oc), ocok, fun x hx => ?_⟩
    rw [eO] at hx
    show Cls _ (a + 2) (x + 1) (if a = a ∧ x = dO σ a then [] else dE σ a x) ∧ ∀ c ∈ (if a = a ∧ x = dO σ a then [] else dE σ a x), okEf (dS σ) (dT σ) c
    by_cases e : x = dO σ a
    · rw [if_pos ⟨rfl, e⟩]
      refine ⟨agx a _ _ (Cls_nil (by rw [e]; exact z3)), fun c hc => absurd hc List.not_mem_nil⟩
    · rw [if_neg (fun w => e w.2)]
      have := oe x (by omega)
      exact ⟨agx a _ _ (c3 _ _ (by omega) this.1), this.2⟩)
  exact k ad _ _ (sOut σ a) r1 (Or.inr ⟨a, ha, rfl, Or.inr ⟨z, rfl, rfl⟩⟩) r2
theorem c_when (hG : gok G) {σ : Wd} {B : Nat} {w t op v : Int32} (h : RC ρ σ B) (k : ∀ ad ρ' r τ, RC ρ' τ (B + 1) → trWhen σ w t op v r τ → Ag PCl ρ ρ' → K ad (some (.int r)) ρ') : semV G r_WP_when [] (fun ad => [.ref (ad (0, 0, 0)), .int w, .int t, .int op, .int v]) ρ K := by
  have h0 := h
  obtain ⟨g1, g2, g3, g4, g5, g6, -⟩ := h
  have hT := g2.1
  have h8 := hT.2.2.1
  have h12 := g2.2.1
  refine semV_intro yk_WP_when.2.2.2.2 (fun _ => Nat.le_of_ble_eq_true rfl) (fun M Q ad0 hM => ?_)
  refine T_WP_when_0 hG hM _ _ _ _ ρ ?_
  refine c_isAct hG g2.2.2.1 (by omega) (fun hv ad => ⟨_, rfl, fun z => absurd z (by decide), fun _ => ?_⟩) (fun hv ad => ⟨_, rfl, fun _ ad => k ad ρ _ σ (RC_le h0 (by omega)) (Or.inl ⟨hv, rfl, rfl⟩) Ag_rf, fun z => absurd rfl z⟩)
  obtain ⟨a, ha, ev⟩ := vp_in_of hv (by omega)
  subst ev
  have hA := g2.2.2.2.1 a ha
  obtain ⟨o2, o1, o3, oc, ocok, oe⟩ := hA
  refine c_isCondition hG hT.1 h8 (fun hc ad => ⟨_, rfl, fun z => absurd z (by decide), fun _ => ⟨vp_in_nI (by omega) (by omega), ?_⟩⟩) (fun hc ad => ⟨_, rfl, fun _ ad => k ad ρ _ σ (RC_le h0 (by omega)) (Or.inr ⟨a, ha, rfl, Or.inl ⟨hc, rfl, rfl⟩⟩) Ag_rf, fun z => absurd rfl z⟩)
  obtain ⟨c, hok, e1, e2, e3⟩ := (coI_ce h8).mp hc
  have hce : isCe c t op v := ⟨e1, e2, e3⟩
  rw [e1, e2, e3, nI_clamp (by omega)]
  refine c_Cl_add (t := c.1) (op := c.2.1) (v := c.2.2) hG (okC_ac (by omega)) oc (okCo_c h8 hok) (fun hl ad ρ5 x1 x2 => ⟨_, rfl, ?_⟩) (fun hl ad => ⟨_, rfl, c_noteF hG (fun ad => ⟨rfl, fun ad => k ad ρ _ σ (RC_le h0 (by omega)) (Or.inr ⟨a, ha, rfl, Or.inr ⟨c, hok, hce, Or.inl ⟨hl, rfl, rfl⟩⟩⟩) Ag_rf⟩)⟩)
  have a5 : Ag (PCd (a + 2) 0) ρ ρ5 := x2
  have A := fun q (hq : q.1 ≠ 10 ∧ q.1 ≠ 11 ∧ q.1 ≠ 12 ∧ q.1 ≠ 13) => a5 q (PCd_n hq)
  have okL : ∀ d ∈ dC σ a ++ [c], okCo (dT σ) d := by
    intro d hd
    rcases List.mem_append.mp hd with q | q
    · exact ocok d q
    · rw [List.mem_singleton.mp q]; exact hok
  have agx : ∀ i j L, Cls ρ5 (i + 2) j L → Cls (pI (pI ρ5 (20, a, 0) 3 0) (1, 0, 0) 9 0) (i + 2) j L := fun i j L hc => Cls_ag (P := fun q => q = (20, a, 0) ∨ q = (1, 0, 0)) hc (Ag_tr (Ag_pI (Or.inl rfl)) (Ag_pI (Or.inr rfl))) (by simp) (by simp) (by simp) (by simp)
  refine c_note hG (by omega) (by omega) (fun ad => ⟨rfl, fun ad => ?_⟩)
  obtain ⟨r1, r2⟩ := RC_act (a := a) (ρ1 := ρ5) (τ := sCond σ a (dC σ a ++ [c])) h0 (Wok_co g1 (by simp; omega) okL) rfl rfl rfl rfl rfl (fun b hb => ⟨rfl, by show va_up (dC σ) a _ b = _; rw [upn hb], fun _ => rfl⟩) ha (Ag_mono a5 (fun q hq => Or.inl ⟨hq.1, by rw [hq.2]⟩)) (A (1, 0, 0) (by simp)).2.1 (fun q hq => (A q hq).2.2) (by
    refine ⟨by rw [iR_pI, if_neg (by simp), iR_pI, if_neg (by simp), (A (20, a, 0) (by simp)).2.1]; exact o2, o1, o3, ?_, ?_, fun x hx => ⟨agx a _ _ (Cls_ag (oe x hx).1 a5 (fun z => by have := z.2; simp at this) (fun z => by have := z.2; simp at this) (fun z => by have := z.2; simp at this) (fun z => by have := z.2; simp at this)), (oe x hx).2⟩⟩
    · show Cls _ (a + 2) 0 (va_up (dC σ) a _ a)
      rw [ups]; exact agx a 0 _ x1
    · show ∀ d ∈ va_up (dC σ) a _ a, okCo (dT σ) d
      rw [ups]; exact okL)
  exact k ad _ _ _ r1 (Or.inr ⟨a, ha, rfl, Or.inr ⟨c, hok, hce, Or.inr ⟨hl, rfl, rfl⟩⟩⟩) r2
theorem c_effect (hG : gok G) {σ : Wd} {B : Nat} {w u t op v : Int32} (h : RC ρ σ B) (k : ∀ ad ρ' r τ, RC ρ' τ (B + 1) → trEff σ w u t op v r τ → Ag PCl ρ ρ' → K ad (some (.int r)) ρ') : semV G r_WP_effect [] (fun ad => [.ref (ad (0, 0, 0)), .int w, .int u, .int t, .int op, .int v]) ρ K := by
  have h0 := h
  obtain ⟨g1, g2, g3, g4, g5, g6, -⟩ := h
  have hT := g2.1
  have h8 := hT.2.2.1
  have h12 := g2.2.1
  have hz := hT.2.2.2.2.1
  refine semV_intro yk_WP_effect.2.2.2.2 (fun _ => Nat.le_of_ble_eq_true rfl) (fun M Q ad0 hM => ?_)
  refine T_WP_effect_0 hG hM _ _ _ _ _ ρ ?_
  refine c_isOutcome hG (dO σ) g2.2.2.1 h12 (fun x hx => ⟨(g2.2.2.2.1 x hx).1, (g2.2.2.2.1 x hx).2.2.1⟩) (fun hv hu ad => ⟨_, rfl, fun z => absurd z (by decide), fun _ => ?_⟩) (fun hno ad => ⟨_, rfl, fun _ ad => k ad ρ _ σ (RC_le h0 (by omega)) (Or.inl ⟨fun z => hno ⟨z.1, z.2.1⟩, rfl, rfl⟩) Ag_rf, fun z => absurd rfl z⟩)
  have hu0 := hu
  have hv0 := hv
  obtain ⟨a, ha, ev⟩ := vp_in_of hv (by omega)
  have hA := g2.2.2.2.1 a ha
  obtain ⟨o2, o1, o3, oc, ocok, oe⟩ := hA
  rw [ev, nI_clamp (by omega)] at hu
  obtain ⟨y, hy, eu⟩ := vp_in_of hu (by omega)
  refine c_isEffect hG (dS σ) hT.1 h8 (fun x hx => ⟨(hT.2.2.2.2.2 x hx).1, (hz x hx).2⟩) (fun hc ad => ⟨_, rfl, fun z => absurd z (by decide), fun _ => ⟨by rw [ev]; exact vp_in_nI (by omega) (by omega), by rw [eu]; exact vp_in_nI (by omega) (by omega), ?_⟩⟩) (fun hc ad => ⟨_, rfl, fun _ ad => k ad ρ _ σ (RC_le h0 (by omega)) (Or.inl ⟨fun z => hc z.2.2, rfl, rfl⟩) Ag_rf, fun z => absurd rfl z⟩)
  obtain ⟨c, hok, e1, e2, e3⟩ := (efI_ce h8 hz).mp hc
  have hce : isCe c t op v := ⟨e1, e2, e3⟩
  rw [e1, e2, e3, ev, eu, nI_clamp (by omega), nI_clamp (by omega)]
  have hE := oe y hy
  refine c_Cl_add (t := c.1) (op := c.2.1) (v := c.2.2) hG (okC_ou (by omega) (by omega)) hE.1 (okEf_c h8 hz hok) (fun hl ad ρ5 x1 x2 => ⟨_, rfl, ?_⟩) (fun hl ad => ⟨_, rfl, c_noteF hG (fun ad => ⟨rfl, fun ad => k ad ρ _ σ (RC_le h0 (by omega)) (Or.inr ⟨a, y, c, ha, hy, ev, eu, hok, hce, Or.inl ⟨hl, rfl, rfl⟩⟩) Ag_rf⟩)⟩)
  have a5 : Ag (PCd (a + 2) (y + 1)) ρ ρ5 := x2
  have A := fun q (hq : q.1 ≠ 10 ∧ q.1 ≠ 11 ∧ q.1 ≠ 12 ∧ q.1 ≠ 13) => a5 q (PCd_n hq)
  have okL : ∀ d ∈ dE σ a y ++ [c], okEf (dS σ) (dT σ) d := by
    intro d hd
    rcases List.mem_append.mp hd with q | q
    · exact hE.2 d q
    · rw [List.mem_singleton.mp q]; exact hok
  have agx : ∀ i j L, Cls ρ5 (i + 2) j L → Cls (pI (pI ρ5 (20, a, 0) 3 0) (1, 0, 0) 9 0) (i + 2) j L := fun i j L hc => Cls_ag (P := fun q => q = (20, a, 0) ∨ q = (1, 0, 0)) hc (Ag_tr (Ag_pI (Or.inl rfl)) (Ag_pI (Or.inr rfl))) (by simp) (by simp) (by simp) (by simp)
  refine c_note hG (by omega) (by omega) (fun ad => ⟨rfl, fun ad => ?_⟩)
  have hw : Wok (sEff σ a y c) := by
    obtain ⟨b1, b2, b3, b4, b5, b6, b7, b8, b9⟩ := g1
    refine ⟨b1, b2, b3, b4, b5, b6, b7, b8, fun b kk hb hk => ?_⟩
    show (if b = a ∧ kk = y then dE σ a y ++ [c] else dE σ b kk).length ≤ 4 ∧ ∀ d ∈ (if b = a ∧ kk = y then dE σ a y ++ [c] else dE σ b kk), okEf (dS σ) (dT σ) d
    by_cases e : b = a ∧ kk = y
    · rw [if_pos e]; exact ⟨by simp; omega, okL⟩
    · rw [if_neg e]; exact b9 b kk hb hk
  obtain ⟨r1, r2⟩ := RC_act (a := a) (ρ1 := ρ5) (τ := sEff σ a y c) h0 hw rfl rfl rfl rfl rfl (fun b hb => ⟨rfl, rfl, fun kk => by show (if b = a ∧ kk = y then dE σ a y ++ [c] else dE σ b kk) = _; rw [if_neg (fun q => hb q.1)]⟩) ha (Ag_mono a5 (fun q hq => Or.inl ⟨hq.1, by rw [hq.2]⟩)) (A (1, 0, 0) (by simp)).2.1 (fun q hq => (A q hq).2.2) (by
    refine ⟨by rw [iR_pI, if_neg (by simp), iR_pI, if_neg (by simp), (A (20, a, 0) (by simp)).2.1]; exact o2, o1, o3, agx a _ _ (Cls_ag oc a5 (fun z => by have := z.2; simp at this) (fun z => by have := z.2; simp at this) (fun z => by have := z.2; simp at this) (fun z => by have := z.2; simp at this)), ocok, fun x hx => ?_⟩
    show Cls _ (a + 2) (x + 1) (if a = a ∧ x = y then dE σ a y ++ [c] else dE σ a x) ∧ ∀ d ∈ (if a = a ∧ x = y then dE σ a y ++ [c] else dE σ a x), okEf (dS σ) (dT σ) d
    by_cases e : x = y
    · rw [if_pos ⟨rfl, e⟩, e]; exact ⟨agx a _ _ x1, okL⟩
    · rw [if_neg (fun q => e q.2)]
      have n1 : ∀ f, ¬ PCd (a + 2) (y + 1) (f, a + 2, x + 1) := fun f z => by have := z.2; simp at this; exact e this
      exact ⟨agx a _ _ (Cls_ag (oe x hx).1 a5 (n1 _) (n1 _) (n1 _) (n1 _)), (oe x hx).2⟩)
  exact k ad _ _ _ r1 (Or.inr ⟨a, y, c, ha, hy, ev, eu, hok, hce, Or.inr ⟨hl, rfl, rfl⟩⟩) r2
end B48
