/-! THE REFERENCE BUILDS: outcome, when, aim, aimless, unact, cover, part, bare; leads -/
section B50
variable {G : Gc} {ρ : Rs} {K : (Ro → Nat) → Option Value → Rs → Prop}
theorem cM_outcome (hG : gok G) {σ : Wd} {v : Int32} (h : RMo ρ σ) (hW : Wok σ) (k : ∀ ad ρ' r τ, RMo ρ' τ → trOut σ v r τ → Ag PMo ρ ρ' → K ad (some (.int r)) ρ') : semV G r_Mo_outcome [] (fun ad => [.ref (ad (40, 0, 0)), .int v]) ρ K := by
  have h0 := h
  obtain ⟨⟨hT, h2, h3, h4, h5, h6, h9⟩, -, -⟩ := h
  have h12 := hW.2.2.2.2.1
  have hO3 := hW.2.2.2.2.2.1
  refine semV_intro yk_Mo_outcome.2.2.2.2 (fun _ => Nat.le_of_ble_eq_true rfl) (fun M Q ad0 hM => ?_)
  refine T_Mo_outcome_0 hG hM _ ρ ?_
  refine c_Mo_isAct hG h3 (by omega) (fun hv ad => ⟨_, rfl, fun z => absurd z (by decide), fun _ => ?_⟩) (fun hv ad => ⟨_, rfl, fun _ ad => k ad ρ _ σ h0 (Or.inl ⟨hv, rfl, rfl⟩) Ag_rf, fun z => absurd rfl z⟩)
  obtain ⟨a, ha, ev⟩ := vp_in_of hv (by omega)
  subst ev
  have hO := hO3 a ha
  have em : (3 : Int32) * nI a = nI (3 * a) := pk_mul 3 a
  have e3 : (nI (dO σ a) = (3 : Int32)) ↔ dO σ a = 3 := nI_eq (b := 3) (by omega) (by decide)
  rw [nI_clamp (n := a) (by omega), h4 a ha, e3, em, nI_ad, nI_clamp (n := 3 * a + dO σ a) (by omega)]
  have hin : vp_in (nI a) 12 := vp_in_nI (by omega) (by omega)
  refine ⟨hin, fun z ad => k ad ρ _ σ h0 (Or.inr ⟨a, ha, rfl, Or.inl ⟨z, rfl, rfl⟩⟩) Ag_rf, fun z => ⟨hin, vp_in_nI (by omega) (by omega), fun ρ7 e7 => ⟨hin, hin, ?_⟩⟩⟩
  have q7 : iR ρ7 (41, 4, 0) a = nI (dO σ a) := by rw [e7, iR_pI, if_neg (by simp)]; exact h4 a ha
  rw [q7, nI_1]
  intro ρ9 e9
  have a9 : Ag (fun q => q = (41, 7, 0) ∨ q = (41, 4, 0)) ρ ρ9 := by rw [e9, e7]; exact Ag_tr (Ag_pI (Or.inl rfl)) (Ag_pI (Or.inr rfl))
  have i9 : iR ρ9 (40, 0, 0) = iR ρ (40, 0, 0) := (a9 (40, 0, 0) (by simp)).2.1
  have r4 : ∀ b, iR ρ9 (41, 4, 0) b = if b = a then nI (dO σ a + 1) else iR ρ (41, 4, 0) b := fun b => by rw [e9, iR_pI, e7, iR_pI]; simp
  refine c_forget hG (fun ad ρ10 f1 f2 => ⟨rfl, hin, fun ad => ?_⟩)
  rw [(f2 (41, 4, 0) (by simp)).2.1, r4, if_pos rfl, nI_pred]
  refine k ad ρ10 _ (sOut σ a) (RMo_f (MB_f ⟨⟨by rw [i9]; exact hT.1, hT.2.1, hT.2.2.1, hT.2.2.2.1, by rw [(a9 (41, 1, 0) (by simp)).2.1]; exact hT.2.2.2.2⟩, by rw [i9]; exact h2, by rw [i9]; exact h3, fun b hb => ?_, fun x hx => MCo_ag (h5 x hx) a9 (by simp) (by simp), fun b kk hb hk => ?_, by rw [i9]; exact h9⟩ f1 f2) f1) (Or.inr ⟨a, ha, rfl, Or.inr ⟨by omega, rfl, rfl⟩⟩) (Ag_tr (Ag_mono a9 (fun q h => by rcases h with h | h <;> rw [h] <;> (unfold PMo; decide))) (Ag_mono f2 (fun q h => by rw [h]; unfold PMo; decide)))
  · show iR ρ9 (41, 4, 0) b = nI (va_up (dO σ) a (dO σ a + 1) b)
    rw [r4]
    by_cases e : b = a
    · rw [if_pos e, e, ups]
    · rw [if_neg e, upn e]; exact h4 b hb
  · have hk : kk < va_up (dO σ) a (dO σ a + 1) b := hk
    have hb : b < dA σ := hb
    show MEf ρ9 (3 * b + kk) (if b = a ∧ kk = dO σ a then [] else dE σ b kk)
    by_cases e : b = a ∧ kk = dO σ a
    · rw [if_pos e, e.1, e.2]
      refine MEf_nil ?_
      rw [e9, iR_pI, if_neg (by simp), e7, iR_pI, if_pos ⟨rfl, rfl⟩]
    · rw [if_neg e, e9, e7]
      have hkb : kk < dO σ b := by
        by_cases eb : b = a
        · rw [eb, ups] at hk
          rw [eb]
          have : kk ≠ dO σ a := fun w => e ⟨eb, w⟩
          omega
        · rw [upn eb] at hk; exact hk
      have := hO3 b hb
      exact MEf_p (MEf_pI (h6 b kk hb hkb) (by omega)) (by decide) (by decide)
/-- a condition more, the call being right as to its row -/
theorem cM_co (hG : gok G) {σ : Wd} {x : Nat} {t op v : Int32} (h : RMo ρ σ) (hx : rwv σ x) (hx19 : x < 19) (k : ∀ ad ρ' r τ, RMo ρ' τ → trCo σ x t op v r τ → Ag PMo ρ ρ' → K ad (some (.int r)) ρ') : semV G r_Mo_isCondition [] (fun ad => [.ref (ad (40, 0, 0)), .int t, .int op, .int v]) ρ (fun ad u6 ρ5 => ∃ x8 : Int32, u6 = some (.int x8) ∧ ((x8 = 0 → (∀ ad, K ad (some (.int (-2))) ρ5)) ∧ (¬ x8 = 0 → (semV G r_Mo_more [] (fun ad => [.ref (ad (40, 0, 0)), .int (nI x), .int t, .int op, .int v]) ρ5 (fun ad u10 ρ9 => ∃ x12 : Int32, u10 = some (.int x12) ∧ (∀ ad, K ad (some (.int x12)) ρ9)))))) := by
  have h0 := h
  obtain ⟨⟨hT, h2, h3, h4, h5, h6, h9⟩, -, -⟩ := h
  have h8 := hT.2.1
  refine c_Mo_isCondition hG hT.1 h8 (fun hc ad => ⟨_, rfl, fun z => absurd z (by decide), fun _ => ?_⟩) (fun hc ad => ⟨_, rfl, fun _ ad => k ad ρ _ σ h0 (Or.inl ⟨hc, rfl, rfl⟩) Ag_rf, fun z => absurd rfl z⟩)
  obtain ⟨c, hok, e1, e2, e3⟩ := (coI_ce h8).mp hc
  have hce : isCe c t op v := ⟨e1, e2, e3⟩
  rw [e1, e2, e3]
  refine c_Mo_more hG hx19 (h5 x hx) (fun hl ad ρ9 x1 x2 f1 a9 => ⟨_, rfl, fun ad => ?_⟩) (fun hl ad => ⟨_, rfl, fun ad => k ad ρ _ σ h0 (Or.inr ⟨c, hok, hce, Or.inl ⟨hl, rfl, rfl⟩⟩) Ag_rf⟩)
  refine k ad ρ9 _ (sCond σ x (dC σ x ++ [c])) (RMo_f ⟨⟨by rw [f1.2.2 0 (by omega) (by omega)]; exact hT.1, hT.2.1, hT.2.2.1, hT.2.2.2.1, by rw [(a9 (41, 1, 0) (by simp)).2.1]; exact hT.2.2.2.2⟩, by rw [f1.2.2 2 (by omega) (by omega)]; exact h2, by rw [f1.2.2 3 (by omega) (by omega)]; exact h3, by rw [(a9 (41, 4, 0) (by simp)).2.1]; exact h4, fun y hy => ?_, fun a kk q1 q2 => MEf_ag (h6 a kk q1 q2) a9 (by simp) (by simp), by rw [f1.2.2 9 (by omega) (by omega)]; exact h9⟩ f1) (Or.inr ⟨c, hok, hce, Or.inr ⟨hl, rfl, rfl⟩⟩) (Ag_mono a9 (fun q h => by rcases h with h | h | h <;> rw [h] <;> (unfold PMo; decide)))
  show MCo ρ9 y (va_up (dC σ) x (dC σ x ++ [c]) y)
  by_cases e : y = x
  · rw [e, ups]; exact x1
  · rw [upn e]; exact x2 y _ e (h5 y hy)
theorem cM_when (hG : gok G) {σ : Wd} {w t op v : Int32} (h : RMo ρ σ) (h12 : dA σ ≤ 12) (k : ∀ ad ρ' r τ, RMo ρ' τ → trWhen σ w t op v r τ → Ag PMo ρ ρ' → K ad (some (.int r)) ρ') : semV G r_Mo_when [] (fun ad => [.ref (ad (40, 0, 0)), .int w, .int t, .int op, .int v]) ρ K := by
  refine semV_intro yk_Mo_when.2.2.2.2 (fun _ => Nat.le_of_ble_eq_true rfl) (fun M Q ad0 hM => ?_)
  refine T_Mo_when_0 hG hM _ _ _ _ ρ ?_
  refine c_Mo_isAct hG h.1.2.2.1 (by omega) (fun hv ad => ⟨_, rfl, fun z => absurd z (by decide), fun _ => ?_⟩) (fun hv ad => ⟨_, rfl, fun _ ad => k ad ρ _ σ h (Or.inl ⟨hv, rfl, rfl⟩) Ag_rf, fun z => absurd rfl z⟩)
  obtain ⟨a, ha, ev⟩ := vp_in_of hv (by omega)
  subst ev
  exact cM_co hG h (Or.inl ha) (by omega) (fun ad ρ' r τ q1 q2 q3 => k ad ρ' r τ q1 (Or.inr ⟨a, ha, rfl, q2⟩) q3)
theorem cM_aim (hG : gok G) {σ : Wd} {t op v : Int32} (h : RMo ρ σ) (k : ∀ ad ρ' r τ, RMo ρ' τ → trCo σ 12 t op v r τ → Ag PMo ρ ρ' → K ad (some (.int r)) ρ') : semV G r_Mo_aim [] (fun ad => [.ref (ad (40, 0, 0)), .int t, .int op, .int v]) ρ K := by
  refine semV_intro yk_Mo_aim.2.2.2.2 (fun _ => Nat.le_of_ble_eq_true rfl) (fun M Q ad0 hM => ?_)
  refine T_Mo_aim_0 hG hM _ _ _ ρ ?_
  exact cM_co hG h (x := 12) (Or.inr (Or.inl rfl)) (by omega) k
theorem cM_part (hG : gok G) {σ : Wd} {w t op v : Int32} (h : RMo ρ σ) (h6' : dP σ ≤ 6) (k : ∀ ad ρ' r τ, RMo ρ' τ → trPart σ w t op v r τ → Ag PMo ρ ρ' → K ad (some (.int r)) ρ') : semV G r_Mo_part [] (fun ad => [.ref (ad (40, 0, 0)), .int w, .int t, .int op, .int v]) ρ K := by
  refine semV_intro yk_Mo_part.2.2.2.2 (fun _ => Nat.le_of_ble_eq_true rfl) (fun M Q ad0 hM => ?_)
  refine T_Mo_part_0 hG hM _ _ _ _ ρ ?_
  rw [h.1.2.2.2.2.2.2]
  refine c_isIn0 hG (by omega) (fun hv ad => ⟨_, rfl, fun z => absurd z (by decide), fun _ => ?_⟩) (fun hv ad => ⟨_, rfl, fun _ ad => k ad ρ _ σ h (Or.inl ⟨hv, rfl, rfl⟩) Ag_rf, fun z => absurd rfl z⟩)
  obtain ⟨p, hp, ev⟩ := vp_in_of hv (by omega)
  subst ev
  have e13 : (13 : Int32) + nI p = nI (13 + p) := nI_ad 13 p
  rw [e13]
  exact cM_co hG h (x := 13 + p) (Or.inr (Or.inr ⟨by omega, by omega⟩)) (by omega) (fun ad ρ' r τ q1 q2 q3 => k ad ρ' r τ q1 (Or.inr ⟨p, hp, rfl, q2⟩) q3)
theorem cM_aimless (hG : gok G) {σ : Wd} (h : RMo ρ σ) (k : ∀ ad ρ' r τ, RMo ρ' τ → trAimless σ r τ → Ag PMo ρ ρ' → K ad (some (.int r)) ρ') : semV G r_Mo_aimless [] (fun ad => [.ref (ad (40, 0, 0))]) ρ K := by
  obtain ⟨⟨hT, h2, h3, h4, h5, h6, h9⟩, -, -⟩ := h
  have hc := h5 12 (Or.inr (Or.inl rfl))
  refine semV_intro yk_Mo_aimless.2.2.2.2 (fun _ => Nat.le_of_ble_eq_true rfl) (fun M Q ad0 hM => ?_)
  refine T_Mo_aimless_0 hG hM ρ ⟨vp_in_nI (n := 12) (by omega) (by omega), vp_in_nI (n := 12) (by omega) (by omega), ?_⟩
  rw [show Int32.toNatClampNeg 12 = 12 from rfl, hc.2.1]
  intro ρ2 e2
  have a2 : Ag (fun q => q = (41, 5, 0)) ρ ρ2 := by rw [e2]; exact Ag_pI rfl
  have i2 : iR ρ2 (40, 0, 0) = iR ρ (40, 0, 0) := (a2 (40, 0, 0) (by simp)).2.1
  refine c_forget hG (fun ad ρ3 f1 f2 => ⟨rfl, fun ad => ?_⟩)
  refine k ad ρ3 _ (sCond σ 12 []) (RMo_f (MB_f ⟨⟨by rw [i2]; exact hT.1, hT.2.1, hT.2.2.1, hT.2.2.2.1, by rw [(a2 (41, 1, 0) (by simp)).2.1]; exact hT.2.2.2.2⟩, by rw [i2]; exact h2, by rw [i2]; exact h3, by rw [(a2 (41, 4, 0) (by simp)).2.1]; exact h4, fun x hx => ?_, fun a kk q1 q2 => MEf_ag (h6 a kk q1 q2) a2 (by simp) (by simp), by rw [i2]; exact h9⟩ f1 f2) f1) ⟨rfl, rfl⟩ (Ag_tr (Ag_mono a2 (fun q h => by rw [h]; unfold PMo; decide)) (Ag_mono f2 (fun q h => by rw [h]; unfold PMo; decide)))
  show MCo ρ2 x (va_up (dC σ) 12 [] x)
  by_cases e : x = 12
  · rw [e, ups]; exact MCo_nil (by rw [e2, iR_pI, if_pos ⟨rfl, rfl⟩])
  · rw [upn e, e2]; exact MCo_pI (h5 x hx) e
theorem cM_unact (hG : gok G) {σ : Wd} (h : RMo ρ σ) (h12 : dA σ ≤ 12) (k : ∀ ad ρ' r τ, RMo ρ' τ → trUnact σ r τ → Ag PMo ρ ρ' → K ad (some (.int r)) ρ') : semV G r_Mo_unact [] (fun ad => [.ref (ad (40, 0, 0))]) ρ K := by
  have h0 := h
  obtain ⟨⟨hT, h2, h3, h4, h5, h6, h9⟩, -, -⟩ := h
  refine semV_intro yk_Mo_unact.2.2.2.2 (fun _ => Nat.le_of_ble_eq_true rfl) (fun M Q ad0 hM => ?_)
  refine T_Mo_unact_0 hG hM ρ ?_
  have e0 : (nI (dA σ) = (0 : Int32)) ↔ dA σ = 0 := nI_eq (b := 0) (by omega) (by decide)
  rw [h3, e0]
  refine ⟨fun z ad => k ad ρ _ σ h0 (Or.inl ⟨z, rfl, rfl⟩) Ag_rf, fun z => ?_⟩
  have em : nI (dA σ) - 1 = nI (dA σ - 1) := nI_sb (b := 1) (by omega)
  rw [em]
  intro ρ1 e1
  have a1 : Ag (fun q => q = (40, 0, 0)) ρ ρ1 := by rw [e1]; exact Ag_pI rfl
  have i1 : ∀ j, iR ρ1 (40, 0, 0) j = if j = 3 then nI (dA σ - 1) else iR ρ (40, 0, 0) j := fun j => by rw [e1, iR_pI]; simp
  refine c_forget hG (fun ad ρ2 f1 f2 => ⟨rfl, fun ad => ?_⟩)
  have hr : iR ρ2 (40, 0, 0) 3 = nI (dA σ - 1) := by rw [f1.2.2 3 (by omega) (by omega), i1]; simp
  rw [hr]
  have lt : ∀ a, a < dA σ - 1 → a < dA σ := fun a ha => by omega
  refine k ad ρ2 _ (sUnact σ) (RMo_f (MB_f ⟨⟨by rw [i1]; simp; exact hT.1, hT.2.1, hT.2.2.1, hT.2.2.2.1, by rw [(a1 (41, 1, 0) (by simp)).2.1]; exact hT.2.2.2.2⟩, by rw [i1]; simp; exact h2, by rw [i1]; simp; rfl, fun a ha => by rw [(a1 (41, 4, 0) (by simp)).2.1]; exact h4 a (lt a ha), fun x hx => MCo_ag (h5 x ?_) a1 (by simp) (by simp), fun a kk q1 q2 => MEf_ag (h6 a kk (lt a q1) q2) a1 (by simp) (by simp), by rw [i1]; simp; exact h9⟩ f1 f2) f1) (Or.inr ⟨by omega, rfl, rfl⟩) (Ag_tr (Ag_mono a1 (fun q h => by rw [h]; unfold PMo; decide)) (Ag_mono f2 (fun q h => by rw [h]; unfold PMo; decide)))
  rcases hx with w | w | w
  · exact Or.inl (lt x w)
  · exact Or.inr (Or.inl w)
  · exact Or.inr (Or.inr w)
theorem ML_of {ρ ρ' : Rs} {σ : Wd} (h : ML ρ σ) (e0 : iR ρ' (40, 0, 0) 13 = iR ρ (40, 0, 0) 13) (e : ∀ f, 14 ≤ f → f ≤ 22 → iR ρ' (41, f, 0) = iR ρ (41, f, 0)) : ML ρ' σ := by
  obtain ⟨m1, m2, m3, ⟨d, m4, m5, m6⟩, m7⟩ := h
  refine ⟨by rw [e0]; exact m1, by rw [e 14 (by omega) (by omega)]; exact m2, by rw [e 15 (by omega) (by omega)]; exact m3, ⟨d, m4, m5, by rw [e 19 (by omega) (by omega)]; exact m6⟩, fun w w1 w2 => ?_⟩
  obtain ⟨d, n1, n2, n3⟩ := m7 w w1 w2
  exact ⟨d, n1, n2, by rw [e (19 + w) (by omega) (by omega)]; exact n3⟩
theorem MP_of {ρ ρ' : Rs} {σ : Wd} (h : MP ρ σ) (e0 : iR ρ' (40, 0, 0) 32 = iR ρ (40, 0, 0) 32) (e : iR ρ' (41, 27, 0) = iR ρ (41, 27, 0)) : MP ρ' σ := by
  unfold MP at *
  rw [e0, e]; exact h
theorem cM_cover (hG : gok G) {σ : Wd} (h : RMo ρ σ) (h12' : dA σ ≤ 12) (h6' : dP σ ≤ 6) (k : ∀ ad ρ' r τ, RMo ρ' τ → trCover σ r τ → Ag PMo ρ ρ' → K ad (some (.int r)) ρ') : semV G r_Mo_cover [] (fun ad => [.ref (ad (40, 0, 0))]) ρ K := by
  have h0 := h
  obtain ⟨⟨hT, h2, h3, h4, h5, h6, h9⟩, hl, hp⟩ := h
  refine semV_intro yk_Mo_cover.2.2.2.2 (fun _ => Nat.le_of_ble_eq_true rfl) (fun M Q ad0 hM => ?_)
  refine T_Mo_cover_0 hG hM ρ ?_
  have e6 : (nI (dP σ) = (6 : Int32)) ↔ dP σ = 6 := nI_eq (b := 6) (by omega) (by decide)
  have e13 : (13 : Int32) + nI (dP σ) = nI (13 + dP σ) := nI_ad 13 (dP σ)
  rw [h9, e6, e13, nI_clamp (by omega)]
  refine ⟨fun z ad => k ad ρ _ σ h0 (Or.inl ⟨z, rfl, rfl⟩) Ag_rf, fun z => ⟨vp_in_nI (by omega) (by omega), fun ρ1 e1 ρ2 e2 ad => ?_⟩⟩
  have q1 : iR ρ1 (40, 0, 0) 9 = nI (dP σ) := by rw [e1, iR_pI, if_neg (by simp)]; exact h9
  rw [q1, nI_1] at e2
  have i2 : ∀ j, iR ρ2 (40, 0, 0) j = if j = 9 then nI (dP σ + 1) else iR ρ (40, 0, 0) j := fun j => by rw [e2, iR_pI, e1, iR_pI]; simp
  have a2 : Ag (fun q => q = (41, 5, 0) ∨ q = (40, 0, 0)) ρ ρ2 := by rw [e2, e1]; exact Ag_tr (Ag_pI (Or.inl rfl)) (Ag_pI (Or.inr rfl))
  have hr : iR ρ2 (40, 0, 0) 9 = nI (dP σ + 1) := by rw [i2]; simp
  rw [hr, nI_pred]
  have eq : EqC σ (sCover σ) := ⟨rfl, rfl, rfl, rfl, rfl, fun y hy => by show va_up (dC σ) (13 + dP σ) [] y = dC σ y; rw [upn (by omega)]⟩
  have h12 : dC (sCover σ) 12 = dC σ 12 := by show va_up (dC σ) (13 + dP σ) [] 12 = _; rw [upn (by omega)]
  refine k ad ρ2 _ (sCover σ) ⟨⟨⟨by rw [i2]; simp; exact hT.1, hT.2.1, hT.2.2.1, hT.2.2.2.1, by rw [(a2 (41, 1, 0) (by simp)).2.1]; exact hT.2.2.2.2⟩, by rw [i2]; simp; exact h2, by rw [i2]; simp; exact h3, by rw [(a2 (41, 4, 0) (by simp)).2.1]; exact h4, fun x hx => ?_, fun a kk q1 q2 => MEf_ag (h6 a kk q1 q2) a2 (by simp) (by simp), by rw [i2]; simp; rfl⟩, fun w => ?_, fun w => ?_⟩ (Or.inr ⟨by omega, rfl, rfl⟩) (Ag_mono a2 (fun q h => by rcases h with h | h <;> rw [h] <;> (unfold PMo; decide)))
  · show MCo ρ2 x (va_up (dC σ) (13 + dP σ) [] x)
    by_cases e : x = 13 + dP σ
    · rw [e, ups]; exact MCo_nil (by rw [e2, iR_pI, if_neg (by simp), e1, iR_pI, if_pos ⟨rfl, rfl⟩])
    · rw [upn e, e2, e1]
      refine MCo_p (MCo_pI (h5 x ?_) e) (by decide) (by decide)
      rcases hx with w | w | w
      · exact Or.inl w
      · exact Or.inr (Or.inl w)
      · have w : 13 ≤ x ∧ x < 13 + (dP σ + 1) := w
        exact Or.inr (Or.inr ⟨w.1, by omega⟩)
  · rw [i2] at w
    exact ML_eq eq rfl h12 (ML_of (hl (by simpa using w)) (by rw [i2]; simp) (fun f f1 f2 => (a2 (41, f, 0) (by simp; omega)).2.1))
  · rw [i2] at w
    exact MP_eq eq h12 (MP_of (hp (by simpa using w)) (by rw [i2]; simp) (a2 (41, 27, 0) (by simp)).2.1)
theorem cM_bare (hG : gok G) {σ : Wd} (h : RMo ρ σ) (k : ∀ ad ρ' r τ, RMo ρ' τ → trBare σ r τ → Ag PMo ρ ρ' → K ad (some (.int r)) ρ') : semV G r_Mo_bare [] (fun ad => [.ref (ad (40, 0, 0))]) ρ K := by
  obtain ⟨⟨hT, h2, h3, h4, h5, h6, h9⟩, hl, hp⟩ := h
  refine semV_intro yk_Mo_bare.2.2.2.2 (fun _ => Nat.le_of_ble_eq_true rfl) (fun M Q ad0 hM => ?_)
  refine T_Mo_bare_0 hG hM ρ (fun ρ1 e1 ad => ?_)
  rw [h9]
  have i1 : ∀ j, iR ρ1 (40, 0, 0) j = if j = 9 then 0 else iR ρ (40, 0, 0) j := fun j => by rw [e1, iR_pI]; simp
  have a1 : Ag (fun q => q = (40, 0, 0)) ρ ρ1 := by rw [e1]; exact Ag_pI rfl
  have eq : EqC σ (sBare σ) := ⟨rfl, rfl, rfl, rfl, rfl, fun _ _ => rfl⟩
  refine k ad ρ1 _ (sBare σ) ⟨⟨⟨by rw [i1]; simp; exact hT.1, hT.2.1, hT.2.2.1, hT.2.2.2.1, by rw [(a1 (41, 1, 0) (by simp)).2.1]; exact hT.2.2.2.2⟩, by rw [i1]; simp; exact h2, by rw [i1]; simp; exact h3, by rw [(a1 (41, 4, 0) (by simp)).2.1]; exact h4, fun x hx => MCo_ag (h5 x ?_) a1 (by simp) (by simp), fun a kk q1 q2 => MEf_ag (h6 a kk q1 q2) a1 (by simp) (by simp), by rw [i1]; simp; rfl⟩, fun w => ?_, fun w => ?_⟩ ⟨rfl, rfl⟩ (Ag_mono a1 (fun q h => by rw [h]; unfold PMo; decide))
  · rcases hx with w | w | w
    · exact Or.inl w
    · exact Or.inr (Or.inl w)
    · have w : 13 ≤ x ∧ x < 13 + 0 := w
      omega
  · rw [i1] at w
    exact ML_eq eq rfl rfl (ML_of (hl (by simpa using w)) (by rw [i1]; simp) (fun f f1 f2 => (a1 (41, f, 0) (by simp)).2.1))
  · rw [i1] at w
    exact MP_eq eq rfl (MP_of (hp (by simpa using w)) (by rw [i1]; simp) (a1 (41, 27, 0) (by simp)).2.1)
end B50
