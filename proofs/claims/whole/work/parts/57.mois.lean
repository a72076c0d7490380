/-! THE REFERENCE: questions about bounds -/
theorem pred_toInt {n : Nat} (hn : n < 2 ^ 31) : (nI n - 1).toInt = (n : Int) - 1 := by
  cases n with
  | zero => decide
  | succ n =>
    rw [nI_pred, nI_toInt (by omega)]
    omega
theorem in_iff {v : Int32} {n : Nat} (hn : n < 2 ^ 31) : (¬ v < 0 ∧ ¬ nI n - 1 < v) ↔ vp_in v n := by
  rw [vp_in_iff, Int32.lt_iff_toInt_lt, Int32.lt_iff_toInt_lt, pred_toInt hn]
  have : (0 : Int32).toInt = 0 := by decide
  omega
section B13
variable {G : Gc} {ρ : Rs} {K : (Ro → Nat) → Option Value → Rs → Prop}
theorem c_isIn (hG : gok G) {v lo hi : Int32} (k1 : ¬ v < lo ∧ ¬ hi < v → ∀ ad, K ad (some (.int 1)) ρ) (k0 : ¬ (¬ v < lo ∧ ¬ hi < v) → ∀ ad, K ad (some (.int 0)) ρ) : semV G r_Mo_isIn [] (fun _ => [.int v, .int lo, .int hi]) ρ K := by
  refine semV_intro yk_Mo_isIn.2.2.2.2 (fun _ => Nat.le_of_ble_eq_true rfl) (fun M Q ad0 hM => ?_)
  refine T_Mo_isIn_0 hG hM _ _ _ ρ (fun z ez => ?_)
  by_cases h1 : v < lo
  · rw [if_pos h1] at ez
    subst ez
    exact ⟨Or.inl rfl, k0 (fun q => q.1 h1)⟩
  · rw [if_neg h1] at ez
    by_cases h2 : hi < v
    · rw [if_pos h2] at ez
      subst ez
      exact ⟨Or.inl rfl, k0 (fun q => q.2 h2)⟩
    · rw [if_neg h2] at ez
      subst ez
      exact ⟨Or.inr rfl, k1 ⟨h1, h2⟩⟩
theorem c_isIn0 (hG : gok G) {v : Int32} {n : Nat} (hn : n < 2 ^ 31) (k1 : vp_in v n → ∀ ad, K ad (some (.int 1)) ρ) (k0 : ¬ vp_in v n → ∀ ad, K ad (some (.int 0)) ρ) : semV G r_Mo_isIn [] (fun _ => [.int v, .int 0, .int (nI n - 1)]) ρ K :=
  c_isIn hG (fun h => k1 ((in_iff hn).mp h)) (fun h => k0 (fun q => h ((in_iff hn).mpr q)))
theorem c_Mo_isThing (hG : gok G) {v : Int32} {n : Nat} (h0 : iR ρ (40, 0, 0) 0 = nI n) (hn : n < 2 ^ 31) (k1 : vp_in v n → ∀ ad, K ad (some (.int 1)) ρ) (k0 : ¬ vp_in v n → ∀ ad, K ad (some (.int 0)) ρ) : semV G r_Mo_isThing [] (fun ad => [.ref (ad (40, 0, 0)), .int v]) ρ K := by
  refine semV_intro yk_Mo_isThing.2.2.2.2 (fun _ => Nat.le_of_ble_eq_true rfl) (fun M Q ad0 hM => ?_)
  refine T_Mo_isThing_0 hG hM v ρ ?_
  rw [h0]
  exact c_isIn0 hG hn (fun h ad => ⟨_, rfl, Or.inr rfl, k1 h⟩) (fun h ad => ⟨_, rfl, Or.inl rfl, k0 h⟩)
theorem c_Mo_isAct (hG : gok G) {v : Int32} {n : Nat} (h0 : iR ρ (40, 0, 0) 3 = nI n) (hn : n < 2 ^ 31) (k1 : vp_in v n → ∀ ad, K ad (some (.int 1)) ρ) (k0 : ¬ vp_in v n → ∀ ad, K ad (some (.int 0)) ρ) : semV G r_Mo_isAct [] (fun ad => [.ref (ad (40, 0, 0)), .int v]) ρ K := by
  refine semV_intro yk_Mo_isAct.2.2.2.2 (fun _ => Nat.le_of_ble_eq_true rfl) (fun M Q ad0 hM => ?_)
  refine T_Mo_isAct_0 hG hM v ρ ?_
  rw [h0]
  exact c_isIn0 hG hn (fun h ad => ⟨_, rfl, Or.inr rfl, k1 h⟩) (fun h ad => ⟨_, rfl, Or.inl rfl, k0 h⟩)
theorem c_Mo_isState (hG : gok G) {σ : Wd} {v : Int32} (hT : MT ρ σ) (k1 : vp_in v (nS σ) → ∀ ad, K ad (some (.int 1)) ρ) (k0 : ¬ vp_in v (nS σ) → ∀ ad, K ad (some (.int 0)) ρ) : semV G r_Mo_isState [] (fun ad => [.ref (ad (40, 0, 0)), .int v]) ρ K := by
  refine semV_intro yk_Mo_isState.2.2.2.2 (fun _ => Nat.le_of_ble_eq_true rfl) (fun M Q ad0 hM => ?_)
  refine T_Mo_isState_0 hG hM v ρ ?_
  have h4 := hT.2.2.1
  refine c_Mo_states hG hT (fun ad => ⟨_, rfl, ?_⟩)
  exact c_isIn0 hG (by omega) (fun h ad => ⟨_, rfl, Or.inr rfl, k1 h⟩) (fun h ad => ⟨_, rfl, Or.inl rfl, k0 h⟩)
theorem c_Mo_isCondition (hG : gok G) {t op v : Int32} {n : Nat} (h0 : iR ρ (40, 0, 0) 0 = nI n) (hn : n ≤ 8) (k1 : coI n t op v → ∀ ad, K ad (some (.int 1)) ρ) (k0 : ¬ coI n t op v → ∀ ad, K ad (some (.int 0)) ρ) : semV G r_Mo_isCondition [] (fun ad => [.ref (ad (40, 0, 0)), .int t, .int op, .int v]) ρ K := by
  refine semV_intro yk_Mo_isCondition.2.2.2.2 (fun _ => Nat.le_of_ble_eq_true rfl) (fun M Q ad0 hM => ?_)
  refine T_Mo_isCondition_0 hG hM t op v ρ ?_
  refine c_Mo_isThing hG h0 (by omega) (fun ha ad => ⟨_, rfl, fun q => absurd q (by decide), fun _ => ?_⟩) (fun ha ad => ⟨_, rfl, fun _ ad => k0 (fun z => ha z.1) ad, fun q => absurd rfl q⟩)
  refine c_isIn0 hG (n := 4) (by decide) (fun hb ad => ⟨_, rfl, fun q => absurd q (by decide), fun _ => ⟨fun q2 => ?_, fun q2 => ?_⟩⟩) (fun hb ad => ⟨_, rfl, fun _ ad => k0 (fun z => hb z.2.1) ad, fun q => absurd rfl q⟩)
  · refine c_Mo_isThing hG h0 (by omega) (fun hc ad => ⟨_, rfl, fun z ez => ?_⟩) (fun hc ad => ⟨_, rfl, fun z ez => ?_⟩)
    · rw [if_neg (by decide)] at ez
      subst ez
      exact ⟨Or.inr rfl, k1 ⟨ha, hb, by rw [if_pos q2]; exact hc⟩⟩
    · rw [if_pos rfl] at ez
      subst ez
      exact ⟨Or.inl rfl, k0 (fun z => by have := z.2.2; rw [if_pos q2] at this; exact hc this)⟩
  · refine c_isIn0 hG (n := 4) (by decide) (fun hc ad => ⟨_, rfl, fun z ez => ?_⟩) (fun hc ad => ⟨_, rfl, fun z ez => ?_⟩)
    · rw [if_neg (by decide)] at ez
      subst ez
      exact ⟨Or.inr rfl, k1 ⟨ha, hb, by rw [if_neg q2]; exact hc⟩⟩
    · rw [if_pos rfl] at ez
      subst ez
      exact ⟨Or.inl rfl, k0 (fun z => by have := z.2.2; rw [if_neg q2] at this; exact hc this)⟩
end B13
