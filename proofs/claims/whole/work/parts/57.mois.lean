/-! THE REFERENCE: questions about bounds -/
theorem pred_toInt {n : Nat} (hn : n < 2 ^ 31) : (nI n - 1).toInt = (n : Int) - 1 := by
  cases n with
  | zero => decide
  | succ n =>
    rw [nI_pred, nI_toInt (by omega)]
    omega
theorem in_iff {v : Int32} {n : Nat} (hn : n < 2 ^ 31) : (¬ v < 0 ∧ ¬ nI n - 1 < v) ↔ vp_in v n := by
  rw [vp_in_iff, Int32.lt_iff_toInt_lt, Int32.lt_iff_toInt_lt, pred_toInt hn]
  have : (0 : Int32).toInt = 0 := by decide
  omega
section B13
variable {G : Gc} {ρ : Rs} {K : (Ro → Nat) → Option Value → Rs → Prop}
theorem c_isIn (hG : gok G) {v lo hi : Int32} (k1 : ¬ v < lo ∧ ¬ hi < v → ∀ ad, K ad (some (.int 1)) ρ) (k0 : ¬ (¬ v < lo ∧ ¬ hi < v) → ∀ ad, K ad (some (.int 0)) ρ) : semV G r_Mo_isIn [] (fun _ => [.int v, .int lo, .int hi]) ρ K := by
  refine semV_intro yk_Mo_isIn.2.2.2.2 (fun _ => Nat.le_of_ble_eq_true rfl) (fun M Q ad0 hM => ?_)
  refine T_Mo_isIn_0 hG hM _ _ _ ρ (fun z ez => ?_)
  by_cases h1 : v < lo
  · rw [if_pos h1] at ez
    subst ez
    exact ⟨Or.inl rfl, k0 (fun q => q.1 h1)⟩
  · rw [if_neg h1] at ez
    by_cases h2 : hi < v
    · rw [if_pos h2] at ez
      subst ez
      exact ⟨Or.inl rfl, k0 (fun q => q.2 h2)⟩
    · rw [if_neg h2] at ez
      subst ez
      exact ⟨Or.inr rfl, k1 ⟨h1, h2⟩⟩
theorem c_isIn0 (hG : gok G) {v : Int32} {n : Nat} (hn : n < 2 ^ 31) (k1 : vp_in v n → ∀ ad, K ad (some (.int 1)) ρ) (k0 : ¬ vp_in v n → ∀ ad, K ad (some (.int 0)) ρ) : semV G r_Mo_isIn [] (fun _ => [.int v, .int 0, .int (nI n - 1)]) ρ K :=
  c_isIn hG (fun h => k1 ((in_iff hn).mp h)) (fun h => k0 (fun q => h ((in_iff hn).mpr q)))
end B13
