/-! whether an act can be done, by the class's rows -/
theorem nx_can {σ : Wd} {s a k : Nat} : nxW σ s a k = none ↔ ¬ canW σ s a := by
  unfold nxW canW
  by_cases h : holdW σ (dC σ a) s = true
  · simp [h]
  · simp [h]
theorem nx_some {σ : Wd} {s a k : Nat} (h : canW σ s a) : nxW σ s a k = some (goW σ (dE σ a k) s) := by
  unfold nxW
  exact if_pos h
/-- the effects of σ are those of a world -/
def okEs (σ : Wd) : Prop := (∀ t, t < dT σ → 2 ≤ dS σ t ∧ dS σ t ≤ 4) ∧ nS σ ≤ 4096 ∧ ∀ a k, a < dA σ → k < dO σ a → ∀ c ∈ dE σ a k, okEf (dS σ) (dT σ) c
theorem nx_lt {σ : Wd} {s a k t : Nat} (hE : okEs σ) (ha : a < dA σ) (hk : k < dO σ a) (h : nxW σ s a k = some t) : t < nS σ := nxW_lt hE.1 (hE.2.2 a k ha hk) h
section B15
variable {G : Gc} {ρ : Rs} {K : (Ro → Nat) → Option Value → Rs → Prop}
theorem c_canBeDone (hG : gok G) {σ : Wd} {a s : Nat} (hE : okEs σ) (ha12 : a < 12) (ha : a < dA σ) (ho : 1 ≤ dO σ a) (hF : RF ρ σ a) (hs : s < nS σ) (k1 : canW σ s a → ∀ ad, K ad (some (.int 1)) ρ) (k0 : ¬ canW σ s a → ∀ ad, K ad (some (.int 0)) ρ) : semV G r_Ac_canBeDone [] (fun ad => [.ref (ad (20, a, 0)), .int (nI s)]) ρ K := by
  have h4 := hE.2.1
  obtain ⟨f1, f2, f3⟩ := hF 0 (by omega)
  refine semV_intro yk_Ac_canBeDone.2.2.2.2 (fun _ => Nat.le_of_ble_eq_true rfl) (fun M Q ad0 hM => ?_)
  refine T_Ac_canBeDone_0 hG hM a ha12 _ ρ ⟨vp_in_nI (n := 0) (by omega) (by omega), ?_⟩
  rw [show Int32.toNatClampNeg 0 = 0 from rfl, nI_clamp (by omega), f3 s hs]
  refine ⟨in_nI (by omega) (by omega), fun z ez => ?_⟩
  have hm := oI_m1 (o := nxW σ s a 0) (fun n h => by have := nx_lt hE ha (by omega) h; omega)
  by_cases hc : canW σ s a
  · rw [if_neg (fun q => (nx_can.mp (hm.mp q)) hc)] at ez
    subst ez
    exact ⟨Or.inr rfl, k1 hc⟩
  · rw [if_pos (hm.mpr (nx_can.mpr hc))] at ez
    subst ez
    exact ⟨Or.inl rfl, k0 hc⟩
end B15
