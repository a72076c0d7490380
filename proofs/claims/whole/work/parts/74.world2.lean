/-! THE WORLD AS IT IS READ once its rows stand -/
section B20
variable {G : Gc} {ρ : Rs} {K : (Ro → Nat) → Option Value → Rs → Prop}
theorem c_roomV (hG : gok G) {m : Nat} (hm : m ≤ 4096) (k : ∀ ad, K ad (some (.int (nI (roomN m)))) ρ) : semV G r_WP_roomFor [] (fun ad => [.int (nI m)]) ρ K := by
  refine semV_intro yk_WP_roomFor.2.2.2.2 (fun _ => Nat.le_of_ble_eq_true rfl) (fun M Q ad0 hM => ?_)
  refine T_WP_roomFor_0 hG hM _ ρ ?_
  have key : ∀ (d i room : Nat), i + d = 3 → room = 8 ^ (i + 1) → (room < m ∨ room = roomN m) → Y G [] ad0 M Q 5 (fun ad => [(0, .int (nI m)), (1, .int (nI room)), (2, .int (nI i))]) (fun ad => []) ρ := by
    intro d
    induction d with
    | zero =>
      intro i room hi hr hx
      have hi : i = 3 := by omega
      subst hi
      refine T_WP_roomFor_5 hG hM _ _ _ ρ ⟨fun _ => ?_, fun q => absurd (by decide) q⟩
      rcases hx with hx | hx
      · rw [hr] at hx; omega
      · rw [hx]; exact k
    | succ d ih =>
      intro i room hi hr hx
      have hi3 : i < 3 := by omega
      have hrm : room ≤ 512 := by
        rw [hr]
        rcases (show i = 0 ∨ i = 1 ∨ i = 2 by omega) with e | e | e <;> subst e <;> decide
      refine T_WP_roomFor_5 hG hM _ _ _ ρ ⟨fun q => ?_, fun _ => ⟨fun q => ?_, fun q => ?_⟩⟩
      · exact absurd ((nI_leI (a := 3) (b := i) (by decide) (by omega)).mp q) (by omega)
      · have hle := (nI_leI (by omega) (by omega)).mp q
        rcases hx with hx | hx
        · omega
        · rw [hx]; exact k
      · have hlt : room < m := Nat.not_le.mp fun z => q ((nI_leI (by omega) (by omega)).mpr z)
        have e1 : nI room * 8 = nI (room * 8) := pk_mul room 8
        rw [e1, nI_1]
        refine ih (i + 1) (room * 8) (by omega) (by rw [hr, Nat.pow_succ 8 (i + 1)]) ?_
        by_cases hc : room * 8 < m
        · exact Or.inl hc
        · right
          rw [hr] at hlt hc ⊢
          rcases (show i = 0 ∨ i = 1 ∨ i = 2 by omega) with e | e | e <;> subst e <;> simp only [roomN] <;> simp at hlt hc ⊢ <;> (repeat' split) <;> omega
  exact key 3 0 8 rfl rfl (by unfold roomN; split <;> omega)
end B20
/-- the world's roles -/
def wrB (q : Ro) : Bool := q.1 == 1 || (q.1 == 10 || q.1 == 11 || q.1 == 12 || q.1 == 13) || (q.1 == 20 || q.1 == 21 || q.1 == 22 || q.1 == 23 || q.1 == 24) || q.1 == 30
def nW (q : Ro) : Prop := wrB q = false
def RWr (ρ : Rs) (σ : Wd) : Prop := RT ρ σ ∧ dA σ ≤ 12 ∧ iR ρ (1, 0, 0) 2 = nI (dA σ) ∧ (∀ a, a < dA σ → RA ρ σ a) ∧ RD ρ σ
theorem RWr_of {ρ : Rs} {σ : Wd} (h : RWo ρ σ) (hd : RD ρ σ) : RWr ρ σ := ⟨h.1, h.2.1, h.2.2.1, h.2.2.2.1, hd⟩
theorem RWr_ag {ρ ρ' : Rs} {σ : Wd} (h : RWr ρ σ) (ha : Ag nW ρ ρ') : RWr ρ' σ := by
  obtain ⟨hT, h12, hna, hA, hP, hF, hL⟩ := h
  have n : ∀ q, wrB q = true → ¬ nW q := fun q h1 h2 => by unfold nW at h2; rw [h1] at h2; cases h2
  have b1 := (ha (1, 0, 0) (n _ rfl)).2.1
  refine ⟨RT_ag hT ha (by rw [b1]) (by rw [b1]) (n _ rfl) (n _ rfl), h12, by rw [b1]; exact hna, fun a h => RA_of (hA a h) ha (by rw [(ha (20, a, 0) (n _ rfl)).2.1]) (fun i j => ⟨n _ rfl, n _ rfl, n _ rfl, n _ rfl⟩), RP_ag hP ha (n _ rfl) (ha _ (n _ rfl)).1, fun a h k hk => ?_, ?_⟩
  · have := hF a h k hk
    rw [(ha (23, a, k) (n _ rfl)).1, (ha (24, a, k) (n _ rfl)).1, (ha (23, a, k) (n _ rfl)).2.1]
    exact this
  · obtain ⟨ch, hch⟩ := hL
    exact ⟨ch, fun x hx => ⟨by rw [(ha (30, 7, 0) (n _ rfl)).2.1]; exact Lk_ag ha (fun a k => n _ rfl) (hch x hx).1, (hch x hx).2⟩⟩
theorem RWr_Es {ρ : Rs} {σ : Wd} (h : RWr ρ σ) : okEs σ := ⟨h.1.2.2.2.2.1, h.1.2.2.2.1, fun a k ha hk => ((h.2.2.2.1 a ha).2.2.2.2.2 k hk).2⟩
theorem RWr_stp {ρ : Rs} {σ : Wd} (h : RWr ρ σ) : ∀ s t, s < nS σ → stp σ s t → t < nS σ := fun _ _ _ ⟨_, _, ha, hk, hx⟩ => nx_lt (RWr_Es h) ha hk hx
/-- where an outcome leads, by the row -/
theorem RWr_to {ρ : Rs} {σ : Wd} (h : RWr ρ σ) {a k s : Nat} (ha : a < dA σ) (hk : k < dO σ a) (hs : s < nS σ) : nS σ ≤ nR ρ (23, a, k) ∧ iR ρ (23, a, k) s = oI (nxW σ s a k) := ⟨(h.2.2.2.2.2.1 a ha k hk).1, (h.2.2.2.2.2.1 a ha k hk).2.2 s hs⟩
