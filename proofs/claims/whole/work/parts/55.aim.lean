/-! the aim's states, class -/
def bI (b : Bool) : Int32 := if b = true then 1 else 0
theorem bI_nb (b : Bool) : nb (bI b) := by cases b <;> simp [bI, nb]
theorem bI_0 {b : Bool} : bI b = 0 ↔ b = false := by cases b <;> simp [bI]
/-- how many below n are so -/
def cnt (p : Nat → Bool) : Nat → Nat
  | 0 => 0
  | n + 1 => cnt p n + (if p n = true then 1 else 0)
theorem cnt_le (p : Nat → Bool) : ∀ n, cnt p n ≤ n
  | 0 => Nat.le_refl _
  | n + 1 => by
    have := cnt_le p n
    show cnt p n + _ ≤ _
    split <;> omega
def aimW (σ : Wd) (s : Nat) : Bool := holdW σ (dC σ 12) s
/-- the class's aim is that of σ -/
def RG (ρ : Rs) (σ : Wd) : Prop := Cls ρ 0 0 (dC σ 12) ∧ ∀ c ∈ dC σ 12, okCo (dT σ) c
/-- the aim's row stands -/
def RM (ρ : Rs) (σ : Wd) : Prop := nS σ ≤ nR ρ (33, 0, 0) ∧ (∀ s, s < nS σ → iR ρ (33, 0, 0) s = bI (aimW σ s)) ∧ iR ρ (6, 0, 0) 1 = nI (cnt (aimW σ) (nS σ))
section B12
variable {G : Gc} {ρ : Rs} {K : (Ro → Nat) → Option Value → Rs → Prop}
theorem c_Wi_findAim (hG : gok G) {σ : Wd} (hT : RT ρ σ) (hP : RP ρ σ) (hA : RG ρ σ) (k : ∀ ad ρ', RM ρ' σ → (∀ j, j ≠ 1 → iR ρ' (6, 0, 0) j = iR ρ (6, 0, 0) j) → lR ρ' (6, 0, 0) = lR ρ (6, 0, 0) → Ag (fun q => q = (33, 0, 0) ∨ q = (6, 0, 0)) ρ ρ' → K ad none ρ') : semV G r_Wi_findAim [33] (fun ad => [.ref (ad (6, 0, 0)), .ref (ad (1, 0, 0)), .ref (ad (10, 0, 0))]) ρ K := by
  have h1 := hT.2.1
  have h4 := hT.2.2.2.1
  refine semV_intro yk_Wi_findAim.2.2.2.2 (fun _ => Nat.le_of_ble_eq_true rfl) (fun M Q ad0 hM => ?_)
  refine T_Wi_findAim_0 hG hM ρ ⟨nS σ, h1, h4, fun ρ1 e1 ρ7 e7 => ?_⟩
  have a7 : Ag (fun q => q = (33, 0, 0) ∨ q = (6, 0, 0)) ρ ρ7 := by
    rw [e7, e1]; exact Ag_tr (Ag_rowR (Or.inl rfl)) (Ag_pI (Or.inr rfl))
  have g1 : Ag (fun q => q = (33, 0, 0)) ρ ρ1 := by rw [e1]; exact Ag_rowR rfl
  have key : ∀ d s ρ2, s + d = nS σ → Ag (fun q => q = (33, 0, 0) ∨ q = (6, 0, 0)) ρ ρ2 → nS σ ≤ nR ρ2 (33, 0, 0) → (∀ u, u < s → iR ρ2 (33, 0, 0) u = bI (aimW σ u)) → iR ρ2 (6, 0, 0) 1 = nI (cnt (aimW σ) s) → (∀ j, j ≠ 1 → iR ρ2 (6, 0, 0) j = iR ρ (6, 0, 0) j) → lR ρ2 (6, 0, 0) = lR ρ (6, 0, 0) → Y G [33] ad0 M Q 22 (fun ad => [(0, .ref (ad (6, 0, 0))), (1, .ref (ad (1, 0, 0))), (2, .ref (ad (10, 0, 0))), (3, .int (nI s))]) (fun ad => []) ρ2 := by
    intro d
    induction d with
    | zero =>
      intro s ρ2 hd hag hn hv hc hj hl
      have es : s = nS σ := by omega
      subst es
      have b1 : iR ρ2 (1, 0, 0) = iR ρ (1, 0, 0) := (hag _ (by simp)).2.1
      exact T_Wi_findAim_22 hG hM _ ρ2 ⟨fun _ ad => k ad ρ2 ⟨hn, hv, hc⟩ hj hl hag, fun q => absurd (by rw [b1, h1]; exact (nI_leI (by omega) (by omega)).mpr (Nat.le_refl _)) q⟩
    | succ d ih =>
      intro s ρ2 hd hag hn hv hc hj hl
      have hsn : s < nS σ := by omega
      have b1 : iR ρ2 (1, 0, 0) = iR ρ (1, 0, 0) := (hag _ (by simp)).2.1
      have T2 : RT ρ2 σ := RT_ag hT hag (by rw [b1]) (by rw [b1]) (by simp) (by simp)
      have A2 : Cls ρ2 0 0 (dC σ 12) := Cls_ag hA.1 hag (by simp) (by simp) (by simp) (by simp)
      refine T_Wi_findAim_22 hG hM _ ρ2 ⟨fun q => absurd (by rw [b1, h1] at q; exact (nI_leI (by omega) (by omega)).mp q) (by omega), fun _ => ⟨in_nI (by rw [(hag (30, 6, 0) (by simp)).1]; exact Nat.lt_of_lt_of_le hsn hP.1) (by omega), ?_⟩⟩
      rw [nI_clamp (by omega), (hag (30, 6, 0) (by simp)).2.1, hP.2.2 s hsn]
      refine c_Cl_hold hG okC_0 (pkW_lt T2) A2 (fun ad => ⟨_, rfl, in_nI (by omega) (by omega), ?_, fun ρ7 e7 => ⟨in_nI (by rw [e7, nR_pI]; omega) (by omega), ?_⟩⟩)
      · exact bI_nb _
      · rw [hold_pk T2 hA.2] at e7
        have ev : iR ρ7 (33, 0, 0) s = bI (aimW σ s) := by rw [e7, iR_pI, if_pos ⟨rfl, rfl⟩]; rfl
        have a8 : Ag (fun q => q = (33, 0, 0) ∨ q = (6, 0, 0)) ρ ρ7 := by rw [e7]; exact Ag_tr hag (Ag_pI (Or.inl rfl))
        have v8 : ∀ u, u < s + 1 → iR ρ7 (33, 0, 0) u = bI (aimW σ u) := by
          intro u hu
          by_cases e : u = s
          · subst e; exact ev
          · rw [e7, iR_pI, if_neg (fun z => e z.2)]; exact hv u (by omega)
        have c8 : ∀ j, iR ρ7 (6, 0, 0) j = iR ρ2 (6, 0, 0) j := fun j => by rw [e7, iR_pI, if_neg (by simp)]
        have cs : cnt (aimW σ) (s + 1) = cnt (aimW σ) s + (if aimW σ s = true then 1 else 0) := rfl
        rw [ev, nI_1]
        refine ⟨fun q => ?_, fun q ρ9 e9 => ?_⟩
        · have hb := bI_0.mp q
          refine ih (s + 1) ρ7 (by omega) a8 (by rw [e7]; exact hn) v8 ?_ (fun j hj2 => by rw [c8]; exact hj j hj2) (by rw [e7]; exact hl)
          rw [c8, hc, cs, hb]
          rfl
        · have hb : aimW σ s = true := by
            cases h : aimW σ s with
            | true => rfl
            | false => exact absurd (bI_0.mpr h) q
          refine ih (s + 1) ρ9 (by omega) (by rw [e9]; exact Ag_tr a8 (Ag_pI (Or.inr rfl))) (by rw [e9, e7]; exact hn) (fun u hu => by rw [e9, iR_pI, if_neg (by simp)]; exact v8 u hu) ?_ (fun j hj2 => ?_) (by rw [e9, e7]; exact hl)
          · rw [e9, iR_pI, if_pos ⟨rfl, rfl⟩, c8, hc, cs, hb, nI_1]
            rfl
          · rw [e9, iR_pI, if_neg (fun z => hj2 z.2), c8]; exact hj j hj2
  refine key (nS σ) 0 ρ7 (by omega) a7 (by rw [e7, e1]; exact rowR_ge h4) (fun u hu => absurd hu (by omega)) ?_ (fun j hj => ?_) ?_
  · rw [e7, iR_pI, if_pos ⟨rfl, rfl⟩]; rfl
  · rw [e7, iR_pI, if_neg (fun z => hj z.2), (g1 (6, 0, 0) (by simp)).2.1]
  · rw [e7]; exact (g1 (6, 0, 0) (by simp)).2.2
end B12
