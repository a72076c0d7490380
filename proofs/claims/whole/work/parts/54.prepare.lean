/-! THE WORLD OF THE CLASS, and prepare -/
theorem semV_n {G : Gc} {r : Mr} {mv : List Nat} {av : (Ro → Nat) → List Value} {ρ : Rs} {K : (Ro → Nat) → Option Value → Rs → Prop} (h : (∀ q, okR q = true → nR ρ q < 1048576) → semV G r mv av ρ K) : semV G r mv av ρ K := fun ad hp V => h (fun _ hq => v_n V hq) ad hp V
theorem Y_n {G : Gc} {mv : List Nat} {ad0 : Ro → Nat} {M : Mc} {Q : State → Prop} {pc : Nat} {lv : (Ro → Nat) → List (Nat × Value)} {st : (Ro → Nat) → List Value} {ρ : Rs} (h : (∀ q, okR q = true → nR ρ q < 1048576) → Y G mv ad0 M Q pc lv st ρ) : Y G mv ad0 M Q pc lv st ρ := fun ad hp hs V => h (fun _ hq => v_n V hq) ad hp hs V
/-- all rows stand -/
def RD (ρ : Rs) (σ : Wd) : Prop := RP ρ σ ∧ (∀ a, a < dA σ → RF ρ σ a) ∧ RLc ρ σ (dA σ * 16384)
/-- the class's world is that of σ; what its flags say is so -/
def RWo (ρ : Rs) (σ : Wd) : Prop := RT ρ σ ∧ dA σ ≤ 12 ∧ iR ρ (1, 0, 0) 2 = nI (dA σ) ∧ (∀ a, a < dA σ → RA ρ σ a) ∧ (¬ iR ρ (1, 0, 0) 8 = 0 → RP ρ σ) ∧ (∀ a, a < dA σ → ¬ iR ρ (20, a, 0) 3 = 0 → RF ρ σ a) ∧ (¬ iR ρ (1, 0, 0) 9 = 0 → RD ρ σ)
/-- what prepare may change -/
def PW (q : Ro) : Prop := q.1 = 23 ∨ q.1 = 24 ∨ q = (30, 6, 0) ∨ q = (30, 7, 0) ∨ q.1 = 20 ∨ q = (1, 0, 0)
theorem RA_of {ρ ρ' : Rs} {σ : Wd} {a : Nat} {P : Ro → Prop} (h : RA ρ σ a) (ha : Ag P ρ ρ') (h2 : iR ρ' (20, a, 0) 2 = iR ρ (20, a, 0) 2) (hP : ∀ i j, ¬ P (10, i, j) ∧ ¬ P (11, i, j) ∧ ¬ P (12, i, j) ∧ ¬ P (13, i, j)) : RA ρ' σ a := by
  obtain ⟨o2, o1, o3, oc, ocok, oe⟩ := h
  exact ⟨h2.trans o2, o1, o3, Cls_ag oc ha (hP _ _).1 (hP _ _).2.1 (hP _ _).2.2.1 (hP _ _).2.2.2, ocok, fun x hx => ⟨Cls_ag (oe x hx).1 ha (hP _ _).1 (hP _ _).2.1 (hP _ _).2.2.1 (hP _ _).2.2.2, (oe x hx).2⟩⟩
theorem RP_ag {ρ ρ' : Rs} {σ : Wd} {P : Ro → Prop} (h : RP ρ σ) (ha : Ag P ρ ρ') (h1 : ¬ P (30, 6, 0)) (h2 : nR ρ' (30, 7, 0) = nR ρ (30, 7, 0)) : RP ρ' σ := by
  unfold RP
  rw [(ha _ h1).1, (ha _ h1).2.1, h2]
  exact h
section B11
variable {G : Gc} {ρ : Rs} {K : (Ro → Nat) → Option Value → Rs → Prop}
theorem c_prepare (hG : gok G) {σ : Wd} (hW : RWo ρ σ) (k : ∀ ad ρ', RWo ρ' σ → RD ρ' σ → Ag PW ρ ρ' → K ad none ρ') : semV G r_Wo_prepare [23, 24, 30] (fun ad => [.ref (ad (1, 0, 0))]) ρ K := by
  refine semV_intro yk_Wo_prepare.2.2.2.2 (fun _ => Nat.le_of_ble_eq_true rfl) (fun M Q ad0 hM => ?_)
  obtain ⟨hT, hA12, hna, hA, h8, h3, h9⟩ := hW
  have key : ∀ d a ρ1, a + d = dA σ → Ag PW ρ ρ1 → RT ρ1 σ → iR ρ1 (1, 0, 0) 2 = nI (dA σ) → (∀ x, x < dA σ → RA ρ1 σ x) → RP ρ1 σ → ¬ iR ρ1 (1, 0, 0) 8 = 0 → (∀ x, x < dA σ → ¬ iR ρ1 (20, x, 0) 3 = 0 → RF ρ1 σ x) → (∀ x, x < a → RF ρ1 σ x) → Y G [23, 24, 30] ad0 M Q 21 (fun ad => [(0, .ref (ad (1, 0, 0))), (1, .int (nI a))]) (fun ad => []) ρ1 := by
    intro d
    induction d with
    | zero =>
      intro a ρ1 hd hag gT gna gA gP g8 g3 gF
      have ea : a = dA σ := by omega
      subst ea
      refine T_Wo_prepare_21 hG hM _ ρ1 ⟨fun _ => ?_, fun q => absurd (by rw [gna]; exact (nI_leI (by omega) (by omega)).mpr (Nat.le_refl _)) q⟩
      refine semV_n (fun hn => ?_)
      have h7 : nR ρ1 (30, 7, 0) < 2 ^ 31 := by have := hn (30, 7, 0) rfl; omega
      refine c_linkBack hG hA12 gT gna gA gP gF h7 (fun ad ρ2 l1 l2 l3 => ⟨rfl, fun ρ5 e5 ad => ?_⟩)
      have b1 : iR ρ2 (1, 0, 0) = iR ρ1 (1, 0, 0) := (l2 _ (by simp)).2.1
      have b5 : ∀ j, iR ρ5 (1, 0, 0) j = if j = 9 then 1 else iR ρ1 (1, 0, 0) j := by
        intro j; rw [e5, iR_pI, b1]; simp
      have a5 : Ag (fun q => q.1 = 24 ∨ q = (30, 7, 0) ∨ q = (1, 0, 0)) ρ1 ρ5 := by
        rw [e5]
        exact Ag_tr (Ag_mono l2 (fun q h => h.elim Or.inl (fun h => Or.inr (Or.inl h)))) (Ag_pI (Or.inr (Or.inr rfl)))
      have n5 : nR ρ5 = nR ρ1 := by rw [e5, nR_pI]; exact l3
      have T5 : RT ρ5 σ := RT_ag gT a5 (by rw [b5]; simp) (by rw [b5]; simp) (by simp) (by simp)
      have P5 : RP ρ5 σ := RP_ag gP a5 (by simp) (by rw [n5])
      have F5 : ∀ x, x < dA σ → RF ρ5 σ x := by
        intro x hx y hy
        have := gF x hx y hy
        rw [n5, (a5 (23, x, y) (by simp)).2.1]
        exact this
      have D5 : RD ρ5 σ := by
        refine ⟨P5, F5, ?_⟩
        obtain ⟨ch, hch⟩ := l1
        refine ⟨ch, fun x hx => ⟨?_, (hch x hx).2⟩⟩
        have e30 : iR ρ5 (30, 7, 0) x = iR ρ2 (30, 7, 0) x := by rw [e5, iR_pI, if_neg (by simp)]
        rw [e30]
        refine Lk_ag (P := fun q => q = (1, 0, 0)) (by rw [e5]; exact Ag_pI rfl) (fun _ _ => by simp) (hch x hx).1
      refine k ad ρ5 ⟨T5, hA12, by rw [b5]; simp [gna], fun x hx => RA_of (gA x hx) a5 (by rw [(a5 (20, x, 0) (by simp)).2.1]) (fun i j => by simp), fun _ => P5, fun x hx _ => F5 x hx, fun _ => D5⟩ D5 ?_
      refine Ag_tr hag (Ag_mono a5 (fun q h => ?_))
      rcases h with h | h | h
      · exact Or.inr (Or.inl h)
      · exact Or.inr (Or.inr (Or.inr (Or.inl h)))
      · exact Or.inr (Or.inr (Or.inr (Or.inr (Or.inr h))))
    | succ d ih =>
      intro a ρ1 hd hag gT gna gA gP g8 g3 gF
      have ha : a < dA σ := by omega
      have hin : vp_in (nI a) 12 := vp_in_nI (by omega) (by omega)
      refine T_Wo_prepare_21 hG hM _ ρ1 ⟨fun q => absurd (by rw [gna] at q; exact (nI_leI (by omega) (by omega)).mp q) (by omega), fun _ => ⟨hin, ?_⟩⟩
      rw [nI_clamp (by omega), nI_1]
      refine ⟨fun q => ⟨hin, ?_⟩, fun q => ?_⟩
      · refine c_fillRows hG (by omega) gT (gA a ha) gP (fun ad ρ2 r1 r2 r3 => ⟨rfl, ?_⟩)
        have b1 : iR ρ2 (1, 0, 0) = iR ρ1 (1, 0, 0) := (r3 _ (by simp)).2.1
        have b20 : ∀ x j, iR ρ2 (20, x, 0) j = if x = a ∧ j = 3 then 1 else iR ρ1 (20, x, 0) j := by
          intro x j
          by_cases e : x = a
          · subst e
            rw [r2]
            show (if j = 3 then (1 : Int32) else iR ρ1 (20, x, 0) j) = _
            by_cases ej : j = 3
            · simp [ej]
            · simp [ej]
          · rw [(r3 (20, x, 0) (by simp [e])).2.1, if_neg (fun z => e z.1)]
        have F2 : ∀ x, x < dA σ → x ≠ a → RF ρ1 σ x → RF ρ2 σ x := by
          intro x hx hne hf y hy
          have := hf y hy
          rw [(r3 (23, x, y) (by simp [hne])).1, (r3 (24, x, y) (by simp [hne])).1, (r3 (23, x, y) (by simp [hne])).2.1]
          exact this
        refine ih (a + 1) ρ2 (by omega) (Ag_tr hag (Ag_mono r3 (fun q h => ?_))) (RT_ag gT r3 (by rw [b1]) (by rw [b1]) (by simp) (by simp)) (by rw [b1]; exact gna) (fun x hx => RA_of (gA x hx) r3 (by rw [b20]; simp) (fun i j => by simp)) (RP_ag gP r3 (by simp) (r3 (30, 7, 0) (by simp)).1) (by rw [b1]; exact g8) (fun x hx hq => ?_) (fun x hx => ?_)
        · rcases h.1 with h | h | h
          · exact Or.inl h
          · exact Or.inr (Or.inl h)
          · exact Or.inr (Or.inr (Or.inr (Or.inr (Or.inl h))))
        · by_cases e : x = a
          · subst e; exact r1
          · rw [b20, if_neg (fun z => e z.1)] at hq
            exact F2 x hx e (g3 x hx hq)
        · by_cases e : x = a
          · subst e; exact r1
          · exact F2 x (by omega) e (gF x (by omega))
      · refine ih (a + 1) ρ1 (by omega) hag gT gna gA gP g8 g3 (fun x hx => ?_)
        by_cases e : x = a
        · subst e; exact g3 x ha q
        · exact gF x (by omega)
  refine T_Wo_prepare_0 hG hM ρ ⟨fun q9 => ⟨fun q8 => ?_, fun q8 => ?_⟩, fun q9 ad => k ad ρ ⟨hT, hA12, hna, hA, h8, h3, h9⟩ (h9 q9) Ag_rf⟩
  · refine c_fillPacked hG hT (fun ad ρ1 r1 r2 r3 r4 => ⟨rfl, ?_⟩)
    have b1 : ∀ j, iR ρ1 (1, 0, 0) j = if j = 8 then 1 else iR ρ (1, 0, 0) j := fun j => by rw [r3]; rfl
    refine key (dA σ) 0 ρ1 (by omega) (Ag_mono r4 (fun q h => ?_)) r1 (by rw [b1]; simp [hna]) (fun x hx => RA_of (hA x hx) r4 (by rw [(r4 (20, x, 0) (by simp)).2.1]) (fun i j => by simp)) r2 (by rw [b1]; simp) (fun x hx hq => ?_) (fun x hx => absurd hx (by omega))
    · rcases h with h | h | h
      · exact Or.inr (Or.inr (Or.inl h))
      · exact Or.inr (Or.inr (Or.inr (Or.inl h)))
      · exact Or.inr (Or.inr (Or.inr (Or.inr (Or.inr h))))
    · rw [(r4 (20, x, 0) (by simp)).2.1] at hq
      intro y hy
      have := h3 x hx hq y hy
      rw [(r4 (23, x, y) (by simp)).1, (r4 (24, x, y) (by simp)).1, (r4 (23, x, y) (by simp)).2.1]
      exact this
  · exact key (dA σ) 0 ρ (by omega) Ag_rf hT hna hA (h8 q8) q8 h3 (fun x hx => absurd hx (by omega))
end B11
