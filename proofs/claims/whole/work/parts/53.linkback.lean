/-! edges packed; all edges linked -/
section B10
variable {G : Gc} {ρ : Rs} {K : (Ro → Nat) → Option Value → Rs → Prop}
theorem c_edgeOf (hG : gok G) {a k s : Nat} (ha : a < 12) (hk : k < 4) (hs : s < 4096) (kk : ∀ ad, K ad (some (.int (nI (a * 16384 + k * 4096 + s)))) ρ) : semV G r_WP_edgeOf [] (fun _ => [.int (nI a), .int (nI k), .int (nI s)]) ρ K := by
  refine semV_intro yk_WP_edgeOf.2.2.2.2 (fun _ => Nat.le_of_ble_eq_true rfl) (fun M Q ad0 hM => ?_)
  refine T_WP_edgeOf_0 hG hM _ _ _ ρ ?_
  rw [pk_shlN _ 14 (by decide) (by omega), pk_shlN _ 12 (by decide) (by omega), nI_or, nI_or]
  have e1 : a * 2 ^ 14 ||| k * 2 ^ 12 = (a * 4 + k) * 2 ^ 12 := by
    rw [Nat.or_comm, or_add (by omega)]; omega
  have e2 : (a * 4 + k) * 2 ^ 12 ||| s = a * 16384 + k * 4096 + s := by
    rw [Nat.or_comm, or_add (by omega)]; omega
  rw [e1, e2]
  exact kk
theorem c_stateOf (hG : gok G) {e : Nat} (he : e < 2 ^ 31) (kk : ∀ ad, K ad (some (.int (nI (e % 4096)))) ρ) : semV G r_WP_stateOf [] (fun _ => [.int (nI e)]) ρ K := by
  refine semV_intro yk_WP_stateOf.2.2.2.2 (fun _ => Nat.le_of_ble_eq_true rfl) (fun M Q ad0 hM => ?_)
  refine T_WP_stateOf_0 hG hM _ ρ ?_
  rw [pk_andN (by omega) 12 (by decide)]
  exact kk
theorem c_actOf (hG : gok G) {e : Nat} (he : e < 2 ^ 31) (kk : ∀ ad, K ad (some (.int (nI (e / 16384)))) ρ) : semV G r_WP_actOf [] (fun _ => [.int (nI e)]) ρ K := by
  refine semV_intro yk_WP_actOf.2.2.2.2 (fun _ => Nat.le_of_ble_eq_true rfl) (fun M Q ad0 hM => ?_)
  refine T_WP_actOf_0 hG hM _ ρ ?_
  rw [pk_shrN he _ 14 (by decide)]
  exact kk
theorem c_outcomeOf (hG : gok G) {e : Nat} (he : e < 2 ^ 31) (kk : ∀ ad, K ad (some (.int (nI (e / 4096 % 4)))) ρ) : semV G r_WP_outcomeOf [] (fun _ => [.int (nI e)]) ρ K := by
  refine semV_intro yk_WP_outcomeOf.2.2.2.2 (fun _ => Nat.le_of_ble_eq_true rfl) (fun M Q ad0 hM => ?_)
  refine T_WP_outcomeOf_0 hG hM _ ρ ?_
  rw [pk_shrN he _ 12 (by decide), pk_andN (by omega) 2 (by decide)]
  exact kk
theorem c_nextInto (hG : gok G) {e : Nat} (ha : e / 16384 < 12) (hk : e / 4096 % 4 < 3) (hn : e % 4096 < nR ρ (24, e / 16384, e / 4096 % 4)) (kk : ∀ ad, K ad (some (.int (iR ρ (24, e / 16384, e / 4096 % 4) (e % 4096)))) ρ) : semV G r_Wo_nextInto [] (fun ad => [.ref (ad (1, 0, 0)), .int (nI e)]) ρ K := by
  refine semV_intro yk_Wo_nextInto.2.2.2.2 (fun _ => Nat.le_of_ble_eq_true rfl) (fun M Q ad0 hM => ?_)
  have he : e < 2 ^ 31 := by omega
  refine T_Wo_nextInto_0 hG hM _ ρ ?_
  rw [pk_shrN he _ 14 (by decide), pk_shrN he _ 12 (by decide), pk_andN (by omega) 2 (by decide), pk_andN (by omega) 12 (by decide)]
  have c1 : Int32.toNatClampNeg (nI (e / 2 ^ 14)) = e / 16384 := nI_clamp (by omega)
  have c2 : Int32.toNatClampNeg (nI (e / 2 ^ 12 % 2 ^ 2)) = e / 4096 % 4 := nI_clamp (by omega)
  have c3 : Int32.toNatClampNeg (nI (e % 2 ^ 12)) = e % 4096 := nI_clamp (by omega)
  rw [c1, c2, c3]
  exact ⟨vp_in_nI (by omega) (by omega), vp_in_nI (by omega) (by omega), in_nI hn (by omega), kk⟩
theorem RLc_mono {σ : Wd} {c c' : Nat} (h : RLc ρ σ c) (hcc : c ≤ c') (hno : ∀ e, vE σ e → c ≤ e → e < c' → False) : RLc ρ σ c' := by
  obtain ⟨ch, hch⟩ := h
  refine ⟨ch, fun x hx => ⟨(hch x hx).1, fun e => ?_, (hch x hx).2.2⟩⟩
  rw [(hch x hx).2.1 e]
  constructor
  · rintro ⟨g1, g2, g3⟩
    exact ⟨g1, by omega, g3⟩
  · rintro ⟨g1, g2, g3⟩
    refine ⟨g1, ?_, g3⟩
    by_cases hlt : e < c
    · exact hlt
    · exact (hno e g1 (by omega) g2).elim
theorem c_linkBack (hG : gok G) {σ : Wd} (hA12 : dA σ ≤ 12) (hT : RT ρ σ) (hna : iR ρ (1, 0, 0) 2 = nI (dA σ)) (hA : ∀ a, a < dA σ → RA ρ σ a) (hP : RP ρ σ) (hF : ∀ a, a < dA σ → RF ρ σ a) (h7 : nR ρ (30, 7, 0) < 2 ^ 31)
    (kk : ∀ ad ρ', RLc ρ' σ (dA σ * 16384) → Ag (fun q => q.1 = 24 ∨ q = (30, 7, 0)) ρ ρ' → nR ρ' = nR ρ → K ad none ρ') : semV G r_Wo_linkBack [] (fun ad => [.ref (ad (1, 0, 0))]) ρ K := by
  have h1 := hT.2.1
  have h4 := hT.2.2.2.1
  refine semV_intro yk_Wo_linkBack.2.2.2.2 (fun _ => Nat.le_of_ble_eq_true rfl) (fun M Q ad0 hM => ?_)
  refine T_Wo_linkBack_0 hG hM ρ ?_
  rw [h1]
  have hB : ∀ {ρ1 : Rs}, Ag (fun q => q.1 = 24 ∨ q = (30, 7, 0)) ρ ρ1 → nR ρ1 = nR ρ → RT ρ1 σ ∧ iR ρ1 (1, 0, 0) = iR ρ (1, 0, 0) ∧ (∀ a, a < dA σ → RA ρ1 σ a ∧ RF ρ1 σ a) ∧ RP ρ1 σ := by
    intro ρ1 h hn
    have b1 : iR ρ1 (1, 0, 0) = iR ρ (1, 0, 0) := (h _ (by simp)).2.1
    refine ⟨RT_ag hT h (by rw [b1]) (by rw [b1]) (by simp) (by simp), b1, fun a ha => ⟨?_, fun x hx => ?_⟩, ?_⟩
    · obtain ⟨o2, o1, o3, oc, ocok, oe⟩ := hA a ha
      exact ⟨by rw [(h (20, a, 0) (by simp)).2.1]; exact o2, o1, o3, Cls_ag oc h (by simp) (by simp) (by simp) (by simp), ocok, fun x hx => ⟨Cls_ag (oe x hx).1 h (by simp) (by simp) (by simp) (by simp), (oe x hx).2⟩⟩
    · have := hF a ha x hx
      rw [hn, (h (23, a, x) (by simp)).2.1]
      exact this
    · unfold RP
      rw [hn, (h (30, 6, 0) (by simp)).2.1]
      exact hP
  have key2 : ∀ d a k ρ1, k + d = dO σ a → a < dA σ → Ag (fun q => q.1 = 24 ∨ q = (30, 7, 0)) ρ ρ1 → nR ρ1 = nR ρ → RLc ρ1 σ (a * 16384 + k * 4096) → (∀ ρ2, Ag (fun q => q.1 = 24 ∨ q = (30, 7, 0)) ρ ρ2 → nR ρ2 = nR ρ → RLc ρ2 σ (a * 16384 + dO σ a * 4096) → Y G [] ad0 M Q 15 (fun ad => [(0, .ref (ad (1, 0, 0))), (1, .int (nI a + 1))]) (fun ad => []) ρ2) → Y G [] ad0 M Q 25 (fun ad => [(0, .ref (ad (1, 0, 0))), (1, .int (nI a)), (2, .int (nI k))]) (fun ad => []) ρ1 := by
    intro d
    induction d with
    | zero =>
      intro a k ρ1 hd ha hag hn hl hgo
      obtain ⟨t1, t2, t3, t4⟩ := hB hag hn
      have o2 := (t3 a ha).1.1
      have o3 := (t3 a ha).1.2.2.1
      refine T_Wo_linkBack_25 hG hM _ _ ρ1 ⟨vp_in_nI (by omega) (by omega), ?_⟩
      rw [nI_clamp (by omega), o2]
      have ek : k = dO σ a := by omega
      refine ⟨fun _ => hgo ρ1 hag hn (by rw [← ek]; exact hl), fun q => absurd ((nI_leI (by omega) (by omega)).mpr (by omega)) q⟩
    | succ d ih =>
      intro a k ρ1 hd ha hag hn hl hgo
      obtain ⟨t1, t2, t3, t4⟩ := hB hag hn
      obtain ⟨tA, tF⟩ := t3 a ha
      have o2 := tA.1
      have o3 := tA.2.2.1
      have hk : k < dO σ a := by omega
      have ha12 : a < 12 := by omega
      refine T_Wo_linkBack_25 hG hM _ _ ρ1 ⟨vp_in_nI ha12 (by omega), ?_⟩
      rw [nI_clamp (by omega), nI_clamp (by omega), o2]
      refine ⟨fun q => absurd ((nI_leI (by omega) (by omega)).mp q) (by omega), fun _ => ⟨vp_in_nI ha12 (by omega), vp_in_nI (by omega) (by omega), ?_⟩⟩
      refine c_edgeOf hG (s := 0) ha12 (by omega) (by omega) (fun ad => ⟨_, rfl, ?_⟩)
      rw [Nat.add_zero]
      refine c_linkOutcome hG ha12 ha hk t1 tA t4 tF hl (fun ad ρ2 g1 g2 g3 => ⟨rfl, ?_⟩)
      rw [nI_1]
      refine ih a (k + 1) ρ2 (by omega) ha (Ag_tr hag (Ag_mono g2 (fun q h => h.elim (fun h => Or.inl (by rw [h])) Or.inr))) (g3.trans hn) (RLc_mono g1 (by omega) (fun e ve ge le => ?_)) hgo
      have := ve.2.2
      omega
  have key1 : ∀ d a ρ1, a + d = dA σ → Ag (fun q => q.1 = 24 ∨ q = (30, 7, 0)) ρ ρ1 → nR ρ1 = nR ρ → RLc ρ1 σ (a * 16384) → Y G [] ad0 M Q 15 (fun ad => [(0, .ref (ad (1, 0, 0))), (1, .int (nI a))]) (fun ad => []) ρ1 := by
    intro d
    induction d with
    | zero =>
      intro a ρ1 hd hag hn hl
      have ea : a = dA σ := by omega
      subst ea
      have b1 : iR ρ1 (1, 0, 0) = iR ρ (1, 0, 0) := (hag _ (by simp)).2.1
      exact T_Wo_linkBack_15 hG hM _ ρ1 ⟨fun _ ad => kk ad ρ1 hl hag hn, fun q => absurd (by rw [b1, hna]; exact (nI_leI (by omega) (by omega)).mpr (Nat.le_refl _)) q⟩
    | succ d ih =>
      intro a ρ1 hd hag hn hl
      have b1 : iR ρ1 (1, 0, 0) = iR ρ (1, 0, 0) := (hag _ (by simp)).2.1
      refine T_Wo_linkBack_15 hG hM _ ρ1 ⟨fun q => absurd (by rw [b1, hna] at q; exact (nI_leI (by omega) (by omega)).mp q) (by omega), fun _ => ?_⟩
      have o3 := (hA a (by omega)).2.2.1
      refine key2 (dO σ a) a 0 ρ1 (by omega) (by omega) hag hn (by rw [Nat.zero_mul, Nat.add_zero]; exact hl) (fun ρ2 g1 g2 g3 => ?_)
      rw [nI_1]
      refine ih (a + 1) ρ2 (by omega) g1 g2 (RLc_mono g3 (by omega) (fun e ve ge le => ?_))
      have h2 := ve.2.1
      have h3 : e / 16384 = a := by omega
      rw [h3] at h2
      omega
  refine c_fill hG (g := (30, 7, 0)) (a := 0) (b := nS σ) rfl rfl (Nat.zero_le _) hP.2.1 h7 (fun ad => ⟨rfl, ?_⟩)
  refine key1 (dA σ) 0 _ (by omega) (Ag_uI (Or.inr rfl)) rfl ⟨fun _ => [], fun x hx => ⟨?_, fun e => ?_, List.nodup_nil⟩⟩
  · show upR (iR ρ) (30, 7, 0) _ (30, 7, 0) x = -1
    rw [uR_s]
    show (if 0 ≤ x ∧ x < nS σ then (-1 : Int32) else _) = -1
    rw [if_pos ⟨Nat.zero_le _, hx⟩]
  · constructor
    · intro h; cases h
    · rintro ⟨-, h, -⟩
      omega
end B10
