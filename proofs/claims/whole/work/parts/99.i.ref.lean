/-! THE REFERENCE: its relation to σ, its calls that build -/
def rwv (σ : Wd) (x : Nat) : Prop := x < dA σ ∨ x = 12 ∨ (13 ≤ x ∧ x < 13 + dP σ)
def MB (ρ : Rs) (σ : Wd) : Prop := MT ρ σ ∧ iR ρ (40, 0, 0) 2 = nI (dB σ) ∧ iR ρ (40, 0, 0) 3 = nI (dA σ) ∧ (∀ a, a < dA σ → iR ρ (41, 4, 0) a = nI (dO σ a)) ∧ (∀ x, rwv σ x → MCo ρ x (dC σ x)) ∧ (∀ a k, a < dA σ → k < dO σ a → MEf ρ (3 * a + k) (dE σ a k)) ∧ iR ρ (40, 0, 0) 9 = nI (dP σ)
/-- the rows are laid -/
def ML (ρ : Rs) (σ : Wd) : Prop := iR ρ (40, 0, 0) 13 = nI (nS σ) ∧ (∀ s x, s < nS σ → x < 3 * dA σ → iR ρ (41, 14, 0) (36 * s + x) = oI (nxX σ s x)) ∧ (∀ s, s < nS σ → iR ρ (41, 15, 0) s = bI (aimW σ s)) ∧ (∃ d, isDist σ d ∧ (∀ s n, s < nS σ → d s = some n → n < nS σ) ∧ ∀ s, s < nS σ → iR ρ (41, 19, 0) s = oI (d s)) ∧ (∀ w, 1 ≤ w → w ≤ 3 → ∃ d, isNo σ w d ∧ (∀ s n, d s = some n → s < nS σ ∧ n < nS σ) ∧ ∀ s, s < nS σ → iR ρ (41, 19 + w, 0) s = oI (d s))
/-- the pieces stand -/
def MP (ρ : Rs) (σ : Wd) : Prop := (∃ p : Nat → Nat, (∀ s, s < nS σ → iR ρ (41, 27, 0) s = nI (p s) ∧ p s < 4096) ∧ ∀ s t, s < nS σ → t < nS σ → (p s = p t ↔ alk σ s t)) ∧ ∃ f : Nat → Bool, (∀ s, s < nS σ → (f s = true ↔ isF (alk σ) s)) ∧ iR ρ (40, 0, 0) 32 = nI (cnt f (nS σ))
def RMo (ρ : Rs) (σ : Wd) : Prop := MB ρ σ ∧ (¬ iR ρ (40, 0, 0) 12 = 0 → ML ρ σ) ∧ (¬ iR ρ (40, 0, 0) 26 = 0 → MP ρ σ)
def PMo (q : Ro) : Prop := 40 ≤ q.1
theorem RMo_f {ρ ρ' : Rs} {τ : Wd} (h : MB ρ' τ) (hf : MFg ρ ρ') : RMo ρ' τ := ⟨h, fun z => absurd hf.1 z, fun z => absurd hf.2.1 z⟩
/-- behind forget -/
theorem MB_f {ρ ρ' : Rs} {τ : Wd} (h : MB ρ τ) (hf : MFg ρ ρ') (ha : Ag (fun q => q = (40, 0, 0)) ρ ρ') : MB ρ' τ := by
  obtain ⟨hT, h2, h3, h4, h5, h6, h9⟩ := h
  obtain ⟨f1, f2, f3⟩ := hf
  refine ⟨⟨by rw [f3 0 (by omega) (by omega)]; exact hT.1, hT.2.1, hT.2.2.1, hT.2.2.2.1, by rw [(ha (41, 1, 0) (by simp)).2.1]; exact hT.2.2.2.2⟩, by rw [f3 2 (by omega) (by omega)]; exact h2, by rw [f3 3 (by omega) (by omega)]; exact h3, by rw [(ha (41, 4, 0) (by simp)).2.1]; exact h4, fun x hx => MCo_ag (h5 x hx) ha (by simp) (by simp), fun a k h1 h2 => MEf_ag (h6 a k h1 h2) ha (by simp) (by simp), by rw [f3 9 (by omega) (by omega)]; exact h9⟩
theorem nxX_same {σ τ : Wd} {s x : Nat} (h : EqC σ τ) (hx : x < 3 * dA σ) : nxX τ s x = nxX σ s x := by
  unfold nxX
  rw [h.2.2.2.1, eq_nx h (by omega)]
theorem ML_eq {ρ : Rs} {σ τ : Wd} (h : EqC σ τ) (hB : dB τ = dB σ) (h12 : dC τ 12 = dC σ 12) (hm : ML ρ σ) : ML ρ τ := by
  obtain ⟨m1, m2, m3, ⟨d, m4, m5, m6⟩, m7⟩ := hm
  unfold ML
  rw [eq_nS h, eq_aim h h12, h.2.2.1]
  refine ⟨m1, fun s x hs hx => by rw [nxX_same h hx]; exact m2 s x hs hx, m3, ⟨d, eq_dist h hB m4, m5, m6⟩, fun w w1 w2 => ?_⟩
  obtain ⟨e, n1, n2, n3⟩ := m7 w w1 w2
  exact ⟨e, eq_No h h12 n1, n2, n3⟩
theorem MP_eq {ρ : Rs} {σ τ : Wd} (h : EqC σ τ) (h12 : dC τ 12 = dC σ 12) (hm : MP ρ σ) : MP ρ τ := by
  unfold MP at *
  rw [eq_nS h, eq_alk h h12]; exact hm
theorem MCo_nil {ρ : Rs} {x : Nat} (h : iR ρ (41, 5, 0) x = 0) : MCo ρ x [] := ⟨by simp, by rw [h]; rfl, fun y c hc => by simp at hc⟩
theorem MEf_nil {ρ : Rs} {x : Nat} (h : iR ρ (41, 7, 0) x = 0) : MEf ρ x [] := ⟨by simp, by rw [h]; rfl, fun y c hc => by simp at hc⟩
/-- a length put to another row: this one stays -/
theorem MCo_pI {ρ : Rs} {x y : Nat} {v : Int32} {L : List Ce} (h : MCo ρ x L) (hne : x ≠ y) : MCo (pI ρ (41, 5, 0) y v) x L := by
  obtain ⟨a, b, c⟩ := h
  refine ⟨a, by rw [iR_pI, if_neg (fun z => hne z.2)]; exact b, fun z d hd => ?_⟩
  rw [iR_pI, if_neg (by simp), iR_pI, if_neg (by simp), iR_pI, if_neg (by simp)]; exact c z d hd
theorem MEf_pI {ρ : Rs} {x y : Nat} {v : Int32} {L : List Ce} (h : MEf ρ x L) (hne : x ≠ y) : MEf (pI ρ (41, 7, 0) y v) x L := by
  obtain ⟨a, b, c⟩ := h
  refine ⟨a, by rw [iR_pI, if_neg (fun z => hne z.2)]; exact b, fun z d hd => ?_⟩
  rw [iR_pI, if_neg (by simp), iR_pI, if_neg (by simp), iR_pI, if_neg (by simp)]; exact c z d hd
theorem MCo_p {ρ : Rs} {x k : Nat} {r : Ro} {v : Int32} {L : List Ce} (h : MCo ρ x L) (h5 : r ≠ (41, 5, 0)) (h6 : r ≠ (41, 6, 0)) : MCo (pI ρ r k v) x L := MCo_ag (P := fun q => q = r) h (Ag_pI rfl) (fun z => h5 z.symm) (fun z => h6 z.symm)
theorem MEf_p {ρ : Rs} {x k : Nat} {r : Ro} {v : Int32} {L : List Ce} (h : MEf ρ x L) (h5 : r ≠ (41, 7, 0)) (h6 : r ≠ (41, 8, 0)) : MEf (pI ρ r k v) x L := MEf_ag (P := fun q => q = r) h (Ag_pI rfl) (fun z => h5 z.symm) (fun z => h6 z.symm)
section B49
variable {G : Gc} {ρ : Rs} {K : (Ro → Nat) → Option Value → Rs → Prop}
theorem cM_clear (hG : gok G) {σ : Wd} (h : RMo ρ σ) (k : ∀ ad ρ' r τ, RMo ρ' τ → trClear σ r τ → Ag PMo ρ ρ' → K ad (some (.int r)) ρ') : semV G r_Mo_clear [] (fun ad => [.ref (ad (40, 0, 0))]) ρ K := by
  obtain ⟨⟨hT, h2, h3, h4, h5, h6, h9⟩, -, -⟩ := h
  refine semV_intro yk_Mo_clear.2.2.2.2 (fun _ => Nat.le_of_ble_eq_true rfl) (fun M Q ad0 hM => ?_)
  refine T_Mo_clear_0 hG hM ρ (fun ρ1 e1 ρ2 e2 ρ3 e3 ρ4 e4 => ⟨vp_in_nI (n := 12) (by omega) (by omega), ?_⟩)
  rw [show Int32.toNatClampNeg 12 = 12 from rfl]
  intro ρ5 e5
  have a5 : Ag PMo ρ ρ5 := by
    rw [e5, e4, e3, e2, e1]
    exact Ag_tr (Ag_pI (by unfold PMo; decide)) (Ag_tr (Ag_pI (by unfold PMo; decide)) (Ag_tr (Ag_pI (by unfold PMo; decide)) (Ag_tr (Ag_pI (by unfold PMo; decide)) (Ag_pI (by unfold PMo; decide)))))
  refine c_forget hG (fun ad ρ6 f1 f2 => ⟨rfl, fun ad => ?_⟩)
  refine k ad ρ6 _ (sClear σ) (RMo_f (MB_f ⟨⟨?_, ?_, ?_, ?_, ?_⟩, ?_, ?_, ?_, ?_, ?_, ?_⟩ f1 f2) f1) ⟨hT.1, rfl⟩ (Ag_tr a5 (Ag_mono f2 (fun q h => by rw [h]; unfold PMo; decide)))
  · rw [e5, iR_pI, if_neg (by simp), e4, iR_pI, if_neg (by simp), e3, iR_pI, if_neg (by simp), e2, iR_pI, if_neg (by simp), e1, iR_pI, if_pos ⟨rfl, rfl⟩]; rfl
  · show 0 ≤ 8; omega
  · show 1 ≤ 4096; omega
  · intro t ht; exact absurd ht (Nat.not_lt_zero _)
  · intro t ht; exact absurd ht (Nat.not_lt_zero _)
  · rw [e5, iR_pI, if_neg (by simp), e4, iR_pI, if_neg (by simp), e3, iR_pI, if_neg (by simp), e2, iR_pI, if_pos ⟨rfl, rfl⟩]; rfl
  · rw [e5, iR_pI, if_neg (by simp), e4, iR_pI, if_neg (by simp), e3, iR_pI, if_pos ⟨rfl, rfl⟩]; rfl
  · intro a ha; exact absurd ha (Nat.not_lt_zero _)
  · rintro x (hx | hx | hx)
    · exact absurd hx (Nat.not_lt_zero _)
    · rw [hx]
      show MCo ρ5 12 (va_up (dC σ) 12 [] 12)
      rw [ups]
      exact MCo_nil (by rw [e5, iR_pI, if_pos ⟨rfl, rfl⟩])
    · have hx : 13 ≤ x ∧ x < 13 + 0 := hx
      omega
  · intro a kk ha; exact absurd ha (Nat.not_lt_zero _)
  · rw [e5, iR_pI, if_neg (by simp), e4, iR_pI, if_pos ⟨rfl, rfl⟩]; rfl
theorem cM_start (hG : gok G) {σ : Wd} {v : Int32} (h : RMo ρ σ) (hB : dB σ < nS σ) (k : ∀ ad ρ' r τ, RMo ρ' τ → trStart σ v r τ → Ag PMo ρ ρ' → K ad (some (.int r)) ρ') : semV G r_Mo_start [] (fun ad => [.ref (ad (40, 0, 0)), .int v]) ρ K := by
  have h0 := h
  obtain ⟨⟨hT, h2, h3, h4, h5, h6, h9⟩, -, -⟩ := h
  have hN := hT.2.2.1
  refine semV_intro yk_Mo_start.2.2.2.2 (fun _ => Nat.le_of_ble_eq_true rfl) (fun M Q ad0 hM => ?_)
  refine T_Mo_start_0 hG hM _ ρ ?_
  refine c_Mo_isState hG hT (fun hv ad => ⟨_, rfl, fun z => absurd z (by decide), fun _ ρ5 e5 => ?_⟩) (fun hv ad => ⟨_, rfl, fun _ ad => k ad ρ _ σ h0 (Or.inl ⟨hv, rfl, rfl⟩) Ag_rf, fun z => absurd rfl z⟩)
  obtain ⟨s, hs, ev⟩ := vp_in_of hv (by omega)
  subst ev
  have a5 : Ag (fun q => q = (40, 0, 0)) ρ ρ5 := by rw [e5]; exact Ag_pI rfl
  have i5 : ∀ j, j ≠ 2 → iR ρ5 (40, 0, 0) j = iR ρ (40, 0, 0) j := fun j hj => by rw [e5, iR_pI, if_neg (fun z => hj z.2)]
  refine c_forget hG (fun ad ρ6 f1 f2 => ⟨rfl, fun ad => ?_⟩)
  rw [h2]
  refine k ad ρ6 _ (sStart σ s) (RMo_f (MB_f ⟨⟨by rw [i5 0 (by omega)]; exact hT.1, hT.2.1, hT.2.2.1, hT.2.2.2.1, by rw [(a5 (41, 1, 0) (by simp)).2.1]; exact hT.2.2.2.2⟩, by rw [e5, iR_pI, if_pos ⟨rfl, rfl⟩]; rfl, by rw [i5 3 (by omega)]; exact h3, by rw [(a5 (41, 4, 0) (by simp)).2.1]; exact h4, fun x hx => MCo_ag (h5 x hx) a5 (by simp) (by simp), fun a kk q1 q2 => MEf_ag (h6 a kk q1 q2) a5 (by simp) (by simp), by rw [i5 9 (by omega)]; exact h9⟩ f1 f2) f1) (Or.inr ⟨s, hs, rfl, rfl, rfl⟩) (Ag_tr (Ag_mono a5 (fun q h => by rw [h]; unfold PMo; decide)) (Ag_mono f2 (fun q h => by rw [h]; unfold PMo; decide)))
theorem cM_thing (hG : gok G) {σ : Wd} {v : Int32} (h : RMo ρ σ) (hW : Wok σ) (k : ∀ ad ρ' r τ, RMo ρ' τ → trThing σ v r τ → Ag PMo ρ ρ' → K ad (some (.int r)) ρ') : semV G r_Mo_thing [] (fun ad => [.ref (ad (40, 0, 0)), .int v]) ρ K := by
  have h0 := h
  obtain ⟨⟨hT, h2, h3, h4, h5, h6, h9⟩, -, -⟩ := h
  have hN := hT.2.2.1
  have h8 := hT.2.1
  have h12 := hW.2.2.2.2.1
  have hP6 := hW.2.2.2.2.2.2.1
  have hc12 := h5 12 (Or.inr (Or.inl rfl))
  have hl4 := hc12.1
  have in24 : (¬ v < 2 ∧ ¬ 4 < v) ↔ ∃ z, 2 ≤ z ∧ z ≤ 4 ∧ v = nI z := by
    rw [Int32.lt_iff_toInt_lt, Int32.lt_iff_toInt_lt]
    have e1 : (2 : Int32).toInt = 2 := rfl
    have e2 : (4 : Int32).toInt = 4 := rfl
    rw [e1, e2]
    constructor
    · rintro ⟨h1, h2⟩
      obtain ⟨j, hj, e⟩ := vp_in_of (x := v) (n := 5) (vp_in_iff.mpr ⟨by omega, by omega⟩) (by omega)
      rw [e, nI_toInt (by omega)] at h1 h2
      exact ⟨j, by omega, by omega, e⟩
    · rintro ⟨x, h1, h2, e⟩
      rw [e, nI_toInt (by omega)]; omega
  refine semV_intro yk_Mo_thing.2.2.2.2 (fun _ => Nat.le_of_ble_eq_true rfl) (fun M Q ad0 hM => ?_)
  have bad : (¬ ∃ z, okTh σ v z) → ∀ ad, K ad (some (.int (-2))) ρ := fun hno ad => k ad ρ _ σ h0 (Or.inl ⟨hno, rfl, rfl⟩) Ag_rf
  refine T_Mo_thing_0 hG hM _ ρ ?_
  refine c_isIn hG (fun hin ad => ⟨_, rfl, fun z => absurd z (by decide), fun _ => ?_⟩) (fun hin ad => ⟨_, rfl, fun _ => bad (fun ⟨x, o1, o2, o3, _⟩ => hin (in24.mpr ⟨x, o1, o2, o3⟩)), fun z => absurd rfl z⟩)
  obtain ⟨x, x1, x2, ev⟩ := in24.mp hin
  subst ev
  rw [h3, h9, show Int32.toNatClampNeg 12 = 12 from rfl, hc12.2.1, hT.1]
  refine ⟨fun q => bad (fun ⟨w, o1, o2, o3, o4, _⟩ => ?_), fun q => ⟨fun q2 => bad (fun ⟨w, o1, o2, o3, o4, o5, o6⟩ => ?_), fun q2 => ⟨vp_in_nI (n := 12) (by omega) (by omega), fun q3 => ?_, fun q3 => bad (fun ⟨w, o1, o2, o3, o4, o5, o6⟩ => ?_)⟩⟩⟩
  · have := (nI_ltI (a := 0) (by decide) (by omega)).mp q; omega
  · have := (nI_ltI (a := 0) (by decide) (by omega)).mp q2; omega
  · have hA0 : dA σ = 0 := by
      rcases Nat.eq_zero_or_pos (dA σ) with p | p
      · exact p
      · exact absurd ((nI_ltI (a := 0) (by decide) (by omega)).mpr p) q
    have hP0 : dP σ = 0 := by
      rcases Nat.eq_zero_or_pos (dP σ) with p | p
      · exact p
      · exact absurd ((nI_ltI (a := 0) (by decide) (by omega)).mpr p) q2
    have hC0 : dC σ 12 = [] := by
      have := (nI_leI (b := 0) (by omega) (by decide)).mp q3
      exact List.eq_nil_of_length_eq_zero (by omega)
    have ok : okTh σ (nI x) x := ⟨x1, x2, rfl, hA0, hP0, hC0⟩
    have full : ¬ (dT σ < 8 ∧ nS σ * x ≤ 4096) → ∀ ad, K ad (some (.int (-3))) ρ := fun hno ad => k ad ρ _ σ h0 (Or.inr ⟨x, ok, Or.inl ⟨hno, rfl, rfl⟩⟩) Ag_rf
    have hmul : nS σ * x ≤ 16384 := by
      have := Nat.mul_le_mul hN x2
      omega
    have e8 : (nI (dT σ) = (8 : Int32)) ↔ dT σ = 8 := nI_eq (b := 8) (by omega) (by decide)
    rw [e8]
    refine ⟨fun p => full (fun w => by omega), fun p => ?_⟩
    refine c_Mo_states hG hT (fun ad => ⟨_, rfl, ?_⟩)
    have e4 : (nI (nS σ * x) ≤ (4096 : Int32)) ↔ nS σ * x ≤ 4096 := nI_leI (b := 4096) (by omega) (by decide)
    rw [pk_mul, e4, hT.1, nI_clamp (by omega)]
    refine ⟨fun p2 => ⟨vp_in_nI (by omega) (by omega), fun ρ10 e10 ρ11 e11 => ?_⟩, fun p2 => full (fun w => p2 w.2)⟩
    have q10 : iR ρ10 (40, 0, 0) 0 = nI (dT σ) := by rw [e10, iR_pI, if_neg (by simp)]; exact hT.1
    rw [q10, nI_1] at e11
    have a11 : Ag (fun q => q = (41, 1, 0) ∨ q = (40, 0, 0)) ρ ρ11 := by rw [e11, e10]; exact Ag_tr (Ag_pI (Or.inl rfl)) (Ag_pI (Or.inr rfl))
    have i11 : ∀ j, iR ρ11 (40, 0, 0) j = if j = 0 then nI (dT σ + 1) else iR ρ (40, 0, 0) j := fun j => by rw [e11, iR_pI, e10, iR_pI]; simp
    have r1 : ∀ t, iR ρ11 (41, 1, 0) t = if t = dT σ then nI x else iR ρ (41, 1, 0) t := fun t => by rw [e11, iR_pI, e10, iR_pI]; simp
    have eN : nS (sThing σ x) = nS σ * x := by
      show wtf (va_up (dS σ) (dT σ) x) (dT σ) * va_up (dS σ) (dT σ) x (dT σ) = wtf (dS σ) (dT σ) * x
      rw [wtf_up (Nat.le_refl _), ups]
    refine c_forget hG (fun ad ρ12 f1 f2 => ⟨rfl, fun ad => ?_⟩)
    have hr : iR ρ12 (40, 0, 0) 0 = nI (dT σ + 1) := by rw [f1.2.2 0 (by omega) (by omega), i11]; simp
    rw [hr, nI_pred]
    refine k ad ρ12 _ (sThing σ x) (RMo_f (MB_f ⟨⟨?_, ?_, ?_, ?_, ?_⟩, ?_, ?_, ?_, ?_, ?_, ?_⟩ f1 f2) f1) (Or.inr ⟨x, ok, Or.inr ⟨by omega, p2, rfl, rfl⟩⟩) (Ag_tr (Ag_mono a11 (fun q h => by rcases h with h | h <;> rw [h] <;> (unfold PMo; decide))) (Ag_mono f2 (fun q h => by rw [h]; unfold PMo; decide)))
    · rw [i11]; simp; rfl
    · show dT σ + 1 ≤ 8; omega
    · rw [eN]; exact p2
    · intro t ht
      have ht : t < dT σ + 1 := ht
      show 2 ≤ va_up (dS σ) (dT σ) x t ∧ va_up (dS σ) (dT σ) x t ≤ 4
      by_cases e : t = dT σ
      · rw [e, ups]; omega
      · rw [upn e]; exact hT.2.2.2.1 t (by omega)
    · intro t ht
      have ht : t < dT σ + 1 := ht
      show iR ρ11 (41, 1, 0) t = nI (va_up (dS σ) (dT σ) x t)
      rw [r1]
      by_cases e : t = dT σ
      · rw [if_pos e, e, ups]
      · rw [if_neg e, upn e]; exact hT.2.2.2.2 t (by omega)
    · rw [i11]; simp; exact h2
    · rw [i11]; simp; exact h3
    · intro a ha
      have ha : a < dA σ := ha
      omega
    · rintro y (hy | hy | hy)
      · have hy : y < dA σ := hy
        omega
      · rw [hy]; exact MCo_ag hc12 a11 (by simp) (by simp)
      · have hy : 13 ≤ y ∧ y < 13 + dP σ := hy
        omega
    · intro a kk ha
      have ha : a < dA σ := ha
      omega
    · rw [i11]; simp; exact h9
  · have := (nI_leI (b := 0) (by omega) (by decide)).mpr (show (dC σ 12).length ≤ 0 by rw [o6]; simp)
    exact q3 this
theorem cM_act (hG : gok G) {σ : Wd} (h : RMo ρ σ) (h12 : dA σ ≤ 12) (hP6 : dP σ ≤ 6) (h3' : ∀ a, a < dA σ → dO σ a ≤ 3) (k : ∀ ad ρ' r τ, RMo ρ' τ → trAct σ r τ → Ag PMo ρ ρ' → K ad (some (.int r)) ρ') : semV G r_Mo_act [] (fun ad => [.ref (ad (40, 0, 0))]) ρ K := by
  have h0 := h
  obtain ⟨⟨hT, h2, h3, h4, h5, h6, h9⟩, -, -⟩ := h
  refine semV_intro yk_Mo_act.2.2.2.2 (fun _ => Nat.le_of_ble_eq_true rfl) (fun M Q ad0 hM => ?_)
  refine T_Mo_act_0 hG hM ρ ?_
  have e12 : (nI (dA σ) = (12 : Int32)) ↔ dA σ = 12 := nI_eq (b := 12) (by omega) (by decide)
  rw [h3, e12, nI_clamp (by omega)]
  refine ⟨fun z ad => k ad ρ _ σ h0 (Or.inl ⟨z, rfl, rfl⟩) Ag_rf, fun z => ⟨vp_in_nI (by omega) (by omega), fun ρ1 e1 => ?_⟩⟩
  have q1 : iR ρ1 (40, 0, 0) 3 = nI (dA σ) := by rw [e1, iR_pI, if_neg (by simp)]; exact h3
  rw [q1, nI_clamp (by omega)]
  refine ⟨vp_in_nI (by omega) (by omega), fun ρ2 e2 => ?_⟩
  have q2 : iR ρ2 (40, 0, 0) 3 = nI (dA σ) := by rw [e2, iR_pI, if_neg (by simp)]; exact q1
  have em : (3 : Int32) * nI (dA σ) = nI (3 * dA σ) := pk_mul 3 (dA σ)
  rw [q2, em, nI_clamp (by omega)]
  refine ⟨vp_in_nI (by omega) (by omega), fun ρ3 e3 ρ4 e4 => ?_⟩
  have q3 : iR ρ3 (40, 0, 0) 3 = nI (dA σ) := by rw [e3, iR_pI, if_neg (by simp)]; exact q2
  rw [q3, nI_1] at e4
  have i4 : ∀ j, iR ρ4 (40, 0, 0) j = if j = 3 then nI (dA σ + 1) else iR ρ (40, 0, 0) j := fun j => by rw [e4, iR_pI, e3, iR_pI, e2, iR_pI, e1, iR_pI]; simp
  have a4 : Ag (fun q => q = (41, 4, 0) ∨ q = (41, 5, 0) ∨ q = (41, 7, 0) ∨ q = (40, 0, 0)) ρ ρ4 := by
    rw [e4, e3, e2, e1]
    exact Ag_tr (Ag_pI (Or.inl rfl)) (Ag_tr (Ag_pI (Or.inr (Or.inl rfl))) (Ag_tr (Ag_pI (Or.inr (Or.inr (Or.inl rfl)))) (Ag_pI (Or.inr (Or.inr (Or.inr rfl))))))
  refine c_forget hG (fun ad ρ5 f1 f2 => ⟨rfl, fun ad => ?_⟩)
  have hr : iR ρ5 (40, 0, 0) 3 = nI (dA σ + 1) := by rw [f1.2.2 3 (by omega) (by omega), i4]; simp
  rw [hr, nI_pred]
  refine k ad ρ5 _ (sAct σ) (RMo_f (MB_f ⟨⟨?_, hT.2.1, hT.2.2.1, hT.2.2.2.1, ?_⟩, ?_, ?_, ?_, ?_, ?_, ?_⟩ f1 f2) f1) (Or.inr ⟨by omega, rfl, rfl⟩) (Ag_tr (Ag_mono a4 (fun q h => by rcases h with h | h | h | h <;> rw [h] <;> (unfold PMo; decide))) (Ag_mono f2 (fun q h => by rw [h]; unfold PMo; decide)))
  · rw [i4]; simp; exact hT.1
  · rw [(a4 (41, 1, 0) (by simp)).2.1]; exact hT.2.2.2.2
  · rw [i4]; simp; exact h2
  · rw [i4]; simp; rfl
  · intro a ha
    have ha : a < dA σ + 1 := ha
    show iR ρ4 (41, 4, 0) a = nI (va_up (dO σ) (dA σ) 1 a)
    rw [e4, iR_pI, if_neg (by simp), e3, iR_pI, if_neg (by simp), e2, iR_pI, if_neg (by simp), e1, iR_pI]
    by_cases e : a = dA σ
    · rw [if_pos ⟨rfl, e⟩, e, ups]; rfl
    · rw [if_neg (fun w => e w.2), upn e]; exact h4 a (by omega)
  · intro x hx
    show MCo ρ4 x (va_up (dC σ) (dA σ) [] x)
    by_cases e : x = dA σ
    · rw [e, ups]
      refine MCo_nil ?_
      rw [e4, iR_pI, if_neg (by simp), e3, iR_pI, if_neg (by simp), e2, iR_pI, if_pos ⟨rfl, rfl⟩]
    · rw [upn e]
      have hx2 : rwv σ x := by
        rcases hx with w | w | w
        · have w : x < dA σ + 1 := w
          exact Or.inl (by omega)
        · exact Or.inr (Or.inl w)
        · exact Or.inr (Or.inr w)
      rw [e4, e3, e2, e1]
      exact MCo_p (MCo_p (MCo_pI (MCo_p (h5 x hx2) (by decide) (by decide)) e) (by decide) (by decide)) (by decide) (by decide)
  · intro a kk ha hk
    have ha : a < dA σ + 1 := ha
    have hk : kk < va_up (dO σ) (dA σ) 1 a := hk
    show MEf ρ4 (3 * a + kk) (if a = dA σ ∧ kk = 0 then [] else dE σ a kk)
    by_cases e : a = dA σ
    · rw [e, ups] at hk
      rw [if_pos ⟨e, by omega⟩, e, show kk = 0 by omega, Nat.add_zero]
      refine MEf_nil ?_
      rw [e4, iR_pI, if_neg (by simp), e3, iR_pI, if_pos ⟨rfl, rfl⟩]
    · rw [upn e] at hk
      rw [if_neg (fun w => e w.1), e4, e3, e2, e1]
      have := h3' a (by omega)
      exact MEf_p (MEf_pI (MEf_p (MEf_p (h6 a kk (by omega) hk) (by decide) (by decide)) (by decide) (by decide)) (by omega)) (by decide) (by decide)
  · rw [i4]; simp; exact h9
end B49
