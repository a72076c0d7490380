/-! THE CLASS BUILDS: cover, part, bare -/
section B45
variable {G : Gc} {ρ : Rs} {K : (Ro → Nat) → Option Value → Rs → Prop}
/-- a store that agrees off the cover and its clauses: all is kept but the judgement -/
theorem RC_cv {ρ ρ' : Rs} {σ τ : Wd} {B : Nat} {st : Nat → Nat} {P : Ro → Prop} (g2 : RWo ρ σ) (g3 : RG ρ σ) (g6 : KRm (nR ρ)) (g5 : iR ρ (0, 0, 0) 8 = nI (dB σ)) (s1 : RSp ρ st) (s2 : ∀ i, i ≤ 12 → st i ≤ st 0) (s3 : st 0 ≤ B) (hv : RVd ρ σ st) (ha : Ag P ρ ρ') (hP : ∀ q, P q → (10 ≤ q.1 ∧ q.1 ≤ 13 ∧ q.2.1 = 1) ∨ q = (3, 0, 0)) (hl : lR ρ' (3, 0, 0) = lR ρ (3, 0, 0)) (eq : EqC σ τ) (hB : dB τ = dB σ) (h12 : dC τ 12 = dC σ 12) (hw : Wok τ) (hc : RCv ρ' τ) : RC (pL ρ' (4, 0, 0) 0 (lR ρ' (4, 0, 0) 0 + 1)) τ (B + 1) := by
  obtain ⟨v1, v2, v3, v4, -, -⟩ := hv
  have n : ∀ q : Ro, (q.1 < 10 ∨ 13 < q.1 ∨ q.2.1 ≠ 1) → q ≠ (3, 0, 0) → ¬ P q := fun q h1 h2 z => by
    rcases hP q z with y | y
    · omega
    · exact h2 y
  have A := fun q h1 h2 => ha q (n q h1 h2)
  have core : RCo ρ' τ := by
    refine ⟨hw, eq_RWo eq (RWo_g g2 ha (fun q hq => ?_)), ?_, hc, by rw [(A (0, 0, 0) (by simp) (by simp)).2.1, hB]; exact g5, KRm_of g6 (fun f => (A (34, f, 0) (by simp) (by simp)).1)⟩
    · rcases hP q hq with y | y
      · refine ⟨by omega, by omega, by omega, fun _ => by omega⟩
      · rw [y]; simp
    · unfold RG
      rw [h12, eq.1]
      exact RG_ag g3 ha ⟨n _ (by simp) (by simp), n _ (by simp) (by simp), n _ (by simp) (by simp), n _ (by simp) (by simp)⟩
  refine RC_C core (RSp_ag s1 (A (4, 0, 0) (by simp) (by simp)).2.2 (A (5, 0, 0) (by simp) (by simp)).2.2 (A (6, 0, 0) (by simp) (by simp)).2.2 (A (33, 6, 0) (by simp) (by simp)).2.2 (A (7, 0, 0) (by simp) (by simp)).2.2 (A (0, 0, 0) (by simp) (by simp)).2.2 hl) s2 s3 (fun a b => ?_) (fun a b => ?_) (fun i i1 i2 a b => ?_) (fun a b => ?_)
  · exact eq_RSt eq hB (RSt_of (v1 a b) (A (32, 0, 0) (by simp) (by simp)).1 (A (32, 0, 0) (by simp) (by simp)).2.1 (A (32, 1, 0) (by simp) (by simp)).1 (A (32, 1, 0) (by simp) (by simp)).2.2 (by rw [(A (5, 0, 0) (by simp) (by simp)).2.1]))
  · exact eq_RM eq h12 (RM_of (v2 a b) (A (33, 0, 0) (by simp) (by simp)).1 (A (33, 0, 0) (by simp) (by simp)).2.1 (by rw [(A (6, 0, 0) (by simp) (by simp)).2.1]))
  · have hg : (gNo i).1 = 33 := by unfold gNo; split <;> (try split) <;> rfl
    have hg2 : gNo i ≠ (3, 0, 0) := fun z => by rw [z] at hg; exact absurd hg (by decide)
    exact eq_RNu eq h12 (RNu_of (v3 i i1 i2 a b) (A (gNo i) (by omega) hg2).1 (A (gNo i) (by omega) hg2).2.1)
  · exact eq_RKd eq h12 (RKd_of (v4 a b) (A (34, 2, 0) (by simp) (by simp)).1 (A (34, 2, 0) (by simp) (by simp)).2.1 (A (34, 3, 0) (by simp) (by simp)).1 (A (34, 3, 0) (by simp) (by simp)).2.1 (by rw [(A (7, 0, 0) (by simp) (by simp)).2.1]))
theorem c_cover (hG : gok G) {σ : Wd} {B : Nat} (h : RC ρ σ B) (k : ∀ ad ρ' r τ, RC ρ' τ (B + 1) → trCover σ r τ → Ag PCl ρ ρ' → K ad (some (.int r)) ρ') : semV G r_WP_cover [] (fun ad => [.ref (ad (0, 0, 0))]) ρ K := by
  have h0 := h
  obtain ⟨g1, g2, g3, g4, g5, g6, st, s1, s2, s3, hv⟩ := h
  have h6 := g4.2.1
  refine semV_intro yk_WP_cover.2.2.2.2 (fun _ => Nat.le_of_ble_eq_true rfl) (fun M Q ad0 hM => ?_)
  refine T_WP_cover_0 hG hM ρ ?_
  refine semV_intro yk_Co_addPart.2.2.2.2 (fun _ => Nat.le_of_ble_eq_true rfl) (fun M2 Q2 ad2 hM2 => ?_)
  refine T_Co_addPart_0 hG hM2 ρ ?_
  rw [g4.1, nI_clamp (by omega)]
  have e6 : (nI (dP σ) < (6 : Int32)) ↔ dP σ < 6 := nI_ltI (b := 6) (by omega) (by decide)
  rw [e6]
  refine ⟨fun z => ⟨vp_in_nI (by omega) (by omega), fun ρ2 e2 ρ3 e3 ad => ⟨_, rfl, fun y => ?_, fun _ => ?_⟩⟩, fun z ad => ⟨_, rfl, fun _ ad => k ad ρ _ σ (RC_le h0 (by omega)) (Or.inl ⟨by omega, rfl, rfl⟩) Ag_rf, fun y => absurd rfl y⟩⟩
  · exfalso
    have q2 : iR ρ2 (3, 0, 0) 0 = nI (dP σ) := by rw [e2, iR_pI, if_neg (by simp)]; exact g4.1
    have q3 : iR ρ3 (3, 0, 0) 0 = nI (dP σ + 1) := by rw [e3, iR_pI, if_pos ⟨rfl, rfl⟩, q2, nI_1]
    rw [q3, nI_pred] at y
    have e := congrArg Int32.toInt y
    rw [nI_toInt (by omega)] at e
    have e4 : (-3 : Int32).toInt = -3 := by decide
    omega
  · have q2 : iR ρ2 (3, 0, 0) 0 = nI (dP σ) := by rw [e2, iR_pI, if_neg (by simp)]; exact g4.1
    have q3 : iR ρ3 (3, 0, 0) 0 = nI (dP σ + 1) := by rw [e3, iR_pI, if_pos ⟨rfl, rfl⟩, q2, nI_1]
    have a3 : Ag (fun q => q = (10, 1, dP σ) ∨ q = (3, 0, 0)) ρ ρ3 := by rw [e3, e2]; exact Ag_tr (Ag_pI (Or.inl rfl)) (Ag_pI (Or.inr rfl))
    rw [q3, nI_pred]
    refine c_inCover hG (fun ad => ⟨rfl, fun ad => ?_⟩)
    have eq : EqC σ (sCover σ) := ⟨rfl, rfl, rfl, rfl, rfl, fun y hy => by show va_up (dC σ) (13 + dP σ) [] y = dC σ y; rw [upn (by have := g1.2.2.2.2.1; omega)]⟩
    have h12 : dC (sCover σ) 12 = dC σ 12 := by show va_up (dC σ) (13 + dP σ) [] 12 = _; rw [upn (by omega)]
    have hw : Wok (sCover σ) := by
      obtain ⟨b1, b2, b3, b4, b5, b6, b7, b8, b9⟩ := g1
      refine ⟨b1, b2, b3, b4, b5, b6, by show dP σ + 1 ≤ 6; omega, fun x hx => ?_, b9⟩
      show (va_up (dC σ) (13 + dP σ) [] x).length ≤ 4 ∧ ∀ c ∈ va_up (dC σ) (13 + dP σ) [] x, okCo (dT σ) c
      by_cases e : x = 13 + dP σ
      · rw [e, ups]; exact ⟨by simp, fun c hc => absurd hc List.not_mem_nil⟩
      · rw [upn e]
        refine b8 x ?_
        rcases hx with q | q | q
        · exact Or.inl q
        · exact Or.inr (Or.inl q)
        · have q : 13 ≤ x ∧ x < 13 + (dP σ + 1) := q
          exact Or.inr (Or.inr (by omega))
    have hc : RCv ρ3 (sCover σ) := by
      refine ⟨q3, by show dP σ + 1 ≤ 6; omega, fun p hp => ?_⟩
      have hp : p < dP σ + 1 := hp
      show Cls ρ3 1 p (va_up (dC σ) (13 + dP σ) [] (13 + p)) ∧ ∀ c ∈ va_up (dC σ) (13 + dP σ) [] (13 + p), okCo (dT σ) c
      by_cases e : p = dP σ
      · rw [e, ups]
        exact ⟨Cls_nil (by rw [e3, iR_pI, if_neg (by simp), e2, iR_pI, if_pos ⟨rfl, rfl⟩]), fun c hc => absurd hc List.not_mem_nil⟩
      · rw [upn (by omega)]
        have hp2 := g4.2.2 p (by omega)
        exact ⟨Cls_ag hp2.1 a3 (by simp [e]) (by simp) (by simp) (by simp), hp2.2⟩
    refine k ad _ _ (sCover σ) (RC_cv g2 g3 g6 g5 s1 s2 s3 hv a3 (fun q hq => ?_) (by rw [e3, e2]; rfl) eq rfl h12 hw hc) (Or.inr ⟨z, rfl, rfl⟩) (Ag_tr (Ag_mono a3 (fun q hq => ?_)) (Ag_pL (by unfold PCl; decide)))
    · rcases hq with q | q
      · rw [q]; exact Or.inl ⟨by show 10 ≤ 10; omega, by show 10 ≤ 13; omega, rfl⟩
      · exact Or.inr q
    · unfold PCl
      rcases hq with q | q
      · rw [q]; show 10 < 40; omega
      · rw [q]; decide
theorem c_part (hG : gok G) {σ : Wd} {B : Nat} {w t op v : Int32} (h : RC ρ σ B) (k : ∀ ad ρ' r τ, RC ρ' τ (B + 1) → trPart σ w t op v r τ → Ag PCl ρ ρ' → K ad (some (.int r)) ρ') : semV G r_WP_part [] (fun ad => [.ref (ad (0, 0, 0)), .int w, .int t, .int op, .int v]) ρ K := by
  have h0 := h
  obtain ⟨g1, g2, g3, g4, g5, g6, st, s1, s2, s3, hv⟩ := h
  have hT := g2.1
  have h8 := hT.2.2.1
  have h6 := g4.2.1
  refine semV_intro yk_WP_part.2.2.2.2 (fun _ => Nat.le_of_ble_eq_true rfl) (fun M Q ad0 hM => ?_)
  refine T_WP_part_0 hG hM _ _ _ _ ρ ?_
  rw [g4.1]
  have hin : (¬ w < 0 ∧ ¬ nI (dP σ) ≤ w) ↔ vp_in w (dP σ) := by
    rw [vp_in_iff, Int32.lt_iff_toInt_lt, Int32.le_iff_toInt_le, nI_toInt (by omega)]
    have e1 : (0 : Int32).toInt = 0 := rfl
    rw [e1]; omega
  refine ⟨fun z ad => k ad ρ _ σ (RC_le h0 (by omega)) (Or.inl ⟨fun y => (hin.mpr y).1 z, rfl, rfl⟩) Ag_rf, fun z => ⟨fun y ad => k ad ρ _ σ (RC_le h0 (by omega)) (Or.inl ⟨fun x => (hin.mpr x).2 y, rfl, rfl⟩) Ag_rf, fun y => ?_⟩⟩
  obtain ⟨p, hp, ew⟩ := vp_in_of (hin.mp ⟨z, y⟩) (by omega)
  subst ew
  refine c_isCondition hG hT.1 h8 (fun hc ad => ⟨_, rfl, fun z => absurd z (by decide), fun _ => ⟨vp_in_nI (by omega) (by omega), ?_⟩⟩) (fun hc ad => ⟨_, rfl, fun _ ad => k ad ρ _ σ (RC_le h0 (by omega)) (Or.inr ⟨p, hp, rfl, Or.inl ⟨hc, rfl, rfl⟩⟩) Ag_rf, fun z => absurd rfl z⟩)
  obtain ⟨c, hok, e1, e2, e3⟩ := (coI_ce h8).mp hc
  have hce : isCe c t op v := ⟨e1, e2, e3⟩
  rw [e1, e2, e3, nI_clamp (by omega)]
  have gp := g4.2.2 p hp
  refine c_Cl_add (t := c.1) (op := c.2.1) (v := c.2.2) hG (okC_pa (by omega)) gp.1 (okCo_c h8 hok) (fun hl ad ρ5 x1 x2 => ⟨_, rfl, fun z => ?_, fun _ => ?_⟩) (fun hl ad => ⟨_, rfl, fun _ ad => k ad ρ _ σ (RC_le h0 (by omega)) (Or.inr ⟨p, hp, rfl, Or.inr ⟨c, hok, hce, Or.inl ⟨hl, rfl, rfl⟩⟩⟩) Ag_rf, fun z => absurd rfl z⟩)
  · exfalso
    have e := congrArg Int32.toInt z
    rw [nI_toInt (by omega)] at e
    have e4 : (-3 : Int32).toInt = -3 := by decide
    omega
  · have a5 : Ag (PCd 1 p) ρ ρ5 := x2
    have A := fun q (hq : q.1 ≠ 10 ∧ q.1 ≠ 11 ∧ q.1 ≠ 12 ∧ q.1 ≠ 13) => a5 q (PCd_n hq)
    have eq : EqC σ (sCond σ (13 + p) (dC σ (13 + p) ++ [c])) := eqC_co (by have := g1.2.2.2.2.1; omega)
    have okL : ∀ d ∈ dC σ (13 + p) ++ [c], okCo (dT σ) d := by
      intro d hd
      rcases List.mem_append.mp hd with q | q
      · exact gp.2 d q
      · rw [List.mem_singleton.mp q]; exact hok
    refine c_inCover hG (fun ad => ⟨rfl, fun ad => ?_⟩)
    refine k ad _ _ _ (RC_cv g2 g3 g6 g5 s1 s2 s3 hv a5 (fun q hq => ?_) (A (3, 0, 0) (by simp)).2.2 eq rfl ?_ (Wok_co g1 (by simp; omega) okL) ?_) (Or.inr ⟨p, hp, rfl, Or.inr ⟨c, hok, hce, Or.inr ⟨hl, rfl, rfl⟩⟩⟩) (Ag_tr (Ag_mono a5 (fun q h => PCd_Cl h)) (Ag_pL (by unfold PCl; decide)))
    · left
      have h2 : q.2.1 = 1 := by rw [hq.2]
      rcases hq.1 with z | z | z | z <;> exact ⟨by omega, by omega, h2⟩
    · show va_up (dC σ) (13 + p) _ 12 = dC σ 12
      rw [upn (by omega)]
    · refine ⟨by rw [(A (3, 0, 0) (by simp)).2.1]; exact g4.1, g4.2.1, fun p' hp' => ?_⟩
      show Cls ρ5 1 p' (va_up (dC σ) (13 + p) _ (13 + p')) ∧ ∀ d ∈ va_up (dC σ) (13 + p) _ (13 + p'), okCo (dT σ) d
      by_cases e : p' = p
      · rw [e, ups]; exact ⟨x1, okL⟩
      · rw [upn (by omega)]
        have n1 : ∀ f, ¬ PCd 1 p (f, 1, p') := fun f z => by have := z.2; simp at this; exact e this
        exact ⟨Cls_ag (g4.2.2 p' hp').1 a5 (n1 _) (n1 _) (n1 _) (n1 _), (g4.2.2 p' hp').2⟩
theorem c_bare (hG : gok G) {σ : Wd} {B : Nat} (h : RC ρ σ B) (k : ∀ ad ρ' r τ, RC ρ' τ (B + 1) → trBare σ r τ → Ag PCl ρ ρ' → K ad (some (.int r)) ρ') : semV G r_WP_bare [] (fun ad => [.ref (ad (0, 0, 0))]) ρ K := by
  have h0 := h
  obtain ⟨g1, g2, g3, g4, g5, g6, st, s1, s2, s3, hv⟩ := h
  have h6 := g4.2.1
  refine semV_intro yk_WP_bare.2.2.2.2 (fun _ => Nat.le_of_ble_eq_true rfl) (fun M Q ad0 hM => ?_)
  refine T_WP_bare_0 hG hM ρ (fun ρ1 e1 => ?_)
  have a1 : Ag (fun q => q = (3, 0, 0)) ρ ρ1 := by rw [e1]; exact Ag_pI rfl
  rw [g4.1]
  refine ⟨fun z ad => ?_, fun z => ?_⟩
  · have z : dP σ ≤ 0 := (nI_leI (b := 0) (by omega) (by decide)).mp z
    have es : sBare σ = σ := by
      unfold sBare
      rw [show (0 : Nat) = dP σ by omega]; rfl
    have e0 : ρ1 = ρ := by
      rw [e1]
      have : (0 : Int32) = iR ρ (3, 0, 0) 0 := by rw [g4.1, show dP σ = 0 by omega]; rfl
      rw [this]
      show (nR ρ, upR (iR ρ) (3, 0, 0) (va_up (iR ρ (3, 0, 0)) 0 (iR ρ (3, 0, 0) 0)), lR ρ) = ρ
      have e2 : va_up (iR ρ (3, 0, 0)) 0 (iR ρ (3, 0, 0) 0) = iR ρ (3, 0, 0) := by
        funext j
        by_cases e : j = 0
        · rw [e, ups]
        · rw [upn e]
      rw [e2]
      have e3 : upR (iR ρ) (3, 0, 0) (iR ρ (3, 0, 0)) = iR ρ := by
        funext q
        by_cases e : q = (3, 0, 0)
        · rw [e, uR_s]
        · rw [uR_n e]
      rw [e3]; rfl
    rw [e0]
    exact k ad ρ _ (sBare σ) (by rw [es]; exact RC_le h0 (by omega)) ⟨rfl, rfl⟩ Ag_rf
  · refine c_inCover hG (fun ad => ⟨rfl, fun ad => ?_⟩)
    have hw : Wok (sBare σ) := by
      obtain ⟨b1, b2, b3, b4, b5, b6, b7, b8, b9⟩ := g1
      refine ⟨b1, b2, b3, b4, b5, b6, by show 0 ≤ 6; omega, fun x hx => b8 x ?_, b9⟩
      rcases hx with q | q | q
      · exact Or.inl q
      · exact Or.inr (Or.inl q)
      · have q : 13 ≤ x ∧ x < 13 + 0 := q
        omega
    refine k ad _ _ (sBare σ) (RC_cv g2 g3 g6 g5 s1 s2 s3 hv a1 (fun q hq => Or.inr hq) (by rw [e1]; rfl) ⟨rfl, rfl, rfl, rfl, rfl, fun _ _ => rfl⟩ rfl rfl hw ⟨by rw [e1, iR_pI, if_pos ⟨rfl, rfl⟩]; rfl, by show 0 ≤ 6; omega, fun p hp => absurd hp (Nat.not_lt_zero _)⟩) ⟨rfl, rfl⟩ (Ag_tr (Ag_mono a1 (fun q h => by rw [h]; unfold PCl; decide)) (Ag_pL (by unfold PCl; decide)))
end B45
