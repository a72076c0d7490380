/-! THE CLASS BUILDS: aim, aimless, cover, part, bare -/
theorem RWo_g {ρ ρ' : Rs} {σ : Wd} {P : Ro → Prop} (h : RWo ρ σ) (ha : Ag P ρ ρ') (hP : ∀ q, P q → q.1 ≠ 1 ∧ ¬ (20 ≤ q.1 ∧ q.1 ≤ 24) ∧ q.1 ≠ 30 ∧ (10 ≤ q.1 ∧ q.1 ≤ 13 → q.2.1 < 2)) : RWo ρ' σ := by
  obtain ⟨hT, h12, hna, hA, h8, h3, h9⟩ := h
  have n1 : ¬ P (1, 0, 0) := fun z => (hP _ z).1 rfl
  have n2 : ∀ f i j, 20 ≤ f → f ≤ 24 → ¬ P (f, i, j) := fun f i j h1 h2 z => (hP _ z).2.1 ⟨h1, h2⟩
  have n3 : ∀ i j, ¬ P (30, i, j) := fun i j z => (hP _ z).2.2.1 rfl
  have n4 : ∀ f a j, 10 ≤ f → f ≤ 13 → ¬ P (f, a + 2, j) := fun f a j h1 h2 z => by
    have h5 : a + 2 < 2 := (hP _ z).2.2.2 ⟨h1, h2⟩
    omega
  have b1 := (ha (1, 0, 0) n1).2.1
  have fF : ∀ a, RF ρ σ a → RF ρ' σ a := fun a h k hk => by
    have := h k hk
    rw [(ha (23, a, k) (n2 _ _ _ (by omega) (by omega))).1, (ha (24, a, k) (n2 _ _ _ (by omega) (by omega))).1, (ha (23, a, k) (n2 _ _ _ (by omega) (by omega))).2.1]
    exact this
  have fA : ∀ a, RA ρ σ a → RA ρ' σ a := fun a h => by
    obtain ⟨o2, o1, o3, oc, ocok, oe⟩ := h
    exact ⟨by rw [(ha (20, a, 0) (n2 _ _ _ (by omega) (by omega))).2.1]; exact o2, o1, o3, Cls_ag oc ha (n4 _ _ _ (by omega) (by omega)) (n4 _ _ _ (by omega) (by omega)) (n4 _ _ _ (by omega) (by omega)) (n4 _ _ _ (by omega) (by omega)), ocok, fun x hx => ⟨Cls_ag (oe x hx).1 ha (n4 _ _ _ (by omega) (by omega)) (n4 _ _ _ (by omega) (by omega)) (n4 _ _ _ (by omega) (by omega)) (n4 _ _ _ (by omega) (by omega)), (oe x hx).2⟩⟩
  refine ⟨RT_ag hT ha (by rw [b1]) (by rw [b1]) (n3 _ _) (n3 _ _), h12, by rw [b1]; exact hna, fun a h => fA a (hA a h), fun z => RP_ag (h8 (by rw [← b1]; exact z)) ha (n3 _ _) (ha _ (n3 _ _)).1, fun a h z => fF a (h3 a h (by rw [← (ha (20, a, 0) (n2 _ _ _ (by omega) (by omega))).2.1]; exact z)), fun z => ?_⟩
  obtain ⟨hP, hF, ch, hch⟩ := h9 (by rw [← b1]; exact z)
  exact ⟨RP_ag hP ha (n3 _ _) (ha _ (n3 _ _)).1, fun a h => fF a (hF a h), ch, fun x hx => ⟨by rw [(ha (30, 7, 0) (n3 _ _)).2.1]; exact Lk_ag ha (fun a k => n2 _ _ _ (by omega) (by omega)) (hch x hx).1, (hch x hx).2⟩⟩
theorem okCo_c {n : Nat} (hn : n ≤ 8) {c : Ce} (h : okCo n c) : okc c := by
  obtain ⟨h1, h2, h3⟩ := h
  refine ⟨by omega, h2, ?_⟩
  split at h3 <;> omega
/-- conditions of row x (12 the aim, 13 .. the cover) changed: still a world -/
theorem Wok_co {σ : Wd} {x : Nat} {L : List Ce} (h : Wok σ) (h1 : L.length ≤ 4) (h2 : ∀ c ∈ L, okCo (dT σ) c) : Wok (sCond σ x L) := by
  obtain ⟨a1, a2, a3, a4, a5, a6, a7, a8, a9⟩ := h
  refine ⟨a1, a2, a3, a4, a5, a6, a7, fun y hy => ?_, a9⟩
  show (va_up (dC σ) x L y).length ≤ 4 ∧ ∀ c ∈ va_up (dC σ) x L y, okCo (dT σ) c
  by_cases e : y = x
  · rw [e, ups]; exact ⟨h1, h2⟩
  · rw [upn e]; exact a8 y hy
theorem eqC_co {σ : Wd} {x : Nat} {L : List Ce} (hx : dA σ ≤ x) : EqC σ (sCond σ x L) := ⟨rfl, rfl, rfl, rfl, rfl, fun y hy => by show va_up (dC σ) x L y = dC σ y; rw [upn (by omega)]⟩
def PCd (i j : Nat) (q : Ro) : Prop := (q.1 = 10 ∨ q.1 = 11 ∨ q.1 = 12 ∨ q.1 = 13) ∧ q.2 = (i, j)
theorem PCd_w {i j : Nat} (hi : i < 2) : ∀ q, PCd i j q → q.1 ≠ 1 ∧ ¬ (20 ≤ q.1 ∧ q.1 ≤ 24) ∧ q.1 ≠ 30 ∧ (10 ≤ q.1 ∧ q.1 ≤ 13 → q.2.1 < 2) := by
  rintro ⟨a, b, c⟩ ⟨h1, h2⟩
  cases h2
  have h1 : a = 10 ∨ a = 11 ∨ a = 12 ∨ a = 13 := h1
  refine ⟨fun z => ?_, fun z => ?_, fun z => ?_, fun _ => hi⟩
  · have z : a = 1 := z; omega
  · have z : 20 ≤ a ∧ a ≤ 24 := z; omega
  · have z : a = 30 := z; omega
theorem PCd_Cl {i j : Nat} {q : Ro} (h : PCd i j q) : PCl q := by unfold PCl; rcases h.1 with z | z | z | z <;> rw [z] <;> omega
theorem PCd_n {i j : Nat} {q : Ro} (h : q.1 ≠ 10 ∧ q.1 ≠ 11 ∧ q.1 ≠ 12 ∧ q.1 ≠ 13) : ¬ PCd i j q := fun z => by rcases z.1 with y | y | y | y <;> omega
section B44
variable {G : Gc} {ρ : Rs} {K : (Ro → Nat) → Option Value → Rs → Prop}
theorem c_aim (hG : gok G) {σ : Wd} {B : Nat} {t op v : Int32} (h : RC ρ σ B) (k : ∀ ad ρ' r τ, RC ρ' τ (B + 1) → trCo σ 12 t op v r τ → Ag PCl ρ ρ' → K ad (some (.int r)) ρ') : semV G r_WP_aim [] (fun ad => [.ref (ad (0, 0, 0)), .int t, .int op, .int v]) ρ K := by
  have h0 := h
  obtain ⟨g1, g2, g3, g4, g5, g6, st, s1, s2, s3, v1, v2, v3, v4, v5, v6⟩ := h
  have hT := g2.1
  have h8 := hT.2.2.1
  refine semV_intro yk_WP_aim.2.2.2.2 (fun _ => Nat.le_of_ble_eq_true rfl) (fun M Q ad0 hM => ?_)
  refine T_WP_aim_0 hG hM _ _ _ ρ ?_
  refine c_isCondition hG hT.1 h8 (fun hc ad => ⟨_, rfl, fun z => absurd z (by decide), fun _ => ?_⟩) (fun hc ad => ⟨_, rfl, fun _ ad => k ad ρ _ σ (RC_le h0 (by omega)) (Or.inl ⟨hc, rfl, rfl⟩) Ag_rf, fun z => absurd rfl z⟩)
  obtain ⟨c, hok, e1, e2, e3⟩ := (coI_ce h8).mp hc
  have hce : isCe c t op v := ⟨e1, e2, e3⟩
  rw [e1, e2, e3]
  refine c_Cl_add (t := c.1) (op := c.2.1) (v := c.2.2) hG okC_0 g3.1 (okCo_c h8 hok) (fun hl ad ρ5 x1 x2 => ⟨_, rfl, fun z => ?_, fun _ => ?_⟩) (fun hl ad => ⟨_, rfl, fun _ ad => k ad ρ _ σ (RC_le h0 (by omega)) (Or.inr ⟨c, hok, hce, Or.inl ⟨hl, rfl, rfl⟩⟩) Ag_rf, fun z => absurd rfl z⟩)
  · exfalso
    have e := congrArg Int32.toInt z
    rw [nI_toInt (by omega)] at e
    have e4 : (-3 : Int32).toInt = -3 := by decide
    omega
  · have a5 : Ag (PCd 0 0) ρ ρ5 := x2
    have A := fun q (hq : q.1 ≠ 10 ∧ q.1 ≠ 11 ∧ q.1 ≠ 12 ∧ q.1 ≠ 13) => a5 q (PCd_n hq)
    have n1 : ∀ f j, ¬ PCd 0 0 (f, 1, j) := fun f j z => by have := z.2; simp at this
    have eq : EqC σ (sCond σ 12 (dC σ 12 ++ [c])) := eqC_co g1.2.2.2.2.1
    have core : RCo ρ5 (sCond σ 12 (dC σ 12 ++ [c])) := by
      refine ⟨Wok_co g1 (by simp; omega) (fun d hd => ?_), eq_RWo eq (RWo_g g2 a5 (PCd_w (by omega))), ⟨?_, ?_⟩, ?_, by rw [(A (0, 0, 0) (by simp)).2.1]; exact g5, KRm_of g6 (fun f => (A (34, f, 0) (by simp)).1)⟩
      · rcases List.mem_append.mp hd with q | q
        · exact g3.2 d q
        · rw [List.mem_singleton.mp q]; exact hok
      · show Cls ρ5 0 0 (va_up (dC σ) 12 _ 12)
        rw [ups]; exact x1
      · show ∀ d ∈ va_up (dC σ) 12 _ 12, okCo (dT σ) d
        rw [ups]
        intro d hd
        rcases List.mem_append.mp hd with q | q
        · exact g3.2 d q
        · rw [List.mem_singleton.mp q]; exact hok
      · refine ⟨by rw [(A (3, 0, 0) (by simp)).2.1]; exact g4.1, g4.2.1, fun p hp => ?_⟩
        show Cls ρ5 1 p (va_up (dC σ) 12 _ (13 + p)) ∧ ∀ d ∈ va_up (dC σ) 12 _ (13 + p), okCo (dT σ) d
        rw [upn (by omega)]
        exact ⟨Cls_ag (g4.2.2 p hp).1 a5 (n1 _ _) (n1 _ _) (n1 _ _) (n1 _ _), (g4.2.2 p hp).2⟩
    have l5 : ∀ j, j ≠ 10 → j ≠ 11 → j ≠ 12 → j ≠ 13 → ∀ i m, lR ρ5 (j, i, m) = lR ρ (j, i, m) := fun j q1 q2 q3 q4 i m => (A (j, i, m) ⟨q1, q2, q3, q4⟩).2.2
    refine c_inAim hG (fun ad => ⟨rfl, fun ad => ?_⟩)
    refine k ad _ _ _ (RC_up (j := 3) (st := st) (by omega) core (RSp_ag s1 (l5 4 (by omega) (by omega) (by omega) (by omega) 0 0) (l5 5 (by omega) (by omega) (by omega) (by omega) 0 0) (l5 6 (by omega) (by omega) (by omega) (by omega) 0 0) (l5 33 (by omega) (by omega) (by omega) (by omega) 6 0) (l5 7 (by omega) (by omega) (by omega) (by omega) 0 0) (l5 0 (by omega) (by omega) (by omega) (by omega) 0 0) (l5 3 (by omega) (by omega) (by omega) (by omega) 0 0)) s2 s3 ⟨fun a b => ?_, fun a b => ?_, fun i i1 i2 a b => ?_, fun a b => ?_, fun a => ?_, fun a => ?_⟩) (Or.inr ⟨c, hok, hce, Or.inr ⟨hl, rfl, rfl⟩⟩) (Ag_tr (Ag_mono a5 (fun q h => PCd_Cl h)) (Ag_tr (Ag_pL (by unfold PCl; decide)) (Ag_pL (by unfold PCl; decide))))
    · rw [upn (by omega), upn (by omega), upn (by omega), upn (by omega)] at a
      rw [upn (by omega), upn (by omega), upn (by omega), upn (by omega)] at b
      exact eq_RSt eq rfl (RSt_of (v1 a b) (A (32, 0, 0) (by simp)).1 (A (32, 0, 0) (by simp)).2.1 (A (32, 1, 0) (by simp)).1 (A (32, 1, 0) (by simp)).2.2 (by rw [(A (5, 0, 0) (by simp)).2.1]))
    · exfalso; rw [ups, upn (by omega), upn (by omega)] at b; have := s2 5 (by omega); omega
    · exfalso; rw [ups, upn (by omega), upn (by omega)] at b; have := s2 (6 + i) (by omega); omega
    · exfalso; rw [ups, upn (by omega), upn (by omega)] at b; have := s2 10 (by omega); omega
    · exfalso; rw [upn (by omega), ups, upn (by omega), upn (by omega)] at a; have := s2 11 (by omega); omega
    · exfalso; rw [upn (by omega), ups, upn (by omega), upn (by omega)] at a; have := s2 12 (by omega); omega
theorem c_aimless (hG : gok G) {σ : Wd} {B : Nat} (h : RC ρ σ B) (k : ∀ ad ρ' r τ, RC ρ' τ (B + 1) → trAimless σ r τ → Ag PCl ρ ρ' → K ad (some (.int r)) ρ') : semV G r_WP_aimless [] (fun ad => [.ref (ad (0, 0, 0))]) ρ K := by
  obtain ⟨g1, g2, g3, g4, g5, g6, st, s1, s2, s3, v1, v2, v3, v4, v5, v6⟩ := h
  have e0 := g3.1.2.1
  have hl4 := g3.1.1
  refine semV_intro yk_WP_aimless.2.2.2.2 (fun _ => Nat.le_of_ble_eq_true rfl) (fun M Q ad0 hM => ?_)
  refine T_WP_aimless_0 hG hM ρ (fun ρ1 e1 => ?_)
  have a1 : Ag (fun q => q = (10, 0, 0)) ρ ρ1 := by rw [e1]; exact Ag_pI rfl
  have w1 : ∀ q : Ro, q = (10, 0, 0) → q.1 ≠ 1 ∧ ¬ (20 ≤ q.1 ∧ q.1 ≤ 24) ∧ q.1 ≠ 30 ∧ (10 ≤ q.1 ∧ q.1 ≤ 13 → q.2.1 < 2) := fun q h => by rw [h]; simp
  have eq : EqC σ (sCond σ 12 []) := eqC_co g1.2.2.2.2.1
  have core : RCo ρ1 (sCond σ 12 []) := by
    refine ⟨Wok_co g1 (by simp) (fun d hd => by simp at hd), eq_RWo eq (RWo_g g2 a1 w1), ⟨?_, ?_⟩, ?_, by rw [(a1 (0, 0, 0) (by simp)).2.1]; exact g5, KRm_of g6 (fun f => (a1 (34, f, 0) (by simp)).1)⟩
    · show Cls ρ1 0 0 (va_up (dC σ) 12 _ 12)
      rw [ups]; exact Cls_nil (by rw [e1, iR_pI, if_pos ⟨rfl, rfl⟩])
    · show ∀ d ∈ va_up (dC σ) 12 ([] : List Ce) 12, okCo (dT σ) d
      rw [ups]; intro d hd; exact absurd hd List.not_mem_nil
    · refine ⟨by rw [(a1 (3, 0, 0) (by simp)).2.1]; exact g4.1, g4.2.1, fun p hp => ?_⟩
      show Cls ρ1 1 p (va_up (dC σ) 12 _ (13 + p)) ∧ ∀ d ∈ va_up (dC σ) 12 _ (13 + p), okCo (dT σ) d
      rw [upn (by omega)]
      exact ⟨Cls_ag (g4.2.2 p hp).1 a1 (by simp) (by simp) (by simp) (by simp), (g4.2.2 p hp).2⟩
  have sp : RSp ρ1 st := RSp_i s1 (fun q => by rw [e1]; rfl)
  rw [e0]
  refine ⟨fun z ad => ?_, fun z => ?_⟩
  · have z : (dC σ 12).length ≤ 0 := (nI_leI (b := 0) (by omega) (by decide)).mp z
    have en : dC σ 12 = [] := List.eq_nil_of_length_eq_zero (by omega)
    have h12 : dC (sCond σ 12 []) 12 = dC σ 12 := by show va_up (dC σ) 12 [] 12 = _; rw [ups, en]
    obtain ⟨c1, c2, c3, c4, c5, c6⟩ := core
    refine k ad ρ1 _ (sCond σ 12 []) ⟨c1, c2, c3, c4, c5, c6, st, sp, s2, by omega, ⟨fun a b => ?_, fun a b => ?_, fun i i1 i2 a b => ?_, fun a b => ?_, fun a => ?_, fun a => ?_⟩⟩ ⟨rfl, rfl⟩ (Ag_mono a1 (fun q h => by rw [h]; unfold PCl; decide))
    · exact eq_RSt eq rfl (RSt_of (v1 a b) (a1 (32, 0, 0) (by simp)).1 (a1 (32, 0, 0) (by simp)).2.1 (a1 (32, 1, 0) (by simp)).1 (a1 (32, 1, 0) (by simp)).2.2 (by rw [(a1 (5, 0, 0) (by simp)).2.1]))
    · exact eq_RM eq h12 (RM_of (v2 a b) (a1 (33, 0, 0) (by simp)).1 (a1 (33, 0, 0) (by simp)).2.1 (by rw [(a1 (6, 0, 0) (by simp)).2.1]))
    · have hg : gNo i ≠ (10, 0, 0) := by unfold gNo; split <;> (try split) <;> decide
      exact eq_RNu eq h12 (RNu_of (v3 i i1 i2 a b) (a1 (gNo i) hg).1 (a1 (gNo i) hg).2.1)
    · exact eq_RKd eq h12 (RKd_of (v4 a b) (a1 (34, 2, 0) (by simp)).1 (a1 (34, 2, 0) (by simp)).2.1 (a1 (34, 3, 0) (by simp)).1 (a1 (34, 3, 0) (by simp)).2.1 (by rw [(a1 (7, 0, 0) (by simp)).2.1]))
    · have es : sCond σ 12 [] = σ := by
        have : va_up (dC σ) 12 [] = dC σ := by
          funext x
          by_cases e : x = 12
          · rw [e, ups, en]
          · rw [upn e]
        unfold sCond
        rw [this]; rfl
      rw [es, (a1 (0, 0, 0) (by simp)).2.1]; exact v5 a
    · have es : sCond σ 12 [] = σ := by
        have : va_up (dC σ) 12 [] = dC σ := by
          funext x
          by_cases e : x = 12
          · rw [e, ups, en]
          · rw [upn e]
        unfold sCond
        rw [this]; rfl
      rw [es]; exact RFl_of (v6 a) (a1 (3, 0, 0) (by simp)).2.1
  · refine c_inAim hG (fun ad => ⟨rfl, fun ad => ?_⟩)
    refine k ad _ _ _ (RC_up (j := 3) (st := st) (by omega) core sp s2 s3 ⟨fun a b => ?_, fun a b => ?_, fun i i1 i2 a b => ?_, fun a b => ?_, fun a => ?_, fun a => ?_⟩) ⟨rfl, rfl⟩ (Ag_tr (Ag_mono a1 (fun q h => by rw [h]; unfold PCl; decide)) (Ag_tr (Ag_pL (by unfold PCl; decide)) (Ag_pL (by unfold PCl; decide))))
    · rw [upn (by omega), upn (by omega), upn (by omega), upn (by omega)] at a
      rw [upn (by omega), upn (by omega), upn (by omega), upn (by omega)] at b
      exact eq_RSt eq rfl (RSt_of (v1 a b) (a1 (32, 0, 0) (by simp)).1 (a1 (32, 0, 0) (by simp)).2.1 (a1 (32, 1, 0) (by simp)).1 (a1 (32, 1, 0) (by simp)).2.2 (by rw [(a1 (5, 0, 0) (by simp)).2.1]))
    · exfalso; rw [ups, upn (by omega), upn (by omega)] at b; have := s2 5 (by omega); omega
    · exfalso; rw [ups, upn (by omega), upn (by omega)] at b; have := s2 (6 + i) (by omega); omega
    · exfalso; rw [ups, upn (by omega), upn (by omega)] at b; have := s2 10 (by omega); omega
    · exfalso; rw [upn (by omega), ups, upn (by omega), upn (by omega)] at a; have := s2 11 (by omega); omega
    · exfalso; rw [upn (by omega), ups, upn (by omega), upn (by omega)] at a; have := s2 12 (by omega); omega
end B44
