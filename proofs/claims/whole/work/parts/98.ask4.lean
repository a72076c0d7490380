/-! THE CLASS ANSWERS: needed, fact, values, flaw -/
def PNd (q : Ro) : Prop := q = (0, 0, 0) ∨ PSe q
theorem PNd_nW {q : Ro} (h : PNd q) : nW q := by
  rcases h with h | h
  · rw [h]; rfl
  · exact PSe_nW h
theorem PNd_Cl {q : Ro} (h : PNd q) : PCl q := by
  rcases h with h | h
  · rw [h]; unfold PCl; decide
  · exact PSe_Cl h
section B41
variable {G : Gc} {ρ : Rs} {K : (Ro → Nat) → Option Value → Rs → Prop}
theorem c_needed (hG : gok G) {σ : Wd} {B : Nat} (hB : B < 2 ^ 30) (h : RC ρ σ B) (k : ∀ ad ρ' r, RC ρ' σ B → anNd σ r → Ag PCl ρ ρ' → K ad (some (.int r)) ρ') : semV G r_WP_needed [23, 24, 30, 33, 35] (fun ad => [.ref (ad (0, 0, 0))]) ρ K := by
  refine semV_intro yk_WP_needed.2.2.2.2 (fun _ => Nat.le_of_ble_eq_true rfl) (fun M Q ad0 hM => ?_)
  refine T_WP_needed_0 hG hM ρ ?_
  refine c_prepW hG h (fun ad ρ1 h1 d1 a1 => ⟨rfl, ?_⟩)
  refine c_fAim hG hB h1 d1 (fun ad ρ5 h5 d5 m5 a5 => ⟨rfl, ?_⟩)
  have ag : Ag PCl ρ ρ5 := Ag_tr (Ag_mono a1 (fun _ => PW_Cl)) (Ag_mono a5 (fun _ => PWi_Cl))
  have h0 := h5
  obtain ⟨g1, g2, g3, g4, g5, g6, st, s1, s2, s3, v1, v2, v3, v4, v5, v6⟩ := h5
  have hT := g2.1
  have h4 := hT.2.2.2.1
  have h12 := g2.2.1
  have b11 := s2 11 (by omega)
  rw [s1.2.2.2.2.2.1, s1.1 0 (by omega), lg_cmp_ge, lN_le (by omega) (by omega)]
  refine ⟨fun z ad => ?_, fun z ρ9 e9 => ?_⟩
  · obtain ⟨n, n1, n2⟩ := v5 z
    exact k ad ρ5 _ h0 ⟨n, n1, n2⟩ ag
  · have key : ∀ dd a ρ6 n, a + dd = dA σ → Ag PNd ρ5 ρ6 → iR ρ6 (0, 0, 0) 8 = nI (dB σ) → lR ρ6 (0, 0, 0) = lR ρ5 (0, 0, 0) → iR ρ6 (0, 0, 0) 9 = nI n → n < 2 ^ 12 → (∀ b, (n.testBit b = true ↔ b < a ∧ ¬ isRW σ (some b) (fun _ => false))) → Y G [23, 24, 30, 33, 35] ad0 M Q 33 (fun ad => [(0, .ref (ad (0, 0, 0))), (1, .int (nI a))]) (fun ad => []) ρ6 := by
      intro dd
      induction dd with
      | zero =>
        intro a ρ6 n hdd ha6 e8 l0 n9 hn hb
        have ea : a = dA σ := by omega
        subst ea
        have W6 := RWo_ag g2 (Ag_mono ha6 (fun _ => PNd_nW))
        refine T_WP_needed_33 hG hM _ ρ6 ⟨fun _ ρ7 e7 ad => ?_, fun z => absurd (by rw [W6.2.2.1]; exact (nI_leI (by omega) (by omega)).mpr (Nat.le_refl _)) z⟩
        have a7 : Ag PNd ρ5 ρ7 := Ag_tr ha6 (by rw [e7]; exact Ag_pL (Or.inl rfl))
        have A := fun q (hq : ¬ PNd q) => a7 q hq
        have i7 : iR ρ7 = iR ρ6 := by rw [e7]; rfl
        have nd : isNd σ n := ⟨by omega, hb⟩
        rw [i7, n9]
        refine k ad ρ7 _ (RC_mk (st := va_up st 11 (st 0)) h0 (Ag_mono a7 (fun _ => PNd_nW)) (by rw [(A (3, 0, 0) (by simp [PNd, PSe])).2.1]) (by rw [i7, e8, g5]) (KRm_of g6 (fun f => (A (34, f, 0) (by simp [PNd, PSe])).1)) ⟨fun i hi => ?_, ?_, ?_, fun i i1 i2 => ?_, ?_, ?_, ?_⟩ (fun i hi => ?_) (by rw [upn (by omega)]; exact s3) ⟨fun x y => ?_, fun x y => ?_, fun i i1 i2 x y => ?_, fun x y => ?_, fun x => ⟨n, nd, by rw [i7]; exact n9⟩, fun x => ?_⟩) ⟨n, nd, rfl⟩ (Ag_tr ag (Ag_mono a7 (fun _ => PNd_Cl)))
        · rw [(A (4, 0, 0) (by simp [PNd, PSe])).2.2, upn (by omega)]; exact s1.1 i hi
        · rw [(A (5, 0, 0) (by simp [PNd, PSe])).2.2, upn (by omega)]; exact s1.2.1
        · rw [(A (6, 0, 0) (by simp [PNd, PSe])).2.2, upn (by omega)]; exact s1.2.2.1
        · rw [(A (33, 6, 0) (by simp [PNd, PSe])).2.2, upn (by omega)]; exact s1.2.2.2.1 i i1 i2
        · rw [(A (7, 0, 0) (by simp [PNd, PSe])).2.2, upn (by omega)]; exact s1.2.2.2.2.1
        · rw [ups, e7, lR_pL, if_pos ⟨rfl, rfl⟩, (ha6 (4, 0, 0) (by simp [PNd, PSe])).2.2]; exact s1.1 0 (by omega)
        · rw [(A (3, 0, 0) (by simp [PNd, PSe])).2.2, upn (by omega)]; exact s1.2.2.2.2.2.2
        · rw [upn (b := 0) (by omega)]
          by_cases e : i = 11
          · rw [e, ups]; omega
          · rw [upn e]; exact s2 i hi
        · rw [upn (by omega), upn (by omega)] at x y
          exact RSt_of (v1 x y) (A (32, 0, 0) (by simp [PNd, PSe])).1 (A (32, 0, 0) (by simp [PNd, PSe])).2.1 (A (32, 1, 0) (by simp [PNd, PSe])).1 (A (32, 1, 0) (by simp [PNd, PSe])).2.2 (by rw [(A (5, 0, 0) (by simp [PNd, PSe])).2.1])
        · rw [upn (by omega), upn (by omega)] at x y
          exact RM_of (v2 x y) (A (33, 0, 0) (by simp [PNd, PSe])).1 (A (33, 0, 0) (by simp [PNd, PSe])).2.1 (by rw [(A (6, 0, 0) (by simp [PNd, PSe])).2.1])
        · rw [upn (by omega), upn (by omega)] at x y
          have hg : (gNo i).1 = 33 := by unfold gNo; split <;> (try split) <;> rfl
          have hg2 : ¬ PNd (gNo i) := fun z => by
            rcases z with z | z | z
            · rw [z] at hg; exact absurd hg (by decide)
            · omega
            · omega
          exact RNu_of (v3 i i1 i2 x y) (A (gNo i) hg2).1 (A (gNo i) hg2).2.1
        · rw [upn (by omega), upn (by omega)] at x y
          exact RKd_of (v4 x y) (A (34, 2, 0) (by simp [PNd, PSe])).1 (A (34, 2, 0) (by simp [PNd, PSe])).2.1 (A (34, 3, 0) (by simp [PNd, PSe])).1 (A (34, 3, 0) (by simp [PNd, PSe])).2.1 (by rw [(A (7, 0, 0) (by simp [PNd, PSe])).2.1])
        · rw [upn (by omega), upn (by omega)] at x
          exact RFl_of (v6 x) (A (3, 0, 0) (by simp [PNd, PSe])).2.1
      | succ dd ih =>
        intro a ρ6 n hdd ha6 e8 l0 n9 hn hb
        have ha : a < dA σ := by omega
        have W6 := RWo_ag g2 (Ag_mono ha6 (fun _ => PNd_nW))
        have D6 := RD_ag d5 (Ag_mono ha6 (fun _ => PNd_nW))
        have M6 : RM ρ6 σ := RM_of m5 (ha6 (33, 0, 0) (by simp [PNd, PSe])).1 (ha6 (33, 0, 0) (by simp [PNd, PSe])).2.1 (by rw [(ha6 (6, 0, 0) (by simp [PNd, PSe])).2.1])
        refine T_WP_needed_33 hG hM _ ρ6 ⟨fun z => absurd (by rw [W6.2.2.1] at z; exact (nI_leI (by omega) (by omega)).mp z) (by omega), fun _ => ?_⟩
        rw [e8, sh1 a (by omega), nI_1]
        refine c_wins (ba := some a) (bt := none) (bv := 0) hG (RWr_of W6 D6) g1.2.2.2.1 M6.1 M6.2.1 (fun b hb2 => by cases hb2; omega) (fun x hx => by cases hx) (by omega) (fun ad ρ7 hw a7 => ⟨_, rfl, fun z => absurd z (by decide), fun _ => ?_⟩) (fun ad ρ7 hw a7 => ⟨_, rfl, fun _ ρ8 e8' => ?_, fun z => absurd rfl z⟩)
        · have hw : isRW σ (some a) (fun _ => false) := hw
          refine ih (a + 1) ρ7 n (by omega) (Ag_tr ha6 (Ag_mono a7 (fun _ h => Or.inr h))) (by rw [(a7 (0, 0, 0) (by simp [PSe])).2.1]; exact e8) (by rw [(a7 (0, 0, 0) (by simp [PSe])).2.2]; exact l0) (by rw [(a7 (0, 0, 0) (by simp [PSe])).2.1]; exact n9) hn (fun b => ?_)
          rw [hb b]
          constructor
          · rintro ⟨q1, q2⟩; exact ⟨by omega, q2⟩
          · rintro ⟨q1, q2⟩
            refine ⟨?_, q2⟩
            by_cases e : b = a
            · rw [e] at q2; exact absurd hw q2
            · omega
        · have hw : ¬ isRW σ (some a) (fun _ => false) := hw
          have n7 : iR ρ7 (0, 0, 0) 9 = nI n := by rw [(a7 (0, 0, 0) (by simp [PSe])).2.1]; exact n9
          rw [n7, nI_or] at e8'
          refine ih (a + 1) ρ8 (n ||| 2 ^ a) (by omega) (Ag_tr ha6 (Ag_tr (Ag_mono a7 (fun _ h => Or.inr h)) (by rw [e8']; exact Ag_pI (Or.inl rfl)))) (by rw [e8', iR_pI, if_neg (by simp), (a7 (0, 0, 0) (by simp [PSe])).2.1]; exact e8) (by rw [e8', lR_pI, (a7 (0, 0, 0) (by simp [PSe])).2.2]; exact l0) (by rw [e8', iR_pI, if_pos ⟨rfl, rfl⟩]) (Nat.or_lt_two_pow hn (Nat.pow_lt_pow_right (by omega) (by omega))) (fun b => ?_)
          rw [Nat.testBit_or, Bool.or_eq_true, hb b, Nat.testBit_two_pow, decide_eq_true_iff]
          constructor
          · rintro (⟨q1, q2⟩ | q)
            · exact ⟨by omega, q2⟩
            · rw [← q]; exact ⟨by omega, hw⟩
          · rintro ⟨q1, q2⟩
            by_cases e : a = b
            · exact Or.inr e
            · exact Or.inl ⟨by omega, q2⟩
    refine key (dA σ) 0 ρ9 0 (by omega) (by rw [e9]; exact Ag_pI (Or.inl rfl)) (by rw [e9, iR_pI, if_neg (by simp)]; exact g5) (by rw [e9]; rfl) (by rw [e9, iR_pI, if_pos ⟨rfl, rfl⟩]; rfl) (by omega) (fun b => ?_)
    rw [Nat.zero_testBit]
    exact ⟨fun q => (by cases q), fun q => absurd q.1 (by omega)⟩
theorem c_fact (hG : gok G) {σ : Wd} {B : Nat} {v w : Int32} (hB : B < 2 ^ 30) (h : RC ρ σ B) (k : ∀ ad ρ' r, RC ρ' σ B → anFc σ v w r → Ag PCl ρ ρ' → K ad (some (.int r)) ρ') : semV G r_WP_fact [23, 24, 30, 33, 35] (fun ad => [.ref (ad (0, 0, 0)), .int v, .int w]) ρ K := by
  have hT := h.2.1.1
  have h4 := hT.2.2.2.1
  have h8 := hT.2.2.1
  refine semV_intro yk_WP_fact.2.2.2.2 (fun _ => Nat.le_of_ble_eq_true rfl) (fun M Q ad0 hM => ?_)
  refine T_WP_fact_0 hG hM _ _ ρ ?_
  refine c_isThing hG hT.1 (by omega) (fun hv ad => ⟨_, rfl, fun z => absurd z (by decide), fun _ => ?_⟩) (fun hv ad => ⟨_, rfl, fun _ ad => k ad ρ _ h (Or.inl ⟨fun z => hv z.1, rfl⟩) Ag_rf, fun z => absurd rfl z⟩)
  obtain ⟨t, ht, ev⟩ := vp_in_of hv (by omega)
  subst ev
  have hz := hT.2.2.2.2.1 t ht
  have hin : ∀ (y : Int32), vp_in y (dS σ t) ↔ ¬ y < 0 ∧ y < nI (dS σ t) := by
    intro y
    rw [vp_in_iff, Int32.lt_iff_toInt_lt, Int32.lt_iff_toInt_lt, nI_toInt (by omega)]
    have e1 : (0 : Int32).toInt = 0 := rfl
    rw [e1]; omega
  rw [nI_clamp (by omega), (hT.2.2.2.2.2 t ht).1]
  refine ⟨fun z ad => k ad ρ _ h (Or.inl ⟨fun y => ?_, rfl⟩) Ag_rf, fun z => ⟨vp_in_nI (by omega) (by omega), fun y => ?_, fun y ad => k ad ρ _ h (Or.inl ⟨fun x => ?_, rfl⟩) Ag_rf⟩⟩
  · have := y.2
    rw [nI_clamp (by omega)] at this
    exact ((hin w).mp this).1 z
  · obtain ⟨x, hx, ew⟩ := vp_in_of ((hin w).mpr ⟨z, y⟩) (by omega)
    subst ew
    refine c_prepW hG h (fun ad ρ1 h1 d1 a1 => ⟨rfl, ?_⟩)
    refine c_fAim hG hB h1 d1 (fun ad ρ5 h5 d5 m5 a5 => ⟨rfl, ?_⟩)
    have ag : Ag PCl ρ ρ5 := Ag_tr (Ag_mono a1 (fun _ => PW_Cl)) (Ag_mono a5 (fun _ => PWi_Cl))
    rw [h5.2.2.2.2.1]
    have fin : ∀ ρ7, Ag PSe ρ5 ρ7 → RC ρ7 σ B := by
      intro ρ7 a7
      obtain ⟨g1, g2, g3, g4, g5, g6, st, s1, s2, s3, v1, v2, v3, v4, v5, v6⟩ := h5
      have A := fun q (hq : ¬ PSe q) => a7 q hq
      refine RC_mk (st := st) ⟨g1, g2, g3, g4, g5, g6, st, s1, s2, s3, v1, v2, v3, v4, v5, v6⟩ (Ag_mono a7 (fun _ => PSe_nW)) (by rw [(A (3, 0, 0) (by simp [PSe])).2.1]) (by rw [(A (0, 0, 0) (by simp [PSe])).2.1]) (KRm_of g6 (fun f => (A (34, f, 0) (by simp [PSe])).1)) (RSp_ag s1 (A (4, 0, 0) (by simp [PSe])).2.2 (A (5, 0, 0) (by simp [PSe])).2.2 (A (6, 0, 0) (by simp [PSe])).2.2 (A (33, 6, 0) (by simp [PSe])).2.2 (A (7, 0, 0) (by simp [PSe])).2.2 (A (0, 0, 0) (by simp [PSe])).2.2 (A (3, 0, 0) (by simp [PSe])).2.2) s2 s3 ⟨fun x y => ?_, fun x y => ?_, fun i i1 i2 x y => ?_, fun x y => ?_, fun x => ?_, fun x => ?_⟩
      · exact RSt_of (v1 x y) (A (32, 0, 0) (by simp [PSe])).1 (A (32, 0, 0) (by simp [PSe])).2.1 (A (32, 1, 0) (by simp [PSe])).1 (A (32, 1, 0) (by simp [PSe])).2.2 (by rw [(A (5, 0, 0) (by simp [PSe])).2.1])
      · exact RM_of (v2 x y) (A (33, 0, 0) (by simp [PSe])).1 (A (33, 0, 0) (by simp [PSe])).2.1 (by rw [(A (6, 0, 0) (by simp [PSe])).2.1])
      · have hg : (gNo i).1 = 33 := by unfold gNo; split <;> (try split) <;> rfl
        exact RNu_of (v3 i i1 i2 x y) (A (gNo i) (by simp [PSe, hg])).1 (A (gNo i) (by simp [PSe, hg])).2.1
      · exact RKd_of (v4 x y) (A (34, 2, 0) (by simp [PSe])).1 (A (34, 2, 0) (by simp [PSe])).2.1 (A (34, 3, 0) (by simp [PSe])).1 (A (34, 3, 0) (by simp [PSe])).2.1 (by rw [(A (7, 0, 0) (by simp [PSe])).2.1])
      · rw [(A (0, 0, 0) (by simp [PSe])).2.1]; exact v5 x
      · exact RFl_of (v6 x) (A (3, 0, 0) (by simp [PSe])).2.1
    refine c_wins (ba := none) (bt := some t) (bv := x) (v6 := nI x) hG (RWr_of h5.2.1 d5) h5.1.2.2.2.1 m5.1 m5.2.1 (fun b hb2 => by cases hb2) (fun u hu => by cases hu; exact ⟨ht, rfl⟩) (by omega) (fun ad ρ7 hw a7 => ⟨_, rfl, fun z19 e19 ad => ?_⟩) (fun ad ρ7 hw a7 => ⟨_, rfl, fun z19 e19 ad => ?_⟩)
    · rw [if_neg (by decide)] at e19
      rw [e19]
      exact k ad ρ7 _ (fin ρ7 a7) (Or.inr ⟨t, x, ht, hx, rfl, rfl, Or.inl ⟨hw, rfl⟩⟩) (Ag_tr ag (Ag_mono a7 (fun _ => PSe_Cl)))
    · rw [if_pos rfl] at e19
      rw [e19]
      exact k ad ρ7 _ (fin ρ7 a7) (Or.inr ⟨t, x, ht, hx, rfl, rfl, Or.inr ⟨hw, rfl⟩⟩) (Ag_tr ag (Ag_mono a7 (fun _ => PSe_Cl)))
  · have := x.2
    rw [nI_clamp (by omega)] at this
    exact y ((hin w).mp this).2
theorem c_values (hG : gok G) {σ : Wd} {B : Nat} {v : Int32} (hB : B < 2 ^ 30) (h : RC ρ σ B) (k : ∀ ad ρ' r, RC ρ' σ B → anVl σ v r → Ag PCl ρ ρ' → K ad (some (.int r)) ρ') : semV G r_WP_values [23, 24, 30, 32] (fun ad => [.ref (ad (0, 0, 0)), .int v]) ρ K := by
  have hT0 := h.2.1.1
  have h8 := hT0.2.2.1
  refine semV_intro yk_WP_values.2.2.2.2 (fun _ => Nat.le_of_ble_eq_true rfl) (fun M Q ad0 hM => ?_)
  refine T_WP_values_0 hG hM _ ρ ?_
  refine c_isThing hG hT0.1 (by omega) (fun hv ad => ⟨_, rfl, fun z => absurd z (by decide), fun _ => ?_⟩) (fun hv ad => ⟨_, rfl, fun _ ad => k ad ρ _ h (Or.inl ⟨hv, rfl⟩) Ag_rf, fun z => absurd rfl z⟩)
  obtain ⟨t, ht, ev⟩ := vp_in_of hv (by omega)
  subst ev
  refine c_prepW hG h (fun ad ρ1 h1 d1 a1 => ⟨rfl, ?_⟩)
  refine c_fReached hG hB h1 d1 (fun ad ρ2 h2 d2 r2 a2 => ⟨rfl, ?_⟩)
  obtain ⟨d, x1, x2, x3, x4, x5, x6, x7⟩ := r2
  have hT := h2.2.1.1
  have h4 := hT.2.2.2.1
  have ag : Ag PCl ρ ρ2 := Ag_tr (Ag_mono a1 (fun _ => PW_Cl)) (Ag_mono a2 (fun _ => PR_Cl))
  have key : ∀ dd s n, s + dd = nS σ → (∀ x, (n.testBit x = true ↔ ∃ u, u < s ∧ (∃ m, d u = some m) ∧ vl σ u t = x)) → Y G [23, 24, 30, 32] ad0 M Q 29 (fun ad => [(0, .ref (ad (0, 0, 0))), (1, .int (nI t)), (2, .int (nI n)), (3, .int (nI s))]) (fun ad => []) ρ2 := by
    intro dd
    induction dd with
    | zero =>
      intro s n hdd hb
      have es : s = nS σ := by omega
      subst es
      exact T_WP_values_29 hG hM _ _ _ ρ2 ⟨fun _ ad => k ad ρ2 _ h2 (Or.inr ⟨t, n, d, ht, rfl, x1, hb, rfl⟩) ag, fun z => absurd (by rw [hT.2.1]; exact (nI_leI (by omega) (by omega)).mpr (Nat.le_refl _)) z⟩
    | succ dd ih =>
      intro s n hdd hb
      have hs : s < nS σ := by omega
      have hP := d2.1
      have hm1 := oI_m1 (o := d s) (fun m hm => by have := x2 s m hs hm; omega)
      refine T_WP_values_29 hG hM _ _ _ ρ2 ⟨fun z => absurd (by rw [hT.2.1] at z; exact (nI_leI (by omega) (by omega)).mp z) (by omega), fun _ => ⟨in_nI (by omega) (by omega), ?_⟩⟩
      rw [nI_clamp (by omega), x5 s hs, hP.2.2 s hs, nI_1]
      refine ⟨fun z => ih (s + 1) n (by omega) (fun x => ?_), fun z => ⟨in_nI (by have := hP.1; omega) (by omega), ?_⟩⟩
      · rw [hb x]
        constructor
        · rintro ⟨u, q1, q2, q3⟩; exact ⟨u, by omega, q2, q3⟩
        · rintro ⟨u, q1, q2, q3⟩
          refine ⟨u, ?_, q2, q3⟩
          by_cases e : u = s
          · obtain ⟨m, hm⟩ := q2
            rw [e, hm1.mp z] at hm; cases hm
          · omega
      · refine c_valueIn hG (pkW_lt hT) (by omega) (fun ad => ⟨_, rfl, ?_⟩)
        have hvl := vl_lt (s := s) hT ht
        have hz := hT.2.2.2.2.1 t ht
        rw [pkW_val hT ht, sh1 _ (by omega), nI_or]
        refine ih (s + 1) _ (by omega) (fun x => ?_)
        rw [Nat.testBit_or, Bool.or_eq_true, hb x, Nat.testBit_two_pow, decide_eq_true_iff]
        constructor
        · rintro (⟨u, q1, q2, q3⟩ | q)
          · exact ⟨u, by omega, q2, q3⟩
          · refine ⟨s, by omega, ?_, q⟩
            cases hx : d s with
            | none => exact absurd (hm1.mpr hx) z
            | some m => exact ⟨m, rfl⟩
        · rintro ⟨u, q1, q2, q3⟩
          by_cases e : u = s
          · rw [e] at q3; exact Or.inr q3
          · exact Or.inl ⟨u, by omega, q2, q3⟩
  refine key (nS σ) 0 0 (by omega) (fun x => ?_)
  rw [Nat.zero_testBit]
  exact ⟨fun q => (by cases q), fun ⟨u, q, _⟩ => absurd q (by omega)⟩
theorem c_flaw (hG : gok G) {σ : Wd} {B : Nat} {w : Int32} (hB : B < 2 ^ 30) (h : RC ρ σ B) (k : ∀ ad ρ' r, RC ρ' σ B → anFl σ w r → Ag PCl ρ ρ' → K ad (some (.int r)) ρ') : semV G r_WP_flaw [23, 24, 30, 31, 33] (fun ad => [.ref (ad (0, 0, 0)), .int w]) ρ K := by
  have in3 : (¬ w < 0 ∧ w ≤ 3) ↔ vp_in w 4 := by
    rw [vp_in_iff, Int32.lt_iff_toInt_lt, Int32.le_iff_toInt_le]
    have e1 : (0 : Int32).toInt = 0 := rfl
    have e2 : (3 : Int32).toInt = 3 := rfl
    rw [e1, e2]; omega
  refine semV_intro yk_WP_flaw.2.2.2.2 (fun _ => Nat.le_of_ble_eq_true rfl) (fun M Q ad0 hM => ?_)
  have k77 : vp_in w 4 → ∀ ρ1, RC ρ1 σ B → RFl ρ1 σ → Ag PCl ρ ρ1 → Y G [23, 24, 30, 31, 33] ad0 M Q 77 (fun ad => [(0, .ref (ad (0, 0, 0))), (1, .int w)]) (fun ad => []) ρ1 := by
    intro hw ρ1 h1 f1 a1
    obtain ⟨n, fs, fa, fk, f1, f2, f3, f4, f5⟩ := f1
    refine T_WP_flaw_77 hG hM _ ρ1 ⟨fun z ad => ?_, fun z ad => ?_, fun z ad => ?_, fun z0 z1 z2 ad => ?_⟩
    · exact k ad ρ1 _ h1 (Or.inr ⟨n, fs, fa, fk, f1, Or.inl ⟨z, f2⟩⟩) a1
    · exact k ad ρ1 _ h1 (Or.inr ⟨n, fs, fa, fk, f1, Or.inr (Or.inl ⟨z, f3⟩)⟩) a1
    · exact k ad ρ1 _ h1 (Or.inr ⟨n, fs, fa, fk, f1, Or.inr (Or.inr (Or.inl ⟨z, f4⟩))⟩) a1
    · obtain ⟨x, hx, e⟩ := vp_in_of hw (by omega)
      have e3 : w = 3 := by
        have x0 : x ≠ 0 := fun q => z0 (by rw [e, q]; rfl)
        have x1 : x ≠ 1 := fun q => z1 (by rw [e, q]; rfl)
        have x2 : x ≠ 2 := fun q => z2 (by rw [e, q]; rfl)
        rw [e, show x = 3 by omega]; rfl
      exact k ad ρ1 _ h1 (Or.inr ⟨n, fs, fa, fk, f1, Or.inr (Or.inr (Or.inr ⟨e3, f5⟩))⟩) a1
  refine T_WP_flaw_0 hG hM _ ρ ⟨fun z ad => k ad ρ _ h (Or.inl ⟨fun y => (in3.mpr y).1 z, rfl⟩) Ag_rf, fun z => ⟨fun y => ?_, fun y ad => k ad ρ _ h (Or.inl ⟨fun x => y (in3.mpr x).2, rfl⟩) Ag_rf⟩⟩
  have hw := in3.mp ⟨z, y⟩
  refine c_prepW hG h (fun ad ρ1 h1 d1 a1 => ⟨rfl, ?_⟩)
  refine c_fAim hG hB h1 d1 (fun ad ρ5 h5 d5 m5 a5 => ⟨rfl, ?_⟩)
  have ag : Ag PCl ρ ρ5 := Ag_tr (Ag_mono a1 (fun _ => PW_Cl)) (Ag_mono a5 (fun _ => PWi_Cl))
  have h0 := h5
  obtain ⟨g1, g2, g3, g4, g5, g6, st, s1, s2, s3, v1, v2, v3, v4, v5, v6⟩ := h5
  have b12 := s2 12 (by omega)
  rw [s1.2.2.2.2.2.2, s1.1 0 (by omega), lg_cmp_ge, lN_le (by omega) (by omega), g5]
  refine ⟨fun z => k77 hw ρ5 h0 (v6 z) ag, fun z => ?_⟩
  refine c_judge hG (RWr_of g2 d5) g4 g1.2.2.2.1 m5.1 m5.2.1 (fun ad ρ9 j1 j2 j3 => ⟨rfl, fun ρ13 e13 => ?_⟩)
  have a13 : Ag PCo ρ5 ρ13 := Ag_tr j3 (by rw [e13]; exact Ag_pL (Or.inl rfl))
  have A := fun q (hq : ¬ PCo q) => a13 q hq
  have f13 : RFl ρ13 σ := RFl_of j1 (by rw [e13]; rfl)
  refine k77 hw ρ13 (RC_mk (st := va_up st 12 (st 0)) h0 (Ag_mono a13 (fun _ => PCo_nW)) (by rw [e13, iR_pL]; exact j2) (by rw [(A (0, 0, 0) (by simp [PCo])).2.1]) (KRm_of g6 (fun f => (A (34, f, 0) (by simp [PCo])).1)) ⟨fun i hi => ?_, ?_, ?_, fun i i1 i2 => ?_, ?_, ?_, ?_⟩ (fun i hi => ?_) (by rw [upn (by omega)]; exact s3) ⟨fun x y => ?_, fun x y => ?_, fun i i1 i2 x y => ?_, fun x y => ?_, fun x => ?_, fun x => f13⟩) f13 (Ag_tr ag (Ag_mono a13 (fun _ => PCo_Cl)))
  · rw [(A (4, 0, 0) (by simp [PCo])).2.2, upn (by omega)]; exact s1.1 i hi
  · rw [(A (5, 0, 0) (by simp [PCo])).2.2, upn (by omega)]; exact s1.2.1
  · rw [(A (6, 0, 0) (by simp [PCo])).2.2, upn (by omega)]; exact s1.2.2.1
  · rw [(A (33, 6, 0) (by simp [PCo])).2.2, upn (by omega)]; exact s1.2.2.2.1 i i1 i2
  · rw [(A (7, 0, 0) (by simp [PCo])).2.2, upn (by omega)]; exact s1.2.2.2.2.1
  · rw [(A (0, 0, 0) (by simp [PCo])).2.2, upn (by omega)]; exact s1.2.2.2.2.2.1
  · rw [ups, e13, lR_pL, if_pos ⟨rfl, rfl⟩, (j3 (4, 0, 0) (by simp [PCo])).2.2]; exact s1.1 0 (by omega)
  · rw [upn (b := 0) (by omega)]
    by_cases e : i = 12
    · rw [e, ups]; omega
    · rw [upn e]; exact s2 i hi
  · rw [upn (by omega), upn (by omega)] at x y
    exact RSt_of (v1 x y) (A (32, 0, 0) (by simp [PCo])).1 (A (32, 0, 0) (by simp [PCo])).2.1 (A (32, 1, 0) (by simp [PCo])).1 (A (32, 1, 0) (by simp [PCo])).2.2 (by rw [(A (5, 0, 0) (by simp [PCo])).2.1])
  · rw [upn (by omega), upn (by omega)] at x y
    exact RM_of (v2 x y) (A (33, 0, 0) (by simp [PCo])).1 (A (33, 0, 0) (by simp [PCo])).2.1 (by rw [(A (6, 0, 0) (by simp [PCo])).2.1])
  · rw [upn (by omega), upn (by omega)] at x y
    have hg : (gNo i).1 = 33 := by unfold gNo; split <;> (try split) <;> rfl
    have hg2 : ¬ PCo (gNo i) := fun z => by
      rcases z with z | z
      · rw [z] at hg; exact absurd hg (by decide)
      · rw [z] at hg; exact absurd hg (by decide)
    exact RNu_of (v3 i i1 i2 x y) (A (gNo i) hg2).1 (A (gNo i) hg2).2.1
  · rw [upn (by omega), upn (by omega)] at x y
    exact RKd_of (v4 x y) (A (34, 2, 0) (by simp [PCo])).1 (A (34, 2, 0) (by simp [PCo])).2.1 (A (34, 3, 0) (by simp [PCo])).1 (A (34, 3, 0) (by simp [PCo])).2.1 (by rw [(A (7, 0, 0) (by simp [PCo])).2.1])
  · rw [upn (by omega), upn (by omega)] at x
    rw [(A (0, 0, 0) (by simp [PCo])).2.1]; exact v5 x
end B41
