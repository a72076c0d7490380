/-! THE CLASS BUILDS: stamps; clear, start, aimless, bare, cover -/
theorem RVd_l {ρ : Rs} {τ : Wd} {st : Nat → Nat} {j : Nat} {x : Int64} (h : RVd ρ τ st) : RVd (pL ρ (4, 0, 0) j x) τ st := by
  obtain ⟨v1, v2, v3, v4, v5, v6⟩ := h
  refine ⟨fun a b => RSt_of (v1 a b) rfl rfl rfl (by funext i; rw [lR_pL, if_neg (by simp)]) rfl, fun a b => RM_of (v2 a b) rfl rfl rfl, fun i i1 i2 a b => RNu_of (v3 i i1 i2 a b) rfl rfl, fun a b => RKd_of (v4 a b) rfl rfl rfl rfl rfl, fun a => v5 a, fun a => RFl_of (v6 a) rfl⟩
theorem RSp_0 {ρ : Rs} {st : Nat → Nat} (h : RSp ρ st) : RSp (pL ρ (4, 0, 0) 0 (lR ρ (4, 0, 0) 0 + 1)) (va_up st 0 (st 0 + 1)) := by
  obtain ⟨a, b, c, d, e, f, g⟩ := h
  have n : ∀ q : Ro, q ≠ (4, 0, 0) → lR (pL ρ (4, 0, 0) 0 (lR ρ (4, 0, 0) 0 + 1)) q = lR ρ q := fun q hq => by funext i; rw [lR_pL, if_neg (fun z => hq z.1)]
  refine ⟨fun i hi => ?_, ?_, ?_, fun i i1 i2 => ?_, ?_, ?_, ?_⟩
  · rw [lR_pL]
    by_cases e : i = 0
    · rw [if_pos ⟨rfl, e⟩, e, ups, a 0 (by omega), show (1 : Int64) = lN 1 from rfl, lN_add]
    · rw [if_neg (fun z => e z.2), upn e]; exact a i hi
  · rw [n _ (by decide), upn (by omega)]; exact b
  · rw [n _ (by decide), upn (by omega)]; exact c
  · rw [n _ (by decide), upn (by omega)]; exact d i i1 i2
  · rw [n _ (by decide), upn (by omega)]; exact e
  · rw [n _ (by decide), upn (by omega)]; exact f
  · rw [n _ (by decide), upn (by omega)]; exact g
theorem RSp_k {ρ : Rs} {st : Nat → Nat} {j y : Nat} (hj : j < 4) (h : RSp ρ st) : RSp (pL ρ (4, 0, 0) j (lN y)) (va_up st j y) := by
  obtain ⟨a, b, c, d, e, f, g⟩ := h
  have n : ∀ q : Ro, q ≠ (4, 0, 0) → lR (pL ρ (4, 0, 0) j (lN y)) q = lR ρ q := fun q hq => by funext i; rw [lR_pL, if_neg (fun z => hq z.1)]
  refine ⟨fun i hi => ?_, ?_, ?_, fun i i1 i2 => ?_, ?_, ?_, ?_⟩
  · rw [lR_pL]
    by_cases e : i = j
    · rw [if_pos ⟨rfl, e⟩, e, ups]
    · rw [if_neg (fun z => e z.2), upn e]; exact a i hi
  · rw [n _ (by decide), upn (by omega)]; exact b
  · rw [n _ (by decide), upn (by omega)]; exact c
  · rw [n _ (by decide), upn (by omega)]; exact d i i1 i2
  · rw [n _ (by decide), upn (by omega)]; exact e
  · rw [n _ (by decide), upn (by omega)]; exact f
  · rw [n _ (by decide), upn (by omega)]; exact g
/-- the core: all but stamps -/
def RCo (ρ : Rs) (τ : Wd) : Prop := Wok τ ∧ RWo ρ τ ∧ RG ρ τ ∧ RCv ρ τ ∧ iR ρ (0, 0, 0) 8 = nI (dB τ) ∧ KRm (nR ρ)
theorem RCo_l {ρ : Rs} {τ : Wd} {j : Nat} {x : Int64} (h : RCo ρ τ) : RCo (pL ρ (4, 0, 0) j x) τ := by
  obtain ⟨g1, g2, g3, g4, g5, g6⟩ := h
  have a : Ag nW ρ (pL ρ (4, 0, 0) j x) := Ag_pL rfl
  exact ⟨g1, RWo_ag g2 a, RG_ag g3 a (n10 0 0), RCv_ag g4 a rfl (fun j => n10 1 j), g5, g6⟩
/-- a stamp j (1 world, 2 start, 3 aim) and the latest -/
theorem RC_up {ρ : Rs} {τ : Wd} {B j : Nat} {st : Nat → Nat} (hj : 1 ≤ j ∧ j < 4) (g : RCo ρ τ) (s1 : RSp ρ st) (s2 : ∀ i, i ≤ 12 → st i ≤ st 0) (s3 : st 0 ≤ B) (hv : RVd ρ τ (va_up (va_up st 0 (st 0 + 1)) j (st 0 + 1))) : RC (pL (pL ρ (4, 0, 0) 0 (lR ρ (4, 0, 0) 0 + 1)) (4, 0, 0) j (lR ρ (4, 0, 0) 0 + 1)) τ (B + 1) := by
  have e : lR ρ (4, 0, 0) 0 + 1 = lN (st 0 + 1) := by rw [s1.1 0 (by omega), show (1 : Int64) = lN 1 from rfl, lN_add]
  have h0 := RSp_0 s1
  rw [e] at h0 ⊢
  obtain ⟨g1, g2, g3, g4, g5, g6⟩ := RCo_l (j := j) (x := lN (st 0 + 1)) (RCo_l (j := 0) (x := lN (st 0 + 1)) g)
  refine ⟨g1, g2, g3, g4, g5, g6, va_up (va_up st 0 (st 0 + 1)) j (st 0 + 1), RSp_k hj.2 h0, fun i hi => ?_, ?_, RVd_l (RVd_l hv)⟩
  · rw [upn (b := 0) (by omega), ups]
    by_cases e1 : i = j
    · rw [e1, ups]; omega
    · rw [upn e1]
      by_cases e2 : i = 0
      · rw [e2, ups]; omega
      · rw [upn e2]; have := s2 i hi; omega
  · rw [upn (by omega), ups]; omega
theorem RC_W {ρ : Rs} {τ : Wd} {B : Nat} {st : Nat → Nat} (g : RCo ρ τ) (s1 : RSp ρ st) (s2 : ∀ i, i ≤ 12 → st i ≤ st 0) (s3 : st 0 ≤ B) : RC (pL (pL ρ (4, 0, 0) 0 (lR ρ (4, 0, 0) 0 + 1)) (4, 0, 0) 1 (lR ρ (4, 0, 0) 0 + 1)) τ (B + 1) := by
  refine RC_up (by omega) g s1 s2 s3 ⟨fun a b => ?_, fun a b => ?_, fun i i1 i2 a b => ?_, fun a b => ?_, fun a => ?_, fun a => ?_⟩
  · exfalso; rw [ups, upn (by omega), upn (by omega)] at a; have := s2 4 (by omega); omega
  · exfalso; rw [ups, upn (by omega), upn (by omega)] at a; have := s2 5 (by omega); omega
  · exfalso; rw [ups, upn (by omega), upn (by omega)] at a; have := s2 (6 + i) (by omega); omega
  · exfalso; rw [ups, upn (by omega), upn (by omega)] at a; have := s2 10 (by omega); omega
  · exfalso; rw [upn (by omega), ups, upn (by omega), upn (by omega)] at a; have := s2 11 (by omega); omega
  · exfalso; rw [upn (by omega), ups, upn (by omega), upn (by omega)] at a; have := s2 12 (by omega); omega
theorem RC_C {ρ : Rs} {τ : Wd} {B : Nat} {st : Nat → Nat} (g : RCo ρ τ) (s1 : RSp ρ st) (s2 : ∀ i, i ≤ 12 → st i ≤ st 0) (s3 : st 0 ≤ B) (v1 : st 1 ≤ st 4 → st 2 ≤ st 4 → RSt ρ τ) (v2 : st 1 ≤ st 5 → st 3 ≤ st 5 → RM ρ τ) (v3 : ∀ i, 1 ≤ i → i ≤ 3 → st 1 ≤ st (6 + i) → st 3 ≤ st (6 + i) → RNu ρ τ i) (v4 : st 1 ≤ st 10 → st 3 ≤ st 10 → RKd ρ τ) : RC (pL ρ (4, 0, 0) 0 (lR ρ (4, 0, 0) 0 + 1)) τ (B + 1) := by
  have h0 := RSp_0 s1
  obtain ⟨g1, g2, g3, g4, g5, g6⟩ := RCo_l (j := 0) (x := lR ρ (4, 0, 0) 0 + 1) g
  refine ⟨g1, g2, g3, g4, g5, g6, va_up st 0 (st 0 + 1), h0, fun i hi => ?_, ?_, RVd_l ⟨fun a b => ?_, fun a b => ?_, fun i i1 i2 a b => ?_, fun a b => ?_, fun a => ?_, fun a => ?_⟩⟩
  · rw [ups]
    by_cases e2 : i = 0
    · rw [e2, ups]; omega
    · rw [upn e2]; have := s2 i hi; omega
  · rw [ups]; omega
  · rw [upn (by omega), upn (by omega)] at a b; exact v1 a b
  · rw [upn (by omega), upn (by omega)] at a b; exact v2 a b
  · rw [upn (by omega), upn (by omega)] at a b; exact v3 i i1 i2 a b
  · rw [upn (by omega), upn (by omega)] at a b; exact v4 a b
  · exfalso; rw [ups, upn (by omega)] at a; have := s2 11 (by omega); omega
  · exfalso; rw [ups, upn (by omega)] at a; have := s2 12 (by omega); omega
theorem RC_le {ρ : Rs} {σ : Wd} {B B' : Nat} (h : RC ρ σ B) (hb : B ≤ B') : RC ρ σ B' := by
  obtain ⟨g1, g2, g3, g4, g5, g6, st, s1, s2, s3, v⟩ := h
  exact ⟨g1, g2, g3, g4, g5, g6, st, s1, s2, by omega, v⟩
theorem Cls_nil {ρ : Rs} {i j : Nat} (h : iR ρ (10, i, j) 0 = 0) : Cls ρ i j [] := ⟨by simp, by rw [h]; rfl, fun x c h => by simp at h, fun c h => by simp at h⟩
section B43
variable {G : Gc} {ρ : Rs} {K : (Ro → Nat) → Option Value → Rs → Prop}
theorem c_inStart (hG : gok G) (k : ∀ ad, K ad none (pL (pL ρ (4, 0, 0) 0 (lR ρ (4, 0, 0) 0 + 1)) (4, 0, 0) 2 (lR ρ (4, 0, 0) 0 + 1))) : semV G r_Ch_inStart [] (fun ad => [.ref (ad (4, 0, 0))]) ρ K := by
  refine semV_intro yk_Ch_inStart.2.2.2.2 (fun _ => Nat.le_of_ble_eq_true rfl) (fun M Q ad0 hM => ?_)
  refine T_Ch_inStart_0 hG hM ρ ?_
  intro ρ1 e1 ρ2 e2
  subst e1; subst e2
  rw [lR_pL, if_pos ⟨rfl, rfl⟩]
  exact k
theorem c_inAim (hG : gok G) (k : ∀ ad, K ad none (pL (pL ρ (4, 0, 0) 0 (lR ρ (4, 0, 0) 0 + 1)) (4, 0, 0) 3 (lR ρ (4, 0, 0) 0 + 1))) : semV G r_Ch_inAim [] (fun ad => [.ref (ad (4, 0, 0))]) ρ K := by
  refine semV_intro yk_Ch_inAim.2.2.2.2 (fun _ => Nat.le_of_ble_eq_true rfl) (fun M Q ad0 hM => ?_)
  refine T_Ch_inAim_0 hG hM ρ ?_
  intro ρ1 e1 ρ2 e2
  subst e1; subst e2
  rw [lR_pL, if_pos ⟨rfl, rfl⟩]
  exact k
theorem c_inCover (hG : gok G) (k : ∀ ad, K ad none (pL ρ (4, 0, 0) 0 (lR ρ (4, 0, 0) 0 + 1))) : semV G r_Ch_inCover [] (fun ad => [.ref (ad (4, 0, 0))]) ρ K := by
  refine semV_intro yk_Ch_inCover.2.2.2.2 (fun _ => Nat.le_of_ble_eq_true rfl) (fun M Q ad0 hM => ?_)
  refine T_Ch_inCover_0 hG hM ρ ?_
  intro ρ1 e1
  subst e1
  exact k
/-- stamps where longs and what caches hold stay -/
theorem RSp_i {ρ ρ' : Rs} {st : Nat → Nat} (h : RSp ρ st) (e : ∀ q : Ro, lR ρ' q = lR ρ q) : RSp ρ' st := RSp_ag h (e _) (e _) (e _) (e _) (e _) (e _) (e _)
theorem c_clear (hG : gok G) {σ : Wd} {B : Nat} (h : RC ρ σ B) (k : ∀ ad ρ' r τ, RC ρ' τ (B + 1) → trClear σ r τ → Ag PCl ρ ρ' → K ad (some (.int r)) ρ') : semV G r_WP_clear [] (fun ad => [.ref (ad (0, 0, 0))]) ρ K := by
  obtain ⟨g1, g2, g3, g4, g5, g6, st, s1, s2, s3, v⟩ := h
  refine semV_intro yk_WP_clear.2.2.2.2 (fun _ => Nat.le_of_ble_eq_true rfl) (fun M Q ad0 hM => ?_)
  refine T_WP_clear_0 hG hM ρ ?_
  refine semV_intro yk_Wo_forget.2.2.2.2 (fun _ => Nat.le_of_ble_eq_true rfl) (fun M2 Q2 ad2 hM2 => ?_)
  refine T_Wo_forget_0 hG hM2 ρ (fun ρ1 e1 ρ2 e2 ρ3 e3 ρ4 e4 ρ5 e5 ad => ⟨rfl, fun ρ6 e6 ρ7 e7 ρ8 e8 => ?_⟩)
  refine c_inWorld hG (fun ad => ⟨rfl, fun ad => ?_⟩)
  have i8 : ∀ q j, iR ρ8 q j = if q = (0, 0, 0) ∧ j = 8 then 0 else if q = (3, 0, 0) ∧ j = 0 then 0 else if q = (10, 0, 0) ∧ j = 0 then 0 else if q = (1, 0, 0) ∧ j = 9 then 0 else if q = (1, 0, 0) ∧ j = 8 then 0 else if q = (1, 0, 0) ∧ j = 2 then 0 else if q = (1, 0, 0) ∧ j = 1 then 1 else if q = (1, 0, 0) ∧ j = 0 then 0 else iR ρ q j := by
    intro q j
    rw [e8, iR_pI, e7, iR_pI, e6, iR_pI, e5, iR_pI, e4, iR_pI, e3, iR_pI, e2, iR_pI, e1, iR_pI]
  have n8 : nR ρ8 = nR ρ := by rw [e8, e7, e6, e5, e4, e3, e2, e1]; rfl
  have l8 : lR ρ8 = lR ρ := by rw [e8, e7, e6, e5, e4, e3, e2, e1]; rfl
  have core : RCo ρ8 (sClear σ) := by
    refine ⟨⟨?_, ?_, ?_, ?_, ?_, ?_, ?_, ?_, ?_⟩, ⟨⟨?_, ?_, ?_, ?_, ?_, ?_⟩, ?_, ?_, ?_, ?_, ?_, ?_⟩, ⟨?_, ?_⟩, ⟨?_, ?_, ?_⟩, ?_, ?_⟩
    · show 0 ≤ 8; omega
    · intro t ht; exact absurd ht (Nat.not_lt_zero _)
    · show 1 ≤ 4096; omega
    · show 0 < 1; omega
    · show 0 ≤ 12; omega
    · intro a ha; exact absurd ha (Nat.not_lt_zero _)
    · show 0 ≤ 6; omega
    · rintro x (hx | hx | hx)
      · exact absurd hx (Nat.not_lt_zero _)
      · show (va_up (dC σ) 12 [] x).length ≤ 4 ∧ ∀ c ∈ va_up (dC σ) 12 [] x, _
        rw [hx, ups]; exact ⟨by simp, fun c h => by simp at h⟩
      · have : 13 ≤ x ∧ x < 13 + 0 := hx
        omega
    · intro a k ha; exact absurd ha (Nat.not_lt_zero _)
    · rw [i8]; simp; rfl
    · rw [i8]; simp; rfl
    · show 0 ≤ 8; omega
    · show 1 ≤ 4096; omega
    · intro t ht; exact absurd ht (Nat.not_lt_zero _)
    · intro t ht; exact absurd ht (Nat.not_lt_zero _)
    · show 0 ≤ 12; omega
    · rw [i8]; simp; rfl
    · intro a ha; exact absurd ha (Nat.not_lt_zero _)
    · intro z; exact absurd (by rw [i8]; simp) z
    · intro a ha; exact absurd ha (Nat.not_lt_zero _)
    · intro z; exact absurd (by rw [i8]; simp) z
    · show Cls ρ8 0 0 (va_up (dC σ) 12 [] 12)
      rw [ups]
      exact Cls_nil (by rw [i8]; simp)
    · show ∀ c ∈ va_up (dC σ) 12 [] 12, _
      rw [ups]; intro c h; simp at h
    · rw [i8]; simp; rfl
    · show 0 ≤ 6; omega
    · intro p hp; exact absurd hp (Nat.not_lt_zero _)
    · rw [i8]; simp; rfl
    · rw [n8]; exact g6
  refine k ad _ _ (sClear σ) (RC_W core (RSp_i s1 (fun q => by rw [l8])) s2 s3) ⟨g2.1.1, rfl⟩ ?_
  refine Ag_tr ?_ (Ag_tr (Ag_pL (by unfold PCl; decide)) (Ag_pL (by unfold PCl; decide)))
  rw [e8, e7, e6, e5, e4, e3, e2, e1]
  refine Ag_tr (Ag_pI (by unfold PCl; decide)) (Ag_tr (Ag_pI (by unfold PCl; decide)) (Ag_tr (Ag_pI (by unfold PCl; decide)) (Ag_tr (Ag_pI (by unfold PCl; decide)) (Ag_tr (Ag_pI (by unfold PCl; decide)) (Ag_tr (Ag_pI (by unfold PCl; decide)) (Ag_tr (Ag_pI (by unfold PCl; decide)) (Ag_pI (by unfold PCl; decide))))))))
theorem c_start (hG : gok G) {σ : Wd} {B : Nat} {v : Int32} (h : RC ρ σ B) (k : ∀ ad ρ' r τ, RC ρ' τ (B + 1) → trStart σ v r τ → Ag PCl ρ ρ' → K ad (some (.int r)) ρ') : semV G r_WP_start [] (fun ad => [.ref (ad (0, 0, 0)), .int v]) ρ K := by
  have h0 := h
  obtain ⟨g1, g2, g3, g4, g5, g6, st, s1, s2, s3, v1, v2, v3, v4, v5, v6⟩ := h
  have hT := g2.1
  have h4 := hT.2.2.2.1
  have hB2 := g1.2.2.2.1
  refine semV_intro yk_WP_start.2.2.2.2 (fun _ => Nat.le_of_ble_eq_true rfl) (fun M Q ad0 hM => ?_)
  refine T_WP_start_0 hG hM _ ρ ?_
  refine c_isState hG hT.2.1 (by omega) (fun hv ad => ⟨_, rfl, fun z => absurd z (by decide), fun _ => ?_⟩) (fun hv ad => ⟨_, rfl, fun _ ad => k ad ρ _ σ (RC_le h0 (by omega)) (Or.inl ⟨hv, rfl, rfl⟩) Ag_rf, fun z => absurd rfl z⟩)
  obtain ⟨s, hs, ev⟩ := vp_in_of hv (by omega)
  subst ev
  rw [g5]
  refine ⟨fun z ad => ?_, fun z ρ5 e5 => ?_⟩
  · have es : s = dB σ := (nI_eq (by omega) (by omega)).mp z
    refine k ad ρ _ σ (RC_le h0 (by omega)) (Or.inr ⟨s, hs, rfl, rfl, ?_⟩) Ag_rf
    rw [es]; rfl
  · have a5 : Ag (fun q => q = (0, 0, 0)) ρ ρ5 := by rw [e5]; exact Ag_pI rfl
    have w5 : Ag nW ρ ρ5 := Ag_mono a5 (fun q h => by rw [h]; rfl)
    have eq : EqC σ (sStart σ s) := ⟨rfl, rfl, rfl, rfl, rfl, fun _ _ => rfl⟩
    have core : RCo ρ5 (sStart σ s) := by
      refine ⟨⟨g1.1, g1.2.1, g1.2.2.1, hs, g1.2.2.2.2⟩, eq_RWo eq (RWo_ag g2 w5), RG_ag g3 w5 (n10 0 0), RCv_ag g4 w5 (by rw [(a5 (3, 0, 0) (by simp)).2.1]) (fun j => n10 1 j), ?_, by rw [e5]; exact g6⟩
      rw [e5, iR_pI, if_pos ⟨rfl, rfl⟩]; rfl
    refine c_inStart hG (fun ad => ⟨rfl, fun ad => ?_⟩)
    refine k ad _ _ (sStart σ s) (RC_up (j := 2) (by omega) core (RSp_i s1 (fun q => by rw [e5]; rfl)) s2 s3 ⟨fun a b => ?_, fun a b => ?_, fun i i1 i2 a b => ?_, fun a b => ?_, fun a => ?_, fun a => ?_⟩) (Or.inr ⟨s, hs, rfl, rfl, rfl⟩) (Ag_tr (Ag_mono a5 (fun q h => by rw [h]; unfold PCl; decide)) (Ag_tr (Ag_pL (by unfold PCl; decide)) (Ag_pL (by unfold PCl; decide))))
    · exfalso; rw [ups, upn (by omega), upn (by omega)] at b; have := s2 4 (by omega); omega
    · rw [upn (by omega), upn (by omega), upn (by omega), upn (by omega)] at a b
      exact eq_RM eq rfl (RM_of (v2 a b) (a5 (33, 0, 0) (by simp)).1 (a5 (33, 0, 0) (by simp)).2.1 (by rw [(a5 (6, 0, 0) (by simp)).2.1]))
    · rw [upn (by omega), upn (by omega), upn (by omega), upn (by omega)] at a b
      have hg : gNo i ≠ (0, 0, 0) := by unfold gNo; split <;> (try split) <;> decide
      exact eq_RNu eq rfl (RNu_of (v3 i i1 i2 a b) (a5 (gNo i) hg).1 (a5 (gNo i) hg).2.1)
    · rw [upn (by omega), upn (by omega), upn (by omega), upn (by omega)] at a b
      exact eq_RKd eq rfl (RKd_of (v4 a b) (a5 (34, 2, 0) (by simp)).1 (a5 (34, 2, 0) (by simp)).2.1 (a5 (34, 3, 0) (by simp)).1 (a5 (34, 3, 0) (by simp)).2.1 (by rw [(a5 (7, 0, 0) (by simp)).2.1]))
    · exfalso; rw [upn (by omega), ups, upn (by omega), upn (by omega)] at a; have := s2 11 (by omega); omega
    · exfalso; rw [upn (by omega), ups, upn (by omega), upn (by omega)] at a; have := s2 12 (by omega); omega
end B43
