/-! THE CLASS: what is found is kept -/
theorem lN_max {a b : Nat} (ha : a < 2 ^ 31) (hb : b < 2 ^ 31) : (if lN a < lN b then lN b else lN a) = lN (max a b) := by
  by_cases h : a < b
  · rw [if_pos ((lN_lt ha hb).mpr h), Nat.max_eq_right (by omega)]
  · rw [if_neg (fun y => h ((lN_lt ha hb).mp y)), Nat.max_eq_left (by omega)]
def PWi (q : Ro) : Prop := q = (33, 0, 0) ∨ q = (6, 0, 0)
theorem PWi_nW {q : Ro} (h : PWi q) : nW q := by rcases h with h | h <;> rw [h] <;> rfl
def PWn (q : Ro) : Prop := q.1 = 33 ∨ q.1 = 6
theorem PWn_nW {q : Ro} (h : PWn q) : nW q := by
  unfold nW wrB
  rcases h with h | h <;> rw [h] <;> rfl
def PWk (q : Ro) : Prop := q = (33, 0, 0) ∨ q = (6, 0, 0) ∨ q.1 = 7 ∨ q.1 = 34
section B38
variable {G : Gc} {ρ : Rs} {K : (Ro → Nat) → Option Value → Rs → Prop}
theorem c_prepW (hG : gok G) {σ : Wd} {B : Nat} (h : RC ρ σ B) (k : ∀ ad ρ', RC ρ' σ B → RD ρ' σ → Ag PW ρ ρ' → K ad none ρ') : semV G r_Wo_prepare [23, 24, 30] (fun ad => [.ref (ad (1, 0, 0))]) ρ K :=
  c_prepare hG h.2.1 (fun ad ρ' h1 h2 h3 => k ad ρ' (RC_pw h h1 h3) h2 h3)
theorem c_fReached (hG : gok G) {σ : Wd} {B : Nat} (hB : B < 2 ^ 30) (h : RC ρ σ B) (hd : RD ρ σ) (k : ∀ ad ρ', RC ρ' σ B → RD ρ' σ → RSt ρ' σ → Ag PR ρ ρ' → K ad none ρ') : semV G r_WP_findReached [32] (fun ad => [.ref (ad (0, 0, 0))]) ρ K := by
  have h0 := h
  obtain ⟨g1, g2, g3, g4, g5, g6, st, s1, s2, s3, v1, v2, v3, v4, v5, v6⟩ := h
  have b1 := s2 1 (by omega); have b2 := s2 2 (by omega); have b4 := s2 4 (by omega)
  refine semV_intro yk_WP_findReached.2.2.2.2 (fun _ => Nat.le_of_ble_eq_true rfl) (fun M Q ad0 hM => ?_)
  refine T_WP_findReached_0 hG hM ρ (fun z1 e1 => ?_)
  rw [s1.1 2 (by omega), s1.1 1 (by omega), lN_max (by omega) (by omega)] at e1
  rw [s1.2.1, e1, lg_cmp_ge, lN_le (by omega) (by omega)]
  refine ⟨fun z ad => k ad ρ h0 hd (v1 (by omega) (by omega)) Ag_rf, fun z => ?_⟩
  rw [g5]
  refine c_spread hG (RWr_of g2 hd) g1.2.2.2.1 (fun ad ρ2 r1 r2 => ⟨rfl, fun ρ6 e6 ad => ?_⟩)
  have a6 : Ag PR ρ ρ6 := Ag_tr r2 (by rw [e6]; exact Ag_pL (Or.inl rfl))
  have A := fun q (hq : ¬ PR q) => a6 q hq
  have l4 : lR ρ2 (4, 0, 0) = lR ρ (4, 0, 0) := (r2 (4, 0, 0) (by simp [PR])).2.2
  have l5 : lR ρ6 (5, 0, 0) 4 = lN (st 0) := by rw [e6, lR_pL, if_pos ⟨rfl, rfl⟩, l4]; exact s1.1 0 (by omega)
  have r6 : RSt ρ6 σ := RSt_of r1 (by rw [e6]; rfl) (by rw [e6]; rfl) (by rw [e6]; rfl) (by rw [e6]; funext j; rw [lR_pL, if_neg (by simp)]) (by rw [e6]; rfl)
  refine k ad ρ6 (RC_mk (st := va_up st 4 (st 0)) h0 (Ag_mono a6 (fun _ => PR_nW)) (by rw [(A (3, 0, 0) (by simp [PR])).2.1]) (by rw [(A (0, 0, 0) (by simp [PR])).2.1]) (KRm_of g6 (fun f => (A (34, f, 0) (by simp [PR])).1)) ⟨fun i hi => ?_, ?_, ?_, fun i i1 i2 => ?_, ?_, ?_, ?_⟩ (fun i hi => ?_) (by rw [upn (by omega)]; exact s3) ⟨fun _ _ => r6, fun x y => ?_, fun i i1 i2 x y => ?_, fun x y => ?_, fun x => ?_, fun x => ?_⟩) (RD_ag hd (Ag_mono a6 (fun _ => PR_nW))) r6 a6
  · rw [(A (4, 0, 0) (by simp [PR])).2.2, upn (by omega)]; exact s1.1 i hi
  · rw [ups]; exact l5
  · rw [(A (6, 0, 0) (by simp [PR])).2.2, upn (by omega)]; exact s1.2.2.1
  · rw [(A (33, 6, 0) (by simp [PR])).2.2, upn (by omega)]; exact s1.2.2.2.1 i i1 i2
  · rw [(A (7, 0, 0) (by simp [PR])).2.2, upn (by omega)]; exact s1.2.2.2.2.1
  · rw [(A (0, 0, 0) (by simp [PR])).2.2, upn (by omega)]; exact s1.2.2.2.2.2.1
  · rw [(A (3, 0, 0) (by simp [PR])).2.2, upn (by omega)]; exact s1.2.2.2.2.2.2
  · rw [upn (b := 0) (by omega)]
    by_cases e : i = 4
    · rw [e, ups]; omega
    · rw [upn e]; exact s2 i hi
  · rw [upn (by omega), upn (by omega)] at x y
    exact RM_of (v2 x y) (A (33, 0, 0) (by simp [PR])).1 (A (33, 0, 0) (by simp [PR])).2.1 (by rw [(A (6, 0, 0) (by simp [PR])).2.1])
  · rw [upn (by omega), upn (by omega)] at x y
    have hg : (gNo i).1 = 33 := by unfold gNo; split <;> (try split) <;> rfl
    exact RNu_of (v3 i i1 i2 x y) (A (gNo i) (by simp [PR, hg])).1 (A (gNo i) (by simp [PR, hg])).2.1
  · rw [upn (by omega), upn (by omega)] at x y
    exact RKd_of (v4 x y) (A (34, 2, 0) (by simp [PR])).1 (A (34, 2, 0) (by simp [PR])).2.1 (A (34, 3, 0) (by simp [PR])).1 (A (34, 3, 0) (by simp [PR])).2.1 (by rw [(A (7, 0, 0) (by simp [PR])).2.1])
  · rw [upn (by omega), upn (by omega)] at x
    rw [(A (0, 0, 0) (by simp [PR])).2.1]; exact v5 x
  · rw [upn (by omega), upn (by omega)] at x
    exact RFl_of (v6 x) (A (3, 0, 0) (by simp [PR])).2.1
theorem c_fAim (hG : gok G) {σ : Wd} {B : Nat} (hB : B < 2 ^ 30) (h : RC ρ σ B) (hd : RD ρ σ) (k : ∀ ad ρ', RC ρ' σ B → RD ρ' σ → RM ρ' σ → Ag PWi ρ ρ' → K ad none ρ') : semV G r_WP_findAim [33] (fun ad => [.ref (ad (0, 0, 0))]) ρ K := by
  have h0 := h
  obtain ⟨g1, g2, g3, g4, g5, g6, st, s1, s2, s3, v1, v2, v3, v4, v5, v6⟩ := h
  have b1 := s2 1 (by omega); have b3 := s2 3 (by omega); have b5 := s2 5 (by omega)
  refine semV_intro yk_WP_findAim.2.2.2.2 (fun _ => Nat.le_of_ble_eq_true rfl) (fun M Q ad0 hM => ?_)
  refine T_WP_findAim_0 hG hM ρ (fun z1 e1 => ?_)
  rw [s1.1 3 (by omega), s1.1 1 (by omega), lN_max (by omega) (by omega)] at e1
  rw [s1.2.2.1, e1, lg_cmp_ge, lN_le (by omega) (by omega)]
  refine ⟨fun z ad => k ad ρ h0 hd (v2 (by omega) (by omega)) Ag_rf, fun z => ?_⟩
  refine c_Wi_findAim hG g2.1 hd.1 g3 (fun ad ρ2 r1 r2 r3 r4 => ⟨rfl, fun ρ6 e6 ad => ?_⟩)
  have a6 : Ag PWi ρ ρ6 := Ag_tr (Ag_mono r4 (fun q h => h)) (by rw [e6]; exact Ag_pL (Or.inr rfl))
  have A := fun q (hq : ¬ PWi q) => a6 q hq
  have l4 : lR ρ2 (4, 0, 0) = lR ρ (4, 0, 0) := (r4 (4, 0, 0) (by simp)).2.2
  have l6 : lR ρ6 (6, 0, 0) 2 = lN (st 0) := by rw [e6, lR_pL, if_pos ⟨rfl, rfl⟩, l4]; exact s1.1 0 (by omega)
  have r6 : RM ρ6 σ := RM_of r1 (by rw [e6]; rfl) (by rw [e6]; rfl) (by rw [e6]; rfl)
  refine k ad ρ6 (RC_mk (st := va_up st 5 (st 0)) h0 (Ag_mono a6 (fun _ => PWi_nW)) (by rw [(A (3, 0, 0) (by simp [PWi])).2.1]) (by rw [(A (0, 0, 0) (by simp [PWi])).2.1]) (KRm_of g6 (fun f => (A (34, f, 0) (by simp [PWi])).1)) ⟨fun i hi => ?_, ?_, ?_, fun i i1 i2 => ?_, ?_, ?_, ?_⟩ (fun i hi => ?_) (by rw [upn (by omega)]; exact s3) ⟨fun x y => ?_, fun _ _ => r6, fun i i1 i2 x y => ?_, fun x y => ?_, fun x => ?_, fun x => ?_⟩) (RD_ag hd (Ag_mono a6 (fun _ => PWi_nW))) r6 a6
  · rw [(A (4, 0, 0) (by simp [PWi])).2.2, upn (by omega)]; exact s1.1 i hi
  · rw [(A (5, 0, 0) (by simp [PWi])).2.2, upn (by omega)]; exact s1.2.1
  · rw [ups]; exact l6
  · rw [(A (33, 6, 0) (by simp [PWi])).2.2, upn (by omega)]; exact s1.2.2.2.1 i i1 i2
  · rw [(A (7, 0, 0) (by simp [PWi])).2.2, upn (by omega)]; exact s1.2.2.2.2.1
  · rw [(A (0, 0, 0) (by simp [PWi])).2.2, upn (by omega)]; exact s1.2.2.2.2.2.1
  · rw [(A (3, 0, 0) (by simp [PWi])).2.2, upn (by omega)]; exact s1.2.2.2.2.2.2
  · rw [upn (b := 0) (by omega)]
    by_cases e : i = 5
    · rw [e, ups]; omega
    · rw [upn e]; exact s2 i hi
  · rw [upn (by omega), upn (by omega)] at x y
    exact RSt_of (v1 x y) (A (32, 0, 0) (by simp [PWi])).1 (A (32, 0, 0) (by simp [PWi])).2.1 (A (32, 1, 0) (by simp [PWi])).1 (A (32, 1, 0) (by simp [PWi])).2.2 (by rw [(A (5, 0, 0) (by simp [PWi])).2.1])
  · rw [upn (by omega), upn (by omega)] at x y
    have hg : gNo i ≠ (33, 0, 0) ∧ (gNo i).1 = 33 := by unfold gNo; split <;> (try split) <;> exact ⟨by decide, rfl⟩
    have hg2 : ¬ PWi (gNo i) := fun z => by
      rcases z with z | z
      · exact hg.1 z
      · rw [z] at hg; exact absurd hg.2 (by decide)
    exact RNu_of (v3 i i1 i2 x y) (A (gNo i) hg2).1 (A (gNo i) hg2).2.1
  · rw [upn (by omega), upn (by omega)] at x y
    exact RKd_of (v4 x y) (A (34, 2, 0) (by simp [PWi])).1 (A (34, 2, 0) (by simp [PWi])).2.1 (A (34, 3, 0) (by simp [PWi])).1 (A (34, 3, 0) (by simp [PWi])).2.1 (by rw [(A (7, 0, 0) (by simp [PWi])).2.1])
  · rw [upn (by omega), upn (by omega)] at x
    rw [(A (0, 0, 0) (by simp [PWi])).2.1]; exact v5 x
  · rw [upn (by omega), upn (by omega)] at x
    exact RFl_of (v6 x) (A (3, 0, 0) (by simp [PWi])).2.1
theorem c_numbersOf (hG : gok G) {w : Nat} (hw : w = 1 ∨ w = 2 ∨ w = 3) (k : ∀ ad, K ad (some (.ref (ad (gNo w)))) ρ) : semV G r_Wi_numbersOf [] (fun ad => [.ref (ad (6, 0, 0)), .int (nI w)]) ρ K := by
  refine semV_intro yk_Wi_numbersOf.2.2.2.2 (fun _ => Nat.le_of_ble_eq_true rfl) (fun M Q ad0 hM => ?_)
  refine T_Wi_numbersOf_0 hG hM _ ρ ?_
  rcases hw with e | e | e <;> subst e
  · exact ⟨fun _ => k, fun z => absurd rfl z⟩
  · exact ⟨fun z => absurd z (by decide), fun _ => ⟨fun _ => k, fun z => absurd rfl z⟩⟩
  · exact ⟨fun z => absurd z (by decide), fun _ => ⟨fun z => absurd z (by decide), fun _ => k⟩⟩
theorem c_fNum (hG : gok G) {σ : Wd} {B w : Nat} (hw : w = 1 ∨ w = 2 ∨ w = 3) (hB : B < 2 ^ 30) (h : RC ρ σ B) (hd : RD ρ σ) (k : ∀ ad ρ', RC ρ' σ B → RD ρ' σ → RM ρ' σ → RNu ρ' σ w → Ag PWn ρ ρ' → K ad (some (.ref (ad (gNo w)))) ρ') : semV G r_WP_findNumbers [33] (fun ad => [.ref (ad (0, 0, 0)), .int (nI w)]) ρ K := by
  refine semV_intro yk_WP_findNumbers.2.2.2.2 (fun _ => Nat.le_of_ble_eq_true rfl) (fun M Q ad0 hM => ?_)
  refine T_WP_findNumbers_0 hG hM _ ρ ?_
  refine c_fAim hG hB h hd (fun ad ρ1 h1 d1 m1 a1 => ⟨rfl, vp_in_nI (by omega) (by omega), ?_⟩)
  have h0 := h1
  obtain ⟨g1, g2, g3, g4, g5, g6, st, s1, s2, s3, v1, v2, v3, v4, v5, v6⟩ := h1
  have b1 := s2 1 (by omega); have b3 := s2 3 (by omega); have b6 := s2 (6 + w) (by omega)
  have a1' : Ag PWn ρ ρ1 := Ag_mono a1 (fun q h => h.elim (fun h => Or.inl (by rw [h])) (fun h => Or.inr (by rw [h])))
  obtain ⟨og, tg, -⟩ := gNo_ok hw
  intro z1 e1
  rw [s1.1 3 (by omega), s1.1 1 (by omega), lN_max (by omega) (by omega)] at e1
  rw [nI_clamp (by omega), s1.2.2.2.1 w (by omega) (by omega), e1, lg_cmp_ge, lN_le (by omega) (by omega)]
  refine ⟨fun z => c_numbersOf hG hw (fun ad => ⟨gNo w, og, tg, rfl, fun ad => k ad ρ1 h0 d1 m1 (v3 w (by omega) (by omega) (by omega) (by omega)) a1'⟩), fun z => ?_⟩
  refine c_findNumbers hG hw (RWr_of g2 d1) m1.1 m1.2.1 (fun ad ρ2 r1 r2 => ⟨rfl, vp_in_nI (by omega) (by omega), fun ρ6 e6 => ?_⟩)
  refine c_numbersOf hG hw (fun ad => ⟨gNo w, og, tg, rfl, fun ad => ?_⟩)
  obtain ⟨-, -, gn8, gn0, gn7, -⟩ := gNo_ok hw
  have hg33 : (gNo w).1 = 33 := by unfold gNo; split <;> (try split) <;> rfl
  have p33 : ∀ q, PN w q → q.1 = 33 := fun q hq => by
    rcases hq with z | z | z
    · rw [z]; exact hg33
    · rw [z]
    · rw [z]
  have a6 : Ag PWn ρ1 ρ6 := Ag_tr (Ag_mono r2 (fun q h => Or.inl (p33 q h))) (by rw [e6]; exact Ag_pL (Or.inl rfl))
  have A := fun q (hq : ¬ PWn q) => a6 q hq
  have n0 : ¬ PN w (33, 0, 0) := by
    rintro (z | z | z)
    · exact gn0 z.symm
    · exact absurd z (by decide)
    · exact absurd z (by decide)
  have n6 : ¬ PN w (33, 6, 0) := by
    rintro (z | z | z)
    · rcases hw with e | e | e <;> subst e <;> exact absurd z (by decide)
    · exact absurd z (by decide)
    · exact absurd z (by decide)
  have n60 : ¬ PN w (6, 0, 0) := fun z => absurd (p33 _ z) (by decide)
  have n4 : ¬ PN w (4, 0, 0) := fun z => absurd (p33 _ z) (by decide)
  have l4 : lR ρ2 (4, 0, 0) = lR ρ1 (4, 0, 0) := (r2 _ n4).2.2
  have l6 : ∀ i, lR ρ6 (33, 6, 0) i = if i = w then lN (st 0) else lR ρ1 (33, 6, 0) i := by
    intro i
    rw [e6, lR_pL, l4, (r2 _ n6).2.2, s1.1 0 (by omega)]
    by_cases e : i = w
    · rw [if_pos ⟨rfl, e⟩, if_pos e]
    · rw [if_neg (fun z => e z.2), if_neg e]
  have r6 : RNu ρ6 σ w := RNu_of r1 (by rw [e6]; rfl) (by rw [e6]; rfl)
  have m6 : RM ρ6 σ := RM_of m1 (by rw [e6, nR_pL]; exact (r2 _ n0).1) (by rw [e6, iR_pL]; exact (r2 _ n0).2.1) (by rw [e6, iR_pL, (r2 _ n60).2.1])
  refine k ad ρ6 (RC_mk (st := va_up st (6 + w) (st 0)) h0 (Ag_mono a6 (fun _ => PWn_nW)) (by rw [(A (3, 0, 0) (by simp [PWn])).2.1]) (by rw [(A (0, 0, 0) (by simp [PWn])).2.1]) (KRm_of g6 (fun f => (A (34, f, 0) (by simp [PWn])).1)) ⟨fun i hi => ?_, ?_, ?_, fun i i1 i2 => ?_, ?_, ?_, ?_⟩ (fun i hi => ?_) (by rw [upn (by omega)]; exact s3) ⟨fun x y => ?_, fun x y => m6, fun i i1 i2 x y => ?_, fun x y => ?_, fun x => ?_, fun x => ?_⟩) (RD_ag d1 (Ag_mono a6 (fun _ => PWn_nW))) m6 r6 (Ag_tr a1' a6)
  · rw [(A (4, 0, 0) (by simp [PWn])).2.2, upn (by omega)]; exact s1.1 i hi
  · rw [(A (5, 0, 0) (by simp [PWn])).2.2, upn (by omega)]; exact s1.2.1
  · rw [upn (by omega), e6, lR_pL, if_neg (by simp), (r2 _ n60).2.2]; exact s1.2.2.1
  · rw [l6]
    by_cases e : i = w
    · rw [if_pos e, e, ups]
    · rw [if_neg e, upn (by omega)]; exact s1.2.2.2.1 i i1 i2
  · rw [(A (7, 0, 0) (by simp [PWn])).2.2, upn (by omega)]; exact s1.2.2.2.2.1
  · rw [(A (0, 0, 0) (by simp [PWn])).2.2, upn (by omega)]; exact s1.2.2.2.2.2.1
  · rw [(A (3, 0, 0) (by simp [PWn])).2.2, upn (by omega)]; exact s1.2.2.2.2.2.2
  · rw [upn (b := 0) (by omega)]
    by_cases e : i = 6 + w
    · rw [e, ups]; omega
    · rw [upn e]; exact s2 i hi
  · rw [upn (by omega), upn (by omega)] at x y
    exact RSt_of (v1 x y) (A (32, 0, 0) (by simp [PWn])).1 (A (32, 0, 0) (by simp [PWn])).2.1 (A (32, 1, 0) (by simp [PWn])).1 (A (32, 1, 0) (by simp [PWn])).2.2 (by rw [(A (5, 0, 0) (by simp [PWn])).2.1])
  · by_cases e : i = w
    · rw [e]; exact r6
    · rw [upn (by omega), upn (by omega)] at x y
      have hne : ¬ PN w (gNo i) := by
        have hi : i = 1 ∨ i = 2 ∨ i = 3 := by omega
        rintro (z | z | z)
        · apply e
          rcases hi with a | a | a <;> rcases hw with b | b | b <;> subst a <;> subst b <;> first | rfl | exact absurd z (by decide)
        · exact (gNo_ok hi).2.2.2.2.1 z
        · exact (gNo_ok hi).2.2.1 z
      exact RNu_of (v3 i i1 i2 x y) (by rw [e6, nR_pL]; exact (r2 _ hne).1) (by rw [e6, iR_pL]; exact (r2 _ hne).2.1)
  · rw [upn (by omega), upn (by omega)] at x y
    exact RKd_of (v4 x y) (A (34, 2, 0) (by simp [PWn])).1 (A (34, 2, 0) (by simp [PWn])).2.1 (A (34, 3, 0) (by simp [PWn])).1 (A (34, 3, 0) (by simp [PWn])).2.1 (by rw [(A (7, 0, 0) (by simp [PWn])).2.1])
  · rw [upn (by omega), upn (by omega)] at x
    rw [(A (0, 0, 0) (by simp [PWn])).2.1]; exact v5 x
  · rw [upn (by omega), upn (by omega)] at x
    exact RFl_of (v6 x) (A (3, 0, 0) (by simp [PWn])).2.1
theorem c_fKinds (hG : gok G) {σ : Wd} {B : Nat} (hB : B < 2 ^ 30) (h : RC ρ σ B) (hd : RD ρ σ) (k : ∀ ad ρ', RC ρ' σ B → RD ρ' σ → RKd ρ' σ → Ag PWk ρ ρ' → K ad none ρ') : semV G r_WP_findKinds [33, 34] (fun ad => [.ref (ad (0, 0, 0))]) ρ K := by
  refine semV_intro yk_WP_findKinds.2.2.2.2 (fun _ => Nat.le_of_ble_eq_true rfl) (fun M Q ad0 hM => ?_)
  refine T_WP_findKinds_0 hG hM ρ ?_
  refine c_fAim hG hB h hd (fun ad ρ1 h1 d1 m1 a1 => ⟨rfl, ?_⟩)
  have h0 := h1
  obtain ⟨g1, g2, g3, g4, g5, g6, st, s1, s2, s3, v1, v2, v3, v4, v5, v6⟩ := h1
  have b1 := s2 1 (by omega); have b3 := s2 3 (by omega); have b6 := s2 10 (by omega)
  have a1' : Ag PWk ρ ρ1 := Ag_mono a1 (fun q h => h.elim Or.inl (fun h => Or.inr (Or.inl h)))
  intro z1 e1
  rw [s1.1 3 (by omega), s1.1 1 (by omega), lN_max (by omega) (by omega)] at e1
  rw [s1.2.2.2.2.1, e1, lg_cmp_ge, lN_le (by omega) (by omega)]
  refine ⟨fun z ad => k ad ρ1 h0 d1 (v4 (by omega) (by omega)) a1', fun z => ?_⟩
  have hN1 : 1 ≤ nS σ := by have := g1.2.2.2.1; omega
  refine c_split hG (RWr_of g2 d1) hN1 g6 m1.1 m1.2.1 (fun ad ρ2 r1 r2 r3 => ⟨rfl, fun ρ6 e6 ad => ?_⟩)
  have a6 : Ag PKi ρ1 ρ6 := Ag_tr r3 (by rw [e6]; exact Ag_pL (Or.inl rfl))
  have A := fun q (hq : ¬ PKi q) => a6 q hq
  have l4 : lR ρ2 (4, 0, 0) = lR ρ1 (4, 0, 0) := (r3 (4, 0, 0) (by simp [PKi])).2.2
  have l7 : lR ρ6 (7, 0, 0) 1 = lN (st 0) := by rw [e6, lR_pL, if_pos ⟨rfl, rfl⟩, l4]; exact s1.1 0 (by omega)
  have r6 : RKd ρ6 σ := RKd_of r1 (by rw [e6]; rfl) (by rw [e6]; rfl) (by rw [e6]; rfl) (by rw [e6]; rfl) (by rw [e6]; rfl)
  refine k ad ρ6 (RC_mk (st := va_up st 10 (st 0)) h0 (Ag_mono a6 (fun _ => PKi_nW)) (by rw [(A (3, 0, 0) (by simp [PKi])).2.1]) (by rw [(A (0, 0, 0) (by simp [PKi])).2.1]) (by rw [e6]; exact r2) ⟨fun i hi => ?_, ?_, ?_, fun i i1 i2 => ?_, ?_, ?_, ?_⟩ (fun i hi => ?_) (by rw [upn (by omega)]; exact s3) ⟨fun x y => ?_, fun x y => ?_, fun i i1 i2 x y => ?_, fun x y => r6, fun x => ?_, fun x => ?_⟩) (RD_ag d1 (Ag_mono a6 (fun _ => PKi_nW))) r6 (Ag_tr a1' (Ag_mono a6 (fun q h => Or.inr (Or.inr h))))
  · rw [(A (4, 0, 0) (by simp [PKi])).2.2, upn (by omega)]; exact s1.1 i hi
  · rw [(A (5, 0, 0) (by simp [PKi])).2.2, upn (by omega)]; exact s1.2.1
  · rw [(A (6, 0, 0) (by simp [PKi])).2.2, upn (by omega)]; exact s1.2.2.1
  · rw [(A (33, 6, 0) (by simp [PKi])).2.2, upn (by omega)]; exact s1.2.2.2.1 i i1 i2
  · rw [ups]; exact l7
  · rw [(A (0, 0, 0) (by simp [PKi])).2.2, upn (by omega)]; exact s1.2.2.2.2.2.1
  · rw [(A (3, 0, 0) (by simp [PKi])).2.2, upn (by omega)]; exact s1.2.2.2.2.2.2
  · rw [upn (b := 0) (by omega)]
    by_cases e : i = 10
    · rw [e, ups]; omega
    · rw [upn e]; exact s2 i hi
  · rw [upn (by omega), upn (by omega)] at x y
    exact RSt_of (v1 x y) (A (32, 0, 0) (by simp [PKi])).1 (A (32, 0, 0) (by simp [PKi])).2.1 (A (32, 1, 0) (by simp [PKi])).1 (A (32, 1, 0) (by simp [PKi])).2.2 (by rw [(A (5, 0, 0) (by simp [PKi])).2.1])
  · rw [upn (by omega), upn (by omega)] at x y
    exact RM_of (v2 x y) (A (33, 0, 0) (by simp [PKi])).1 (A (33, 0, 0) (by simp [PKi])).2.1 (by rw [(A (6, 0, 0) (by simp [PKi])).2.1])
  · rw [upn (by omega), upn (by omega)] at x y
    have hg : (gNo i).1 = 33 := by unfold gNo; split <;> (try split) <;> rfl
    exact RNu_of (v3 i i1 i2 x y) (A (gNo i) (by simp [PKi, hg])).1 (A (gNo i) (by simp [PKi, hg])).2.1
  · rw [upn (by omega), upn (by omega)] at x
    rw [(A (0, 0, 0) (by simp [PKi])).2.1]; exact v5 x
  · rw [upn (by omega), upn (by omega)] at x
    exact RFl_of (v6 x) (A (3, 0, 0) (by simp [PKi])).2.1
end B38
