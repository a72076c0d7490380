/-! THE CLASS ANSWERS: count, of, best -/
theorem PW_Cl {q : Ro} (h : PW q) : PCl q := by
  unfold PCl
  rcases h with h | h | h | h | h | h
  · rw [h]; omega
  · rw [h]; omega
  · rw [h]; decide
  · rw [h]; decide
  · rw [h]; omega
  · rw [h]; decide
theorem PR_Cl {q : Ro} (h : PR q) : PCl q := by unfold PCl; rcases h with h | h <;> rw [h] <;> omega
theorem PWi_Cl {q : Ro} (h : PWi q) : PCl q := by unfold PCl; rcases h with h | h <;> rw [h] <;> decide
theorem PWn_Cl {q : Ro} (h : PWn q) : PCl q := by unfold PCl; rcases h with h | h <;> rw [h] <;> omega
theorem PWk_Cl {q : Ro} (h : PWk q) : PCl q := by
  unfold PCl
  rcases h with h | h | h | h
  · rw [h]; decide
  · rw [h]; decide
  · rw [h]; omega
  · rw [h]; omega
theorem PSe_Cl {q : Ro} (h : PSe q) : PCl q := by unfold PCl; rcases h with h | h <;> rw [h] <;> omega
theorem PCo_Cl {q : Ro} (h : PCo q) : PCl q := by unfold PCl; rcases h with h | h <;> rw [h] <;> decide
section B39
variable {G : Gc} {ρ : Rs} {K : (Ro → Nat) → Option Value → Rs → Prop}
theorem c_countNumbered (hG : gok G) {σ : Wd} {g : Ro} {d : Nat → Option Nat} (og : okR g = true) (tg : tgR g = 50) (hT : RT ρ σ) (hg : nS σ ≤ nR ρ g) (hd : ∀ s, s < nS σ → iR ρ g s = oI (d s)) (hN : ∀ s m, d s = some m → m < nS σ) (k : ∀ ad, K ad (some (.int (nI (cnt (fun s => (d s).isSome) (nS σ))))) ρ) : semV G r_WP_countNumbered [] (fun ad => [.ref (ad (0, 0, 0)), .ref (ad g)]) ρ K := by
  have h1 := hT.2.1
  have h4 := hT.2.2.2.1
  refine semV_intro yk_WP_countNumbered.2.2.2.2 (fun _ => Nat.le_of_ble_eq_true rfl) (fun M Q ad0 hM => ?_)
  have key : ∀ dd s, s + dd = nS σ → Y G [] ad0 M Q 4 (fun ad => [(0, .ref (ad (0, 0, 0))), (1, .ref (ad g)), (2, .int (nI (cnt (fun s => (d s).isSome) s))), (3, .int (nI s))]) (fun ad => []) ρ := by
    intro dd
    induction dd with
    | zero =>
      intro s hdd
      have es : s = nS σ := by omega
      subst es
      exact T_WP_countNumbered_4 hG hM g og tg _ _ ρ ⟨fun _ => k, fun z => absurd (by rw [h1]; exact (nI_leI (by omega) (by omega)).mpr (Nat.le_refl _)) z⟩
    | succ dd ih =>
      intro s hdd
      have hs : s < nS σ := by omega
      refine T_WP_countNumbered_4 hG hM g og tg _ _ ρ ⟨fun z => absurd (by rw [h1] at z; exact (nI_leI (by omega) (by omega)).mp z) (by omega), fun _ => ⟨in_nI (by omega) (by omega), ?_⟩⟩
      rw [nI_clamp (by omega), hd s hs, nI_1, nI_1]
      intro z3 e3
      have e3 : z3 = nI (cnt (fun s => (d s).isSome) (s + 1)) := by
        rw [e3]
        show _ = nI (cnt (fun s => (d s).isSome) s + (if (d s).isSome = true then 1 else 0))
        have hm1 := oI_m1 (o := d s) (fun m hm => by have := hN s m hm; omega)
        cases hx : d s with
        | none => rw [if_pos (by rfl)]; rfl
        | some m => rw [hx] at hm1; rw [if_neg (fun y => by have := hm1.mp y; cases this)]; rfl
      rw [e3]
      exact ih (s + 1) (by omega)
  refine T_WP_countNumbered_0 hG hM g og tg ρ ?_
  exact key (nS σ) 0 (by omega)
theorem c_countDead (hG : gok G) {σ : Wd} {B : Nat} (hB : B < 2 ^ 30) (h : RC ρ σ B) (hd : RD ρ σ) (k : ∀ ad ρ' d e, RC ρ' σ B → isDist σ d → isNo σ 1 e → Ag PCl ρ ρ' → K ad (some (.int (nI (cnt (fun s => (d s).isSome && !(e s).isSome) (nS σ))))) ρ') : semV G r_WP_countDead [32, 33] (fun ad => [.ref (ad (0, 0, 0))]) ρ K := by
  refine semV_intro yk_WP_countDead.2.2.2.2 (fun _ => Nat.le_of_ble_eq_true rfl) (fun M Q ad0 hM => ?_)
  refine T_WP_countDead_0 hG hM ρ ?_
  refine c_fReached hG hB h hd (fun ad ρ1 h1 d1 r1 a1 => ⟨rfl, ?_⟩)
  refine c_fNum (w := 1) hG (by omega) hB h1 d1 (fun ad ρ2 h2 d2 m2 n2 a2 => ⟨gNo 1, rfl, rfl, rfl, ?_⟩)
  have r2 : RSt ρ2 σ := RSt_of r1 (a2 (32, 0, 0) (by simp [PWn])).1 (a2 (32, 0, 0) (by simp [PWn])).2.1 (a2 (32, 1, 0) (by simp [PWn])).1 (a2 (32, 1, 0) (by simp [PWn])).2.2 (by rw [(a2 (5, 0, 0) (by simp [PWn])).2.1])
  obtain ⟨d, x1, x2, x3, x4, x5, x6, x7⟩ := r2
  obtain ⟨e, y1, y2, y3, y4⟩ := n2
  have hT := h2.2.1.1
  have h4 := hT.2.2.2.1
  have key : ∀ dd s, s + dd = nS σ → Y G [32, 33] ad0 M Q 14 (fun ad => [(0, .ref (ad (0, 0, 0))), (1, .ref (ad (gNo 1))), (2, .int (nI (cnt (fun s => (d s).isSome && !(e s).isSome) s))), (3, .int (nI s))]) (fun ad => []) ρ2 := by
    intro dd
    induction dd with
    | zero =>
      intro s hdd
      have es : s = nS σ := by omega
      subst es
      exact T_WP_countDead_14 hG hM (gNo 1) rfl rfl _ _ ρ2 ⟨fun _ ad => k ad ρ2 d e h2 x1 y1 (Ag_tr (Ag_mono a1 (fun _ => PR_Cl)) (Ag_mono a2 (fun _ => PWn_Cl))), fun z => absurd (by rw [hT.2.1]; exact (nI_leI (by omega) (by omega)).mpr (Nat.le_refl _)) z⟩
    | succ dd ih =>
      intro s hdd
      have hs : s < nS σ := by omega
      refine T_WP_countDead_14 hG hM (gNo 1) rfl rfl _ _ ρ2 ⟨fun z => absurd (by rw [hT.2.1] at z; exact (nI_leI (by omega) (by omega)).mp z) (by omega), fun _ => ⟨in_nI (by omega) (by omega), fun _ => in_nI (by omega) (by omega), ?_⟩⟩
      rw [nI_clamp (by omega), x5 s hs, y4 s hs, nI_1, nI_1]
      intro z3 e3
      have e3 : z3 = nI (cnt (fun s => (d s).isSome && !(e s).isSome) (s + 1)) := by
        rw [e3]
        show _ = nI (cnt (fun s => (d s).isSome && !(e s).isSome) s + (if ((d s).isSome && !(e s).isSome) = true then 1 else 0))
        have hm1 := oI_m1 (o := d s) (fun m hm => by have := x2 s m hs hm; omega)
        have hm2 := oI_m1 (o := e s) (fun m hm => by have := (y2 s m hm).2; omega)
        cases hx : d s with
        | none => rw [if_pos (by rfl)]; rfl
        | some m =>
          rw [hx] at hm1
          rw [if_neg (fun y => by have := hm1.mp y; cases this)]
          cases hy : e s with
          | none => rw [if_pos (by rfl)]; rfl
          | some m => rw [hy] at hm2; rw [if_neg (fun y => by have := hm2.mp y; cases this)]; rfl
      rw [e3]
      exact ih (s + 1) (by omega)
  exact key (nS σ) 0 (by omega)
theorem c_count (hG : gok G) {σ : Wd} {B : Nat} {v : Int32} (hB : B < 2 ^ 30) (h : RC ρ σ B) (k : ∀ ad ρ' r, RC ρ' σ B → anCnt σ v r → Ag PCl ρ ρ' → K ad (some (.int r)) ρ') : semV G r_WP_count [23, 24, 30, 32, 33, 34] (fun ad => [.ref (ad (0, 0, 0)), .int v]) ρ K := by
  refine semV_intro yk_WP_count.2.2.2.2 (fun _ => Nat.le_of_ble_eq_true rfl) (fun M Q ad0 hM => ?_)
  have k18 : ∀ ρ1, RC ρ1 σ B → (¬ v < 3 → ¬ 9 < v → RD ρ1 σ) → Ag PCl ρ ρ1 → Y G [23, 24, 30, 32, 33, 34] ad0 M Q 18 (fun ad => [(0, .ref (ad (0, 0, 0))), (1, .int v)]) (fun ad => []) ρ1 := by
    intro ρ1 h1 hd a1
    have hT := h1.2.1.1
    have num : ∀ w, (w = 1 ∨ w = 2 ∨ w = 3) → RD ρ1 σ → (∀ d, isNo σ w d → anCnt σ v (nI (cnt (fun s => (d s).isSome) (nS σ)))) → semV G r_WP_findNumbers [33] (fun ad => [.ref (ad (0, 0, 0)), .int (nI w)]) ρ1 (fun ad u10 ρ9 => ∃ g12 : Ro, okR g12 = true ∧ tgR g12 = 50 ∧ u10 = some (.ref (ad g12)) ∧ (semV G r_WP_countNumbered [] (fun ad => [.ref (ad (0, 0, 0)), .ref (ad g12)]) ρ9 (fun ad u15 ρ14 => ∃ x17 : Int32, u15 = some (.int x17) ∧ (∀ ad, K ad (some (.int x17)) ρ14)))) := by
      intro w hw hD hr
      obtain ⟨og, tg, -⟩ := gNo_ok hw
      refine c_fNum hG hw hB h1 hD (fun ad ρ2 h2 d2 m2 n2 a2 => ⟨gNo w, og, tg, rfl, ?_⟩)
      obtain ⟨d, y1, y2, y3, y4⟩ := n2
      refine c_countNumbered hG og tg h2.2.1.1 y3 y4 (fun s m hm => (y2 s m hm).2) (fun ad => ⟨_, rfl, fun ad => ?_⟩)
      exact k ad ρ2 _ h2 (hr d y1) (Ag_tr a1 (Ag_mono a2 (fun _ => PWn_Cl)))
    refine T_WP_count_18 hG hM _ ρ1 ⟨fun z ad => ?_, fun z ad => ?_, fun z ad => ?_, fun z => ?_, fun z => ?_, fun z => ?_, fun z => ?_, fun z => ?_, fun z => ?_, fun z => ?_, fun z ad => ?_, fun z0 z1 z2 z3 z4 z5 z6 z7 z8 z9 z10 ad => ?_⟩
    · exact k ad ρ1 _ h1 (Or.inl ⟨z, hT.2.1⟩) a1
    · exact k ad ρ1 _ h1 (Or.inr (Or.inl ⟨z, hT.1⟩)) a1
    · exact k ad ρ1 _ h1 (Or.inr (Or.inr (Or.inl ⟨z, h1.2.1.2.2.1⟩))) a1
    · refine c_fReached hG hB h1 (hd (by rw [z]; decide) (by rw [z]; decide)) (fun ad ρ2 h2 d2 r2 a2 => ⟨rfl, fun ad => ?_⟩)
      obtain ⟨d, x1, x2, x3, x4, x5, x6, x7⟩ := r2
      exact k ad ρ2 _ h2 (Or.inr (Or.inr (Or.inr (Or.inl ⟨z, d, x1, x6⟩)))) (Ag_tr a1 (Ag_mono a2 (fun _ => PR_Cl)))
    · refine c_fAim hG hB h1 (hd (by rw [z]; decide) (by rw [z]; decide)) (fun ad ρ2 h2 d2 m2 a2 => ⟨rfl, fun ad => ?_⟩)
      exact k ad ρ2 _ h2 (Or.inr (Or.inr (Or.inr (Or.inr (Or.inl ⟨z, m2.2.2⟩))))) (Ag_tr a1 (Ag_mono a2 (fun _ => PWi_Cl)))
    · exact num 1 (by omega) (hd (by rw [z]; decide) (by rw [z]; decide)) (fun d hd2 => Or.inr (Or.inr (Or.inr (Or.inr (Or.inr (Or.inl ⟨z, d, hd2, rfl⟩))))))
    · exact num 2 (by omega) (hd (by rw [z]; decide) (by rw [z]; decide)) (fun d hd2 => Or.inr (Or.inr (Or.inr (Or.inr (Or.inr (Or.inr (Or.inl ⟨z, d, hd2, rfl⟩)))))))
    · exact num 3 (by omega) (hd (by rw [z]; decide) (by rw [z]; decide)) (fun d hd2 => Or.inr (Or.inr (Or.inr (Or.inr (Or.inr (Or.inr (Or.inr (Or.inl ⟨z, d, hd2, rfl⟩))))))))
    · refine c_countDead hG hB h1 (hd (by rw [z]; decide) (by rw [z]; decide)) (fun ad ρ2 d e h2 x1 x2 a2 => ⟨_, rfl, fun ad => ?_⟩)
      exact k ad ρ2 _ h2 (Or.inr (Or.inr (Or.inr (Or.inr (Or.inr (Or.inr (Or.inr (Or.inr (Or.inl ⟨z, d, e, x1, x2, rfl⟩))))))))) (Ag_tr a1 a2)
    · refine c_fKinds hG hB h1 (hd (by rw [z]; decide) (by rw [z]; decide)) (fun ad ρ2 h2 d2 r2 a2 => ⟨rfl, fun ad => ?_⟩)
      obtain ⟨kd, m, y1, y2, y3, y4, y5, ⟨f, y6, y7⟩, y8⟩ := r2
      exact k ad ρ2 _ h2 (Or.inr (Or.inr (Or.inr (Or.inr (Or.inr (Or.inr (Or.inr (Or.inr (Or.inr (Or.inl ⟨z, f, y6, by rw [y5, y7]⟩)))))))))) (Ag_tr a1 (Ag_mono a2 (fun _ => PWk_Cl)))
    · exact k ad ρ1 _ h1 (Or.inr (Or.inr (Or.inr (Or.inr (Or.inr (Or.inr (Or.inr (Or.inr (Or.inr (Or.inr (Or.inl ⟨z, h1.2.2.2.1.1⟩))))))))))) a1
    · exact k ad ρ1 _ h1 (Or.inr (Or.inr (Or.inr (Or.inr (Or.inr (Or.inr (Or.inr (Or.inr (Or.inr (Or.inr (Or.inr ⟨z0, z1, z2, z3, z4, z5, z6, z7, z8, z9, z10, rfl⟩))))))))))) a1
  refine T_WP_count_0 hG hM _ ρ ⟨fun z => k18 ρ h (fun y => absurd z y) Ag_rf, fun z => ⟨fun y => k18 ρ h (fun _ x => absurd y x) Ag_rf, fun y => ?_⟩⟩
  exact c_prepW hG h (fun ad ρ1 h1 d1 a1 => ⟨rfl, k18 ρ1 h1 (fun _ _ => d1) (Ag_mono a1 (fun _ => PW_Cl))⟩)
theorem le4 {w : Int32} : (¬ w < 0 ∧ w ≤ 4) ↔ vp_in w 5 := by
  rw [vp_in_iff, Int32.lt_iff_toInt_lt, Int32.le_iff_toInt_le]
  have e1 : (0 : Int32).toInt = 0 := rfl
  have e2 : (4 : Int32).toInt = 4 := rfl
  rw [e1, e2]; omega
theorem c_of (hG : gok G) {σ : Wd} {B : Nat} {v w : Int32} (hB : B < 2 ^ 30) (h : RC ρ σ B) (k : ∀ ad ρ' r, RC ρ' σ B → anOf σ v w r → Ag PCl ρ ρ' → K ad (some (.int r)) ρ') : semV G r_WP_of [23, 24, 30, 32, 33, 34] (fun ad => [.ref (ad (0, 0, 0)), .int v, .int w]) ρ K := by
  have hT := h.2.1.1
  have h4 := hT.2.2.2.1
  refine semV_intro yk_WP_of.2.2.2.2 (fun _ => Nat.le_of_ble_eq_true rfl) (fun M Q ad0 hM => ?_)
  refine T_WP_of_0 hG hM _ _ ρ ?_
  refine c_isState hG hT.2.1 (by omega) (fun hv ad => ⟨_, rfl, fun z => absurd z (by decide), fun _ => ?_⟩) (fun hv ad => ⟨_, rfl, fun _ ad => k ad ρ _ h (Or.inl ⟨fun z => hv z.1, rfl⟩) Ag_rf, fun z => absurd rfl z⟩)
  obtain ⟨s, hs, ev⟩ := vp_in_of hv (by omega)
  subst ev
  refine ⟨fun z ad => k ad ρ _ h (Or.inl ⟨fun y => (le4.mpr y.2).1 z, rfl⟩) Ag_rf, fun z => ⟨fun y => ?_, fun y ad => k ad ρ _ h (Or.inl ⟨fun x => y (le4.mpr x.2).2, rfl⟩) Ag_rf⟩⟩
  obtain ⟨x, hx, ew⟩ := vp_in_of (le4.mp ⟨z, y⟩) (by omega)
  subst ew
  refine c_prepW hG h (fun ad ρ1 h1 d1 a1 => ⟨rfl, fun q => ?_, fun q => ⟨fun q2 => ?_, fun q2 => ?_⟩⟩)
  · refine c_fReached hG hB h1 d1 (fun ad ρ2 h2 d2 r2 a2 => ⟨rfl, ?_⟩)
    obtain ⟨d, x1, x2, x3, x4, x5, x6, x7⟩ := r2
    rw [nI_clamp (by omega), x5 s hs]
    exact ⟨in_nI (by omega) (by omega), fun ad => k ad ρ2 _ h2 (Or.inr ⟨s, hs, rfl, Or.inl ⟨q, d, x1, rfl⟩⟩) (Ag_tr (Ag_mono a1 (fun _ => PW_Cl)) (Ag_mono a2 (fun _ => PR_Cl)))⟩
  · refine c_fKinds hG hB h1 d1 (fun ad ρ2 h2 d2 r2 a2 => ⟨rfl, ?_⟩)
    obtain ⟨kd, m, y1, y2, y3, y4, y5, -, y8⟩ := r2
    obtain ⟨f, f1, f2, f3, f4⟩ := y8 s hs
    have := (y1 s hs).2
    rw [nI_clamp (n := s) (by omega), (y1 s hs).1, nI_clamp (n := kd s) (by omega), f4]
    exact ⟨in_nI (by omega) (by omega), in_nI (by omega) (by omega), fun ad => k ad ρ2 _ h2 (Or.inr ⟨s, hs, rfl, Or.inr (Or.inr ⟨q2, f, f1, f2, f3, rfl⟩)⟩) (Ag_tr (Ag_mono a1 (fun _ => PW_Cl)) (Ag_mono a2 (fun _ => PWk_Cl)))⟩
  · have hx0 : x ≠ 0 := fun e => q (by rw [e]; rfl)
    have hx4 : x ≠ 4 := fun e => q2 (by rw [e]; rfl)
    have hw : x = 1 ∨ x = 2 ∨ x = 3 := by omega
    obtain ⟨og, tg, -⟩ := gNo_ok hw
    refine c_fNum hG hw hB h1 d1 (fun ad ρ2 h2 d2 m2 n2 a2 => ⟨gNo x, og, tg, rfl, ?_⟩)
    obtain ⟨d, y1, y2, y3, y4⟩ := n2
    rw [nI_clamp (by omega), y4 s hs]
    exact ⟨in_nI (by omega) (by omega), fun ad => k ad ρ2 _ h2 (Or.inr ⟨s, hs, rfl, Or.inr (Or.inl ⟨x, by omega, by omega, rfl, d, y1, rfl⟩)⟩) (Ag_tr (Ag_mono a1 (fun _ => PW_Cl)) (Ag_mono a2 (fun _ => PWn_Cl)))⟩
theorem in13 {w : Int32} : (¬ w < 1 ∧ w ≤ 3) ↔ ∃ x, 1 ≤ x ∧ x ≤ 3 ∧ w = nI x := by
  rw [Int32.lt_iff_toInt_lt, Int32.le_iff_toInt_le]
  have e1 : (1 : Int32).toInt = 1 := rfl
  have e2 : (3 : Int32).toInt = 3 := rfl
  rw [e1, e2]
  constructor
  · rintro ⟨h1, h2⟩
    have : vp_in w 4 := vp_in_iff.mpr ⟨by omega, by omega⟩
    obtain ⟨j, hj, e⟩ := vp_in_of this (by omega)
    rw [e, nI_toInt (by omega)] at h1 h2
    exact ⟨j, by omega, by omega, e⟩
  · rintro ⟨x, h1, h2, e⟩
    rw [e, nI_toInt (by omega)]; omega
theorem c_best (hG : gok G) {σ : Wd} {B : Nat} {v w : Int32} (hB : B < 2 ^ 30) (h : RC ρ σ B) (k : ∀ ad ρ' r, RC ρ' σ B → anBs σ v w r → Ag PCl ρ ρ' → K ad (some (.int r)) ρ') : semV G r_WP_best [23, 24, 30, 33] (fun ad => [.ref (ad (0, 0, 0)), .int v, .int w]) ρ K := by
  have hT := h.2.1.1
  have h4 := hT.2.2.2.1
  refine semV_intro yk_WP_best.2.2.2.2 (fun _ => Nat.le_of_ble_eq_true rfl) (fun M Q ad0 hM => ?_)
  refine T_WP_best_0 hG hM _ _ ρ ?_
  refine c_isState hG hT.2.1 (by omega) (fun hv ad => ⟨_, rfl, fun z => absurd z (by decide), fun _ => ?_⟩) (fun hv ad => ⟨_, rfl, fun _ ad => k ad ρ _ h (Or.inl ⟨fun z => hv z.1, rfl⟩) Ag_rf, fun z => absurd rfl z⟩)
  obtain ⟨s, hs, ev⟩ := vp_in_of hv (by omega)
  subst ev
  refine ⟨fun z ad => k ad ρ _ h (Or.inl ⟨fun y => (in13.mpr y.2).1 z, rfl⟩) Ag_rf, fun z => ⟨fun y => ?_, fun y ad => k ad ρ _ h (Or.inl ⟨fun x => y (in13.mpr x.2).2, rfl⟩) Ag_rf⟩⟩
  obtain ⟨x, x1, x2, ew⟩ := in13.mp ⟨z, y⟩
  subst ew
  have hw : x = 1 ∨ x = 2 ∨ x = 3 := by omega
  obtain ⟨og, tg, -⟩ := gNo_ok hw
  refine c_prepW hG h (fun ad ρ1 h1 d1 a1 => ⟨rfl, ?_⟩)
  refine c_fNum hG hw hB h1 d1 (fun ad ρ2 h2 d2 m2 n2 a2 => ⟨gNo x, og, tg, rfl, ?_⟩)
  obtain ⟨d, y1, y2, y3, y4⟩ := n2
  refine c_leastAct hG og tg (by omega) (RWr_of h2.2.1 d2) hs y3 y4 (fun u m hm => (y2 u m hm).2) (fun ad o ho _ => ⟨_, rfl, fun ad => ?_⟩)
  exact k ad ρ2 _ h2 (Or.inr ⟨s, x, d, o, hs, rfl, x1, x2, rfl, y1, ho, rfl⟩) (Ag_tr (Ag_mono a1 (fun _ => PW_Cl)) (Ag_mono a2 (fun _ => PWn_Cl)))
end B39
