/-- the class's reach stands -/
def RSt (ρ : Rs) (σ : Wd) : Prop := ∃ d, isDist σ d ∧ (∀ s n, s < nS σ → d s = some n → n < nS σ) ∧ nS σ ≤ nR ρ (32, 0, 0) ∧ nS σ ≤ nR ρ (32, 1, 0) ∧ (∀ s, s < nS σ → iR ρ (32, 0, 0) s = oI (d s)) ∧ iR ρ (5, 0, 0) 3 = nI (cnt (fun s => (d s).isSome) (nS σ)) ∧ ∀ s n, s < nS σ → d s = some n → lR ρ (32, 1, 0) s = Int64.ofNat (wkF σ n s)
section B22
variable {G : Gc} {ρ : Rs} {K : (Ro → Nat) → Option Value → Rs → Prop}
theorem c_spread (hG : gok G) {σ : Wd} (hR : RWr ρ σ) (hB : dB σ < nS σ) (k : ∀ ad ρ', RSt ρ' σ → Ag PR ρ ρ' → K ad none ρ') : semV G r_Re_spread [32] (fun ad => [.ref (ad (5, 0, 0)), .ref (ad (1, 0, 0)), .int (nI (dB σ))]) ρ K := by
  have h12 := hR.2.1
  have h4 := hR.1.2.2.2.1
  have h1 := hR.1.2.1
  refine semV_intro yk_Re_spread.2.2.2.2 (fun _ => Nat.le_of_ble_eq_true rfl) (fun M Q ad0 hM => ?_)
  have hRw : ∀ {ρ1 : Rs}, Ag PR ρ ρ1 → RWr ρ1 σ := fun hag => RWr_ag hR (Ag_mono hag (fun _ => PR_nW))
  have k96 : ∀ dd i ρ1 d q e w dn, i + dd = nS σ → Ag PR ρ ρ1 → FI σ d q i e → FW σ d q i dn w (fun _ => 0) → RR ρ1 σ d q e w → Y G [32] ad0 M Q 96 (fun ad => [(0, .ref (ad (5, 0, 0))), (1, .ref (ad (1, 0, 0))), (3, .int (nI i))]) (fun ad => []) ρ1 := by
    intro dd
    induction dd with
    | zero =>
      intro i ρ1 d q e w dn hdd hag hI hW hr
      have he := BQ_le hI.1
      obtain ⟨r1, r2, r3, r4, r5, r6, r7⟩ := hr
      have hD := FI_end hI (by omega) hB (RWr_stp hR)
      refine T_Re_spread_96 hG hM _ ρ1 ⟨fun _ ad => k ad ρ1 ⟨d, hD, fun s n hs hd => BQ_d hI.1 hs hd, r1, r2, r4, by rw [r6, hI.1.2.2.2.2.2.1], fun s n hs hd => ?_⟩ hag, fun z => absurd (by rw [r6]; exact (nI_leI (by omega) (by omega)).mpr (by omega)) z⟩
      rw [r7 s n hs hd, FW_end hD hB hI.1 (by omega) hW n s hs hd]
    | succ dd ih =>
      intro i ρ1 d q e w dn hdd hag hI hW hr
      have he := BQ_le hI.1
      have b1 := (hRw hag).1.2.1
      have hr0 := hr
      obtain ⟨r1, r2, r3, r4, r5, r6, r7⟩ := hr
      refine T_Re_spread_96 hG hM _ ρ1 ⟨fun z ad => ?_, fun z => ⟨fun y => absurd (by rw [b1] at y; exact (nI_leI (by omega) (by omega)).mp y) (by omega), fun _ => ?_⟩⟩
      · rw [r6] at z
        have z := (nI_leI (by omega) (by omega)).mp z
        have hD := FI_end hI z hB (RWr_stp hR)
        refine k ad ρ1 ⟨d, hD, fun s n hs hd => BQ_d hI.1 hs hd, r1, r2, r4, by rw [r6, hI.1.2.2.2.2.2.1], fun s n hs hd => ?_⟩ hag
        rw [r7 s n hs hd, FW_end hD hB hI.1 z hW n s hs hd]
      · have hie : i < e := by
          rw [r6] at z
          exact Nat.not_le.mp (fun y => z ((nI_leI (by omega) (by omega)).mpr y))
        obtain ⟨hu, n, hn⟩ := hI.1.1 i hie
        have k115 : ∀ da a ρ2 d2 q2 e2 w2, a + da = dA σ → Ag PR ρ ρ2 → FS ρ2 σ d2 q2 i e2 dn w2 a 0 → q2 i = q i → d2 (q i) = some n → Y G [32] ad0 M Q 115 (fun ad => [(0, .ref (ad (5, 0, 0))), (1, .ref (ad (1, 0, 0))), (3, .int (nI i)), (4, .int (nI a))]) (fun ad => []) ρ2 := by
          intro da
          induction da with
          | zero =>
            intro a ρ2 d2 q2 e2 w2 hda hag2 hf hq2 hd2
            have ea : a = dA σ := by omega
            subst ea
            obtain ⟨gI, gi, gW, gc, gr⟩ := hf
            refine T_Re_spread_115 hG hM _ _ ρ2 ⟨fun _ => ?_, fun z => absurd (by rw [(hRw hag2).2.2.1]; exact (nI_leI (by omega) (by omega)).mpr (Nat.le_refl _)) z⟩
            rw [nI_1]
            refine ih (i + 1) ρ2 d2 q2 e2 w2 (va_up dn (q2 i) true) (by omega) hag2 (FI_nx gI gi (RWr_stp hR) (fun t hst => gc t (by rw [pt_end]; exact mm_pos.mpr hst))) (FW_nx gI.1 gW gi (fun y _ => pt_end)) gr
          | succ da ih2 =>
            intro a ρ2 d2 q2 e2 w2 hda hag2 hf hq2 hd2
            have ha : a < dA σ := by omega
            have hR2 := hRw hag2
            have hf0 := hf
            obtain ⟨gI, gi, gW, gc, g1, g2, g3, g4, g5, g6, g7⟩ := hf
            have ge := BQ_le gI.1
            have hO := hR2.2.2.2.1 a ha
            have hOx := hO.2.1
            have hOy := hO.2.2.1
            refine T_Re_spread_115 hG hM _ _ ρ2 ⟨fun z => absurd (by rw [hR2.2.2.1] at z; exact (nI_leI (by omega) (by omega)).mp z) (by omega), fun _ => ⟨vp_in_nI (by omega) (by omega), in_nI (by omega) (by omega), ?_⟩⟩
            rw [nI_clamp (by omega), nI_clamp (by omega), g5 i gi, hq2, nI_1]
            refine c_canBeDone hG (RWr_Es hR2) (by omega) ha hO.2.1 (hR2.2.2.2.2.2.1 a ha) hu (fun hc ad => ⟨_, rfl, fun z => absurd z (by decide), fun _ => ⟨vp_in_nI (by omega) (by omega), in_nI (by omega) (by omega), ?_⟩⟩) (fun hc ad => ⟨_, rfl, fun _ => ?_, fun z => absurd rfl z⟩)
            · rw [g5 i gi]
              refine c_follow hG hR2 ha (by rw [hq2]; exact hc) hf0 (by rw [hq2]; exact hd2) (fun ad ρ3 d3 q3 e3 w3 x1 x2 x3 x4 => ⟨rfl, ?_⟩)
              exact ih2 (a + 1) ρ3 d3 q3 e3 w3 (by omega) (Ag_tr hag2 x4) x3 (x1.trans hq2) (by rw [← hq2]; exact x2)
            · refine ih2 (a + 1) ρ2 d2 q2 e2 w2 (by omega) hag2 ?_ hq2 hd2
              have ep : ∀ t, pt σ (q2 i) t (a + 1) 0 = pt σ (q2 i) t a 0 := fun t => by rw [pt_a, pt_no (by rw [hq2]; exact hc)]
              refine ⟨gI, gi, FW_no gW (by rw [hq2]; exact hd2) (fun y _ _ => ep y), fun t ht => gc t (by rw [← ep]; exact ht), g1, g2, g3, g4, g5, g6, g7⟩
        exact k115 (dA σ) 0 ρ1 d q e w (by omega) hag ⟨hI, hie, hW, fun t ht => absurd ht (by rw [pt_00]; omega), hr0⟩ rfl hn
  have k55 : ∀ ρ1, Ag PR ρ ρ1 → nS σ ≤ nR ρ1 (32, 0, 0) → nS σ ≤ nR ρ1 (32, 1, 0) → nS σ ≤ nR ρ1 (32, 2, 0) → Y G [32] ad0 M Q 55 (fun ad => [(0, .ref (ad (5, 0, 0))), (1, .ref (ad (1, 0, 0))), (2, .int (nI (dB σ)))]) (fun ad => []) ρ1 := by
    intro ρ1 hag n0 n1 n2
    refine T_Re_spread_55 hG hM _ ρ1 ?_
    rw [(hRw hag).1.2.1]
    refine semV_n (fun hn => ?_)
    have hn0 := hn (32, 0, 0) rfl
    refine c_fill (a := 0) (b := nS σ) hG rfl rfl (by omega) n0 (by omega) (fun ad => ⟨rfl, in_nI (by show dB σ < nR ρ1 (32, 0, 0); omega) (by omega), ?_⟩)
    rw [nI_clamp (by omega)]
    intro ρ4 e4
    refine ⟨in_nI (by rw [e4, nR_pI]; show dB σ < nR ρ1 (32, 1, 0); omega) (by omega), fun ρ5 e5 => ⟨in_nI (s := 0) (by rw [e5, nR_pL, e4, nR_pI]; show 0 < nR ρ1 (32, 2, 0); omega) (by decide), fun ρ6 e6 ρ7 e7 => ?_⟩⟩
    have a7 : Ag PR ρ ρ7 := by
      rw [e7, e6, e5, e4]
      exact Ag_tr hag (Ag_tr (Ag_uI (Or.inr rfl)) (Ag_tr (Ag_pI (Or.inr rfl)) (Ag_tr (Ag_pL (Or.inr rfl)) (Ag_tr (Ag_pI (Or.inr rfl)) (Ag_pI (Or.inl rfl))))))
    refine k96 (nS σ) 0 ρ7 (va_up (fun _ => none) (dB σ) (some 0)) (fun _ => dB σ) 1 (fun _ => 1) (fun _ => false) (by omega) a7 (FI_0 hB rfl) (FW_0 rfl) ⟨?_, ?_, ?_, fun s hs => ?_, fun j hj => ?_, ?_, fun s n hs hd => ?_⟩
    · rw [e7, e6, e5, e4]; exact n0
    · rw [e7, e6, e5, e4]; exact n1
    · rw [e7, e6, e5, e4]; exact n2
    · rw [e7, iR_pI, if_neg (by simp), e6, iR_pI, if_neg (by simp), e5, iR_pL, e4, iR_pI]
      by_cases e : s = dB σ
      · subst e
        rw [if_pos ⟨rfl, rfl⟩, ups]; rfl
      · rw [if_neg (fun z => e z.2), upn e]
        show upR (iR ρ1) (32, 0, 0) _ (32, 0, 0) s = -1
        rw [uR_s]
        exact if_pos ⟨by omega, hs⟩
    · have : j = 0 := by omega
      subst this
      rw [e7, iR_pI, if_neg (by simp), e6, iR_pI]
      exact if_pos ⟨rfl, rfl⟩
    · rw [e7, iR_pI, if_pos ⟨rfl, rfl⟩]; rfl
    · rw [e7, lR_pI, e6, lR_pI, e5, lR_pL]
      by_cases e : s = dB σ
      · rw [if_pos ⟨rfl, e⟩]; rfl
      · rw [upn e] at hd; cases hd
  refine T_Re_spread_0 hG hM _ ρ ⟨nS σ, h1, h4, fun ρ1 e1 => ?_⟩
  have a1 : Ag PR ρ ρ1 := by rw [e1]; exact Ag_rowR (Or.inr rfl)
  have g0 : nS σ ≤ nR ρ1 (32, 0, 0) := by rw [e1]; exact rowR_ge h4
  refine ⟨nS σ, (hRw a1).1.2.1, h4, fun ρ7 e7 => ?_⟩
  have a7 : Ag PR ρ ρ7 := Ag_tr a1 (by rw [e7]; exact Ag_rowR (Or.inr rfl))
  have b7 : Ag (fun q => q = (32, 2, 0)) ρ1 ρ7 := by rw [e7]; exact Ag_rowR rfl
  have g2 : nS σ ≤ nR ρ7 (32, 2, 0) := by rw [e7]; exact rowR_ge h4
  have g0 : nS σ ≤ nR ρ7 (32, 0, 0) := by rw [(b7 (32, 0, 0) (by simp)).1]; exact g0
  rw [(hRw a7).1.2.1]
  refine ⟨fun z => Y_n (fun hn => ?_), fun z => semV_n (fun hn => ?_)⟩
  · have := hn (32, 1, 0) rfl
    exact k55 ρ7 a7 g0 ((nI_leI (by omega) (by omega)).mp z) g2
  · have hn1 := hn (32, 1, 0) rfl
    have hlt : nR ρ7 (32, 1, 0) < nS σ := Nat.not_le.mp (fun y => z ((nI_leI (by omega) (by omega)).mpr y))
    refine c_roomV hG h4 (fun ad => ⟨_, rfl, roomN (nS σ), rfl, Nat.le_trans (roomN_le _) (by omega), roomN_rmg hlt h4, fun ρ17 e17 => ?_⟩)
    have b17 : Ag (fun q => q = (32, 1, 0)) ρ7 ρ17 := by rw [e17]; exact Ag_uN rfl
    refine k55 ρ17 (Ag_tr a7 (Ag_mono b17 (fun q h => Or.inr (by rw [h])))) (by rw [(b17 (32, 0, 0) (by simp)).1]; exact g0) ?_ (by rw [(b17 (32, 2, 0) (by simp)).1]; exact g2)
    rw [e17]
    show nS σ ≤ upR (nR ρ7) (32, 1, 0) (roomN (nS σ)) (32, 1, 0)
    rw [uR_s]
    exact roomN_ge h4
end B22
