/-! THE REFERENCE: fair -/
section B55
variable {G : Gc} {ρ : Rs} {K : (Ro → Nat) → Option Value → Rs → Prop}
theorem mul363 (s a k : Nat) : (36 : Int32) * nI s + 3 * nI a + nI k = nI (36 * s + (3 * a + k)) := by
  rw [mul3, mul36, nI_ad, Nat.add_assoc]
theorem c_Mo_staysWon (hG : gok G) {σ : Wd} {tr : Nat → Bool} {s a : Nat} (hO : ∀ a, a < dA σ → iR ρ (41, 4, 0) a = nI (dO σ a)) (hR : MR ρ σ) (hW : Wok σ) (hr : ∀ u, u < nS σ → iR ρ (41, 25, 0) u = bI (tr u)) (hs : s < nS σ) (ha : a < dA σ) (hc : canW σ s a) (k1 : (∀ k t, k < dO σ a → nxW σ s a k = some t → tr t = true) → ∀ ad, K ad (some (.int 1)) ρ) (k0 : ¬ (∀ k t, k < dO σ a → nxW σ s a k = some t → tr t = true) → ∀ ad, K ad (some (.int 0)) ρ) : semV G r_Mo_staysWon [] (fun ad => [.ref (ad (40, 0, 0)), .int (nI s), .int (nI a)]) ρ K := by
  have hN := hW.2.2.1
  have h12 := hW.2.2.2.2.1
  have ho := hW.2.2.2.2.2.1 a ha
  refine semV_intro yk_Mo_staysWon.2.2.2.2 (fun _ => Nat.le_of_ble_eq_true rfl) (fun M Q ad0 hM => ?_)
  have key : ∀ (dd kk : Nat) (b : Bool), kk + dd = dO σ a → (b = true ↔ ∀ j t, j < kk → nxW σ s a j = some t → tr t = true) → Y G [] ad0 M Q 5 (fun ad => [(0, .ref (ad (40, 0, 0))), (1, .int (nI s)), (2, .int (nI a)), (3, .int (bI b)), (4, .int (nI kk))]) (fun ad => []) ρ := by
    intro dd
    induction dd with
    | zero =>
      intro kk b hd hb
      have ek : kk = dO σ a := by omega
      subst ek
      refine T_Mo_staysWon_5 hG hM _ _ _ _ ρ ⟨vp_in_nI (by omega) (by omega), ?_⟩
      rw [nI_clamp (n := a) (by omega), hO a ha]
      refine ⟨fun _ => ⟨bI_nb _, ?_⟩, fun z => absurd ((nI_leI (by omega) (by omega)).mpr (Nat.le_refl _)) z⟩
      cases b with
      | true => exact k1 (hb.mp rfl)
      | false => exact k0 (fun z => by have := hb.mpr z; cases this)
    | succ dd ih =>
      intro kk b hd hb
      have hk : kk < dO σ a := by omega
      obtain ⟨t, ht⟩ : ∃ t, nxW σ s a kk = some t := ⟨_, nx_some hc⟩
      have htN := nx_lt (Wok_Es hW) ha hk ht
      have rx : iR ρ (41, 14, 0) (36 * s + (3 * a + kk)) = nI t := by rw [hR.2.1 s (3 * a + kk) hs (by omega), nxX_ak hk ho.2, ht]; rfl
      refine T_Mo_staysWon_5 hG hM _ _ _ _ ρ ⟨vp_in_nI (by omega) (by omega), ?_⟩
      rw [nI_clamp (n := a) (by omega), hO a ha, mul363, nI_clamp (n := 36 * s + (3 * a + kk)) (by omega), rx, nI_clamp (n := t) (by omega), hr t htN, nI_1 kk]
      refine ⟨fun z => absurd ((nI_leI (by omega) (by omega)).mp z) (by omega), fun _ => ⟨vp_in_nI (by omega) (by omega), fun _ _ => vp_in_nI (by omega) (by omega), fun z5 e5 => ?_⟩⟩
      have e5 : z5 = bI (b && tr t) := by
        rw [e5, if_neg (nI_m1 (by omega))]
        cases b <;> cases tr t <;> rfl
      rw [e5]
      refine ih (kk + 1) (b && tr t) (by omega) ?_
      rw [Bool.and_eq_true, hb]
      constructor
      · rintro ⟨x1, x2⟩ j u hj hu
        by_cases e1 : j = kk
        · subst e1; rw [ht] at hu; cases hu; exact x2
        · exact x1 j u (by omega) hu
      · intro x
        exact ⟨fun j u hj hu => x j u (by omega) hu, x kk t (by omega) ht⟩
  refine T_Mo_staysWon_0 hG hM _ _ ρ ?_
  exact key (dO σ a) 0 true (by omega) ⟨fun _ j t hj => absurd hj (by omega), fun _ => rfl⟩
def PF3 (q : Ro) : Prop := q = (41, 22, 0) ∨ q = (41, 23, 0) ∨ q = (41, 25, 0)
theorem c_Mo_fairly (hG : gok G) {σ : Wd} (hO : ∀ a, a < dA σ → iR ρ (41, 4, 0) a = nI (dO σ a)) (hR : MR ρ σ) (hK : MK ρ σ) (hW : Wok σ) (k : ∀ ad ρ' d, isNo σ 3 d → (∀ s n, d s = some n → s < nS σ ∧ n < nS σ) → (∀ s, s < nS σ → iR ρ' (41, 22, 0) s = oI (d s)) → Ag PF3 ρ ρ' → K ad none ρ') : semV G r_Mo_fairly [] (fun ad => [.ref (ad (40, 0, 0))]) ρ K := by
  have hN := hW.2.2.1
  have h12 := hW.2.2.2.2.1
  have hO3 := hW.2.2.2.2.2.1
  refine semV_intro yk_Mo_fairly.2.2.2.2 (fun _ => Nat.le_of_ble_eq_true rfl) (fun M Q ad0 hM => ?_)
  have hRr : ∀ {ρ1}, Ag PF3 ρ ρ1 → MR ρ1 σ := fun h => MR_ag hR h (by simp [PF3]) (by simp [PF3]) (by simp [PF3])
  have hOr : ∀ {ρ1}, Ag PF3 ρ ρ1 → ∀ a, a < dA σ → iR ρ1 (41, 4, 0) a = nI (dO σ a) := fun h => by rw [(h (41, 4, 0) (by simp [PF3])).2.1]; exact hO
  have k25 : ∀ (c r : Nat) (ρ1 : Rs) (tr : Nat → Bool), c = cnt tr (nS σ) → (∀ s, s < nS σ → (tr s = true ↔ trs σ r s)) → Ag PF3 ρ ρ1 → (∀ s, s < nS σ → iR ρ1 (41, 25, 0) s = bI (tr s)) → Y G [] ad0 M Q 25 (fun ad => [(0, .ref (ad (40, 0, 0))), (1, .int 1)]) (fun ad => []) ρ1 := by
    intro c
    induction c using Nat.strongRecOn with
    | ind c ihc =>
      intro r ρ1 tr hc htr hag hrow
      have T := fun s hs => htr s hs
      -- the search with the trusted of this turn
      have fin : ∀ (i : Nat) (ρ2 : Rs) (d : Nat → Option Nat) (q : Nat → Nat) (e : Nat), e ≤ i → i ≤ 4096 → Ag PF3 ρ ρ2 → (∀ s, s < nS σ → iR ρ2 (41, 25, 0) s = bI (tr s)) → KI σ (CZ σ (ZFairT σ (trs σ r))) d q i e → KC σ (ZFairT σ (trs σ r)) d q i e → KQ ρ2 σ (41, 22, 0) d q e → Y G [] ad0 M Q 40 (fun ad => [(0, .ref (ad (40, 0, 0))), (2, .int (nI e)), (3, .int (nI i))]) (fun ad => []) ρ2 := by
        intro i ρ2 d q e he hi hag2 hrow2 hI hC hk
        refine T_Mo_fairly_40 hG hM _ _ ρ2 ⟨fun _ => ?_, fun z => absurd ((nI_leI (by omega) (by omega)).mpr he) z⟩
        have d1 : ∀ s n, d s = some n ↔ isL (CZ σ (ZFair σ (trs σ r))) (aimP σ) s n := fun s n => (KI_end hI he hC hZ_fairT s n).trans fairT_isL
        have d2 : ∀ s n, d s = some n → s < nS σ ∧ n < nS σ := fun s n hd => ⟨hI.2.1 s n hd, BQ_d hI.1 (hI.2.1 s n hd) hd⟩
        have sub : ∀ s, s < nS σ → (d s).isSome = true → tr s = true := fun s hs h => (htr s hs).mpr (trs_sub r s ((trs_d d1 s).mp h))
        have k171 : ∀ (dd s : Nat) (ρ3 : Rs) (b : Bool), s + dd = nS σ → Ag PF3 ρ ρ3 → (∀ u, u < nS σ → iR ρ3 (41, 22, 0) u = oI (d u)) → (∀ u, u < s → iR ρ3 (41, 25, 0) u = bI (d u).isSome) → (∀ u, s ≤ u → u < nS σ → iR ρ3 (41, 25, 0) u = bI (tr u)) → (b = true ↔ ∃ u, u < s ∧ tr u = true ∧ d u = none) → Y G [] ad0 M Q 171 (fun ad => [(0, .ref (ad (40, 0, 0))), (1, .int (bI b)), (3, .int (nI s))]) (fun ad => []) ρ3 := by
          intro dd
          induction dd with
          | zero =>
            intro s ρ3 b hdd a3 r22 r25 r25' hb
            have es : s = nS σ := by omega
            subst es
            refine T_Mo_fairly_171 hG hM _ _ ρ3 ⟨fun _ => ?_, fun z => absurd (by rw [(hRr a3).1]; exact (nI_leI (by omega) (by omega)).mpr (Nat.le_refl _)) z⟩
            cases b with
            | true =>
              obtain ⟨u, hu, u1, u2⟩ := hb.mp rfl
              have cle := cnt_mono (p := fun s => (d s).isSome) (p' := tr) (n := nS σ) sub
              have cne : cnt (fun s => (d s).isSome) (nS σ) ≠ cnt tr (nS σ) := fun z => by
                have := cnt_same sub z u hu u1
                simp [u2] at this
              exact ihc (cnt (fun s => (d s).isSome) (nS σ)) (by omega) (r + 1) ρ3 (fun s => (d s).isSome) rfl (fun s hs => trs_d d1 s) a3 r25
            | false =>
              refine T_Mo_fairly_25 hG hM _ ρ3 ⟨fun _ ad => k ad ρ3 d ⟨r, fun s hs => ?_, d1⟩ d2 r22 a3, fun z => absurd rfl z⟩
              have hsN : s < nS σ := by
                match r, hs with
                | 0, hs => exact hs
                | r + 1, ⟨n, hs⟩ => exact lev_in n s hs
              refine (trs_d d1 s).mp ?_
              cases hd : d s with
              | some m => rfl
              | none =>
                have := hb.mpr ⟨s, hsN, (htr s hsN).mpr hs, hd⟩
                cases this
          | succ dd ih2 =>
            intro s ρ3 b hdd a3 r22 r25 r25' hb
            have hs : s < nS σ := by omega
            refine T_Mo_fairly_171 hG hM _ _ ρ3 ⟨fun z => absurd (by rw [(hRr a3).1] at z; exact (nI_leI (by omega) (by omega)).mp z) (by omega), fun _ => ⟨fun _ => ⟨vp_in_nI (by omega) (by omega), fun _ => vp_in_nI (by omega) (by omega)⟩, ?_⟩⟩
            rw [nI_clamp (n := s) (by omega), r22 s hs, r25' s (Nat.le_refl _) hs, nI_1 s]
            have hm1 := oI_m1 (o := d s) (fun m hm => by have := (d2 s m hm).2; omega)
            intro z4 e4
            refine ⟨vp_in_nI (by omega) (by omega), fun z6 e6 => ?_⟩
            have e4 : z4 = bI (b || (tr s && !(d s).isSome)) := by
              rw [e4]
              cases hd : d s with
              | none => rw [if_pos (show oI none = -1 from rfl)]; cases b <;> cases tr s <;> rfl
              | some m => rw [hd] at hm1; rw [if_neg (c := oI (some m) = -1) (fun y => by have := hm1.mp y; cases this)]; cases b <;> cases tr s <;> rfl
            have e6 : z6 = bI (d s).isSome := by
              rw [e6]
              cases hd : d s with
              | none => rw [if_pos (by rfl)]; rfl
              | some m => rw [hd] at hm1; rw [if_neg (fun y => by have := hm1.mp y; cases this)]; rfl
            rw [e6, e4]
            refine ⟨vp_in_nI (by omega) (by omega), bI_nb _, fun ρ7 e7 => ?_⟩
            refine ih2 (s + 1) ρ7 _ (by omega) (Ag_tr a3 (by rw [e7]; exact Ag_pI (Or.inr (Or.inr rfl)))) (fun u hu => by rw [e7, iR_pI, if_neg (by simp)]; exact r22 u hu) (fun u hu => ?_) (fun u hu1 hu2 => ?_) ?_
            · rw [e7, iR_pI]
              by_cases e1 : u = s
              · subst e1; rw [if_pos ⟨rfl, rfl⟩]
              · rw [if_neg (fun y => e1 y.2)]; exact r25 u (by omega)
            · rw [e7, iR_pI, if_neg (fun y => by have := y.2; omega)]; exact r25' u (by omega) hu2
            · rw [Bool.or_eq_true, hb, Bool.and_eq_true]
              constructor
              · rintro (⟨u, x1, x2⟩ | ⟨x1, x2⟩)
                · exact ⟨u, by omega, x2⟩
                · refine ⟨s, by omega, x1, ?_⟩
                  cases hd : d s with
                  | none => rfl
                  | some m => rw [hd] at x2; cases x2
              · rintro ⟨u, x1, x2, x3⟩
                by_cases e1 : u = s
                · subst e1; right; exact ⟨x2, by rw [x3]; rfl⟩
                · left; exact ⟨u, by omega, x2, x3⟩
        exact k171 (nS σ) 0 ρ2 false (by omega) hag2 hk.1 (fun u hu => absurd hu (by omega)) (fun u _ hu => hrow2 u hu) ⟨fun z => (by cases z), fun ⟨u, hu, _⟩ => absurd hu (by omega)⟩
      have k40 : ∀ (dd i : Nat) (ρ2 : Rs) (d : Nat → Option Nat) (q : Nat → Nat) (e : Nat), i + dd = nS σ → Ag PF3 ρ ρ2 → (∀ s, s < nS σ → iR ρ2 (41, 25, 0) s = bI (tr s)) → KI σ (CZ σ (ZFairT σ (trs σ r))) d q i e → KC σ (ZFairT σ (trs σ r)) d q i e → KQ ρ2 σ (41, 22, 0) d q e → Y G [] ad0 M Q 40 (fun ad => [(0, .ref (ad (40, 0, 0))), (2, .int (nI e)), (3, .int (nI i))]) (fun ad => []) ρ2 := by
        intro dd
        induction dd with
        | zero =>
          intro i ρ2 d q e hdd hag2 hrow2 hI hC hk
          have he := BQ_le hI.1
          exact fin i ρ2 d q e (by omega) (by omega) hag2 hrow2 hI hC hk
        | succ dd ih =>
          intro i ρ2 d q e hdd hag2 hrow2 hI hC hk
          have he := BQ_le hI.1
          by_cases hie : e ≤ i
          · exact fin i ρ2 d q e hie (by omega) hag2 hrow2 hI hC hk
          · have hie : i < e := by omega
            obtain ⟨hu, n, hn⟩ := hI.1.1 i hie
            have hnN := BQ_d hI.1 hu hn
            have k58 : ∀ (L : List Nat) (v : Int32) (ρ3 : Rs) (d3 : Nat → Option Nat) (q3 : Nat → Nat) (e3 : Nat), Ch ρ 147456 L v → Ag PF3 ρ ρ3 → (∀ s, s < nS σ → iR ρ3 (41, 25, 0) s = bI (tr s)) → KI σ (CZ σ (ZFairT σ (trs σ r))) d3 q3 i e3 → KC σ (ZFairT σ (trs σ r)) d3 q3 i e3 → i < e3 → q3 i = q i → d3 (q i) = some n → (∀ c, c ∈ L → eg σ c (q i)) → (∀ c, eg σ c (q i) → c ∈ L ∨ (ZFairT σ (trs σ r) (fun _ => True) (c / 36) (c % 36 / 3) → upto d3 (n + 1) (c / 36))) → KQ ρ3 σ (41, 22, 0) d3 q3 e3 → Y G [] ad0 M Q 58 (fun ad => [(0, .ref (ad (40, 0, 0))), (2, .int (nI e3)), (3, .int (nI i)), (4, .int v)]) (fun ad => []) ρ3 := by
              intro L
              induction L with
              | nil =>
                intro v ρ3 d3 q3 e3 hv hag3 hrow3 hI3 hC3 hi3 hq3 hd3 hin hall hk3
                refine T_Mo_fairly_58 hG hM _ _ _ ρ3 ⟨fun _ => ?_, fun z => absurd hv z⟩
                rw [nI_1]
                refine ih (i + 1) ρ3 d3 q3 e3 (by omega) hag3 hrow3 (KI_nx hI3) (KC_nx hC3 (by rw [hq3]; exact hd3) (fun s a kk hs ha hkk hx hz => ?_)) hk3
                rw [hq3] at hx
                rcases hall _ (eg_of hW hs ha hkk hx) with z | z
                · cases z
                · have h3 := (hO3 a ha).2
                  rw [show (36 * s + (3 * a + kk)) / 36 = s by omega, show (36 * s + (3 * a + kk)) % 36 / 3 = a by omega] at z
                  exact z hz
              | cons c L ih2 =>
                intro v ρ3 d3 q3 e3 hv hag3 hrow3 hI3 hC3 hi3 hq3 hd3 hin hall hk3
                obtain ⟨j, hj, ev, e17, hch⟩ := hv
                subst ev
                have hg := hin c List.mem_cons_self
                obtain ⟨n1, n2, n3⟩ := eg_nx hg
                have g1 := hg.1
                have he3 := BQ_le hI3.1
                have r17 : iR ρ3 (41, 17, 0) j = nI c := by rw [(hag3 (41, 17, 0) (by simp [PF3])).2.1]; exact e17
                have r18 : ∀ ρ4, Ag PF3 ρ ρ4 → iR ρ4 (41, 18, 0) j = iR ρ (41, 18, 0) j := fun ρ4 h => by rw [(h (41, 18, 0) (by simp [PF3])).2.1]
                -- an edge that adds nothing
                have no : (ZFairT σ (trs σ r) (fun _ => True) (c / 36) (c % 36 / 3) → upto d3 (n + 1) (c / 36)) → Y G [] ad0 M Q 58 (fun ad => [(0, .ref (ad (40, 0, 0))), (2, .int (nI e3)), (3, .int (nI i)), (4, .int (iR ρ3 (41, 18, 0) j))]) (fun ad => []) ρ3 := fun hz => by
                  rw [r18 ρ3 hag3]
                  refine ih2 _ ρ3 d3 q3 e3 hch hag3 hrow3 hI3 hC3 hi3 hq3 hd3 (fun x hx => hin x (List.mem_cons_of_mem _ hx)) (fun x hx => ?_) hk3
                  rcases hall x hx with z | z
                  · rcases List.mem_cons.mp z with z | z
                    · right; rw [z]; exact hz
                    · exact Or.inl z
                  · exact Or.inr z
                refine T_Mo_fairly_58 hG hM _ _ _ ρ3 ⟨fun z => absurd z (nI_m1 (by omega)), fun _ => ?_⟩
                rw [nI_clamp (n := j) (by omega), r17, rem36 (by omega), div36 (by omega), div3 (by omega), nI_clamp (n := c / 36) (by omega), hk3.1 (c / 36) g1, hrow3 (c / 36) g1, bI_0]
                refine ⟨vp_in_nI (by omega) (by omega), vp_in_nI (by omega) (by omega), ?_⟩
                cases hds : d3 (c / 36) with
                | none =>
                  refine ⟨fun _ => ⟨vp_in_nI (by omega) (by omega), fun z => ⟨vp_in_nI (by omega) (by omega), no (fun hz => ?_)⟩, fun z => ⟨vp_in_nI (by omega) (by omega), ?_⟩⟩, fun z => absurd rfl z⟩
                  · have := (htr _ g1).mpr hz.1
                    rw [z] at this; cases this
                  · refine c_Mo_staysWon hG (hOr hag3) (hRr hag3) hW hrow3 g1 n1 (nx_canW n3) (fun hst ad => ⟨_, rfl, fun z => absurd z (by decide), fun _ => ?_⟩) (fun hst ad => ⟨_, rfl, fun _ => ⟨vp_in_nI (by omega) (by omega), no (fun hz => absurd (fun kk t hkk ht => (htr t (nx_lt (Wok_Es hW) n1 hkk ht)).mpr (hz.2 kk t hkk ht)) hst)⟩, fun z => absurd rfl z⟩)
                    have he3' := BQ_lt hI3.1 g1 hds
                    have zT : tr (c / 36) = true := by simpa using z
                    rw [nI_clamp (n := i) (by omega), hk3.2 i hi3, hq3, nI_clamp (n := q i) (by omega), hk3.1 (q i) hu, hd3]
                    show vp_in (nI i) 4096 ∧ vp_in (nI (q i)) 4096 ∧ vp_in (nI (c / 36)) 4096 ∧ ∀ ρ11 : Rs, ρ11 = pI ρ3 (41, 22, 0) (c / 36) (nI n + 1) → _
                    rw [nI_1 n, nI_clamp (n := e3) (by omega), nI_1 e3]
                    refine ⟨vp_in_nI (by omega) (by omega), vp_in_nI (by omega) (by omega), vp_in_nI (by omega) (by omega), fun ρ11 e11 => ⟨vp_in_nI (by omega) (by omega), fun ρ12 e12 => ⟨vp_in_nI (by omega) (by omega), ?_⟩⟩⟩
                    have e12 : ρ12 = pI (pI ρ3 (41, 22, 0) (c / 36) (nI (n + 1))) (41, 23, 0) e3 (nI (c / 36)) := by rw [e12, e11]
                    have a12 : Ag PF3 ρ ρ12 := Ag_tr hag3 (by rw [e12]; exact Ag_tr (Ag_pI (Or.inl rfl)) (Ag_pI (Or.inr (Or.inl rfl))))
                    have hne : q i ≠ c / 36 := fun z => by rw [z, hds] at hd3; cases hd3
                    have hz : ZFairT σ (trs σ r) (upto d3 n) (c / 36) (c % 36 / 3) := ⟨(htr _ g1).mp zT, fun kk t hkk ht => (htr t (nx_lt (Wok_Es hW) n1 hkk ht)).mp (hst kk t hkk ht)⟩
                    rw [r18 ρ12 a12]
                    refine ih2 _ ρ12 (va_up d3 (c / 36) (some (n + 1))) (va_up q3 e3 (c / 36)) (e3 + 1) hch a12 (fun s hs => by rw [e12, iR_pI, if_neg (by simp), iR_pI, if_neg (by simp)]; exact hrow3 s hs) (KI_in (CZ_mon (fun _ _ _ _ _ h => h)) hI3 hi3 (by rw [hq3]; exact hd3) g1 hds ⟨g1, _, _, q i, n1, n2, n3, hz, ⟨n, Nat.le_refl _, hd3⟩⟩) (KC_in hI3.1 hC3 hi3 (by rw [hq3]; exact hd3) hds) (by omega) (by rw [upn (by omega)]; exact hq3) (by rw [upn hne]; exact hd3) (fun x hx => hin x (List.mem_cons_of_mem _ hx)) (fun x hx => ?_) (by rw [e12]; exact KQ_in (by decide) hk3)
                    rcases hall x hx with z | z
                    · rcases List.mem_cons.mp z with z | z
                      · right; rw [z]; exact fun _ => ⟨n + 1, Nat.le_refl _, ups⟩
                      · exact Or.inl z
                    · exact Or.inr (fun y => upto_up hds (z y))
                | some m =>
                  have hm := BQ_d hI3.1 g1 hds
                  have hm1 := BQ_up hI3.1 hi3 (by rw [hq3]; exact hd3) g1 hds
                  exact ⟨fun z => absurd z (nI_m1 (by omega)), fun _ => ⟨vp_in_nI (by omega) (by omega), no (fun _ => ⟨m, hm1, hds⟩)⟩⟩
            obtain ⟨L, l1, l2, l3⟩ := hK (q i) hu
            refine T_Mo_fairly_40 hG hM _ _ ρ2 ⟨fun z => absurd ((nI_leI (by omega) (by omega)).mp z) (by omega), fun _ => ⟨vp_in_nI (by omega) (by omega), ?_⟩⟩
            rw [nI_clamp (n := i) (by omega), hk.2 i hie, nI_clamp (n := q i) (by omega), (hag2 (41, 16, 0) (by simp [PF3])).2.1]
            exact ⟨vp_in_nI (by omega) (by omega), k58 L _ ρ2 d q e l1 hag2 hrow2 hI hC hie rfl hn (fun c hc => (l3 c).mp hc) (fun c hc => Or.inl ((l3 c).mpr hc)) hk⟩
      refine T_Mo_fairly_25 hG hM _ ρ1 ⟨fun z => absurd z (by decide), fun _ => ?_⟩
      refine c_Mo_aims hG (Or.inr (Or.inr rfl)) (hRr hag) hN (fun ad ρ2 q e hI hk hag2 => ⟨_, rfl, ?_⟩)
      exact k40 (nS σ) 0 ρ2 (d0 σ) q e (by omega) (Ag_tr hag (Ag_mono hag2 (fun q h => h.elim Or.inl (fun h => Or.inr (Or.inl h))))) (fun s hs => by rw [(hag2 (41, 25, 0) (by simp)).2.1]; exact hrow s hs) (hI _) (fun j s a kk n hj => absurd hj (by omega)) hk
  have k2 : ∀ (dd s : Nat) (ρ1 : Rs), s + dd = nS σ → Ag PF3 ρ ρ1 → (∀ u, u < s → iR ρ1 (41, 25, 0) u = 1) → Y G [] ad0 M Q 2 (fun ad => [(0, .ref (ad (40, 0, 0))), (1, .int (nI s))]) (fun ad => []) ρ1 := by
    intro dd
    induction dd with
    | zero =>
      intro s ρ1 hdd hag hv
      have es : s = nS σ := by omega
      subst es
      refine T_Mo_fairly_2 hG hM _ ρ1 ⟨fun _ => ?_, fun z => absurd (by rw [(hRr hag).1]; exact (nI_leI (by omega) (by omega)).mpr (Nat.le_refl _)) z⟩
      exact k25 _ 0 ρ1 (fun _ => true) rfl (fun s hs => ⟨fun _ => hs, fun _ => rfl⟩) hag hv
    | succ dd ih =>
      intro s ρ1 hdd hag hv
      refine T_Mo_fairly_2 hG hM _ ρ1 ⟨fun z => absurd (by rw [(hRr hag).1] at z; exact (nI_leI (by omega) (by omega)).mp z) (by omega), fun _ => ⟨vp_in_nI (by omega) (by omega), ?_⟩⟩
      rw [nI_clamp (by omega), nI_1]
      intro ρ2 e2
      refine ih (s + 1) ρ2 (by omega) (Ag_tr hag (by rw [e2]; exact Ag_pI (Or.inr (Or.inr rfl)))) (fun u hu => ?_)
      rw [e2, iR_pI]
      by_cases e : u = s
      · subst e; rw [if_pos ⟨rfl, rfl⟩]
      · rw [if_neg (fun y => e y.2)]; exact hv u (by omega)
  refine T_Mo_fairly_0 hG hM ρ ?_
  exact k2 (nS σ) 0 ρ (by omega) Ag_rf (fun u hu => absurd hu (by omega))
end B55
