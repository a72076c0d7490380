/-- what the search back holds: the numbers' row g, the queue -/
def KS (ρ : Rs) (σ : Wd) (g : Ro) (d : Nat → Option Nat) (q : Nat → Nat) (e : Nat) : Prop := nS σ ≤ nR ρ g ∧ nS σ ≤ nR ρ (33, 8, 0) ∧ (∀ s, s < nS σ → iR ρ g s = oI (d s)) ∧ ∀ j, j < e → iR ρ (33, 8, 0) j = nI (q j)
theorem KS_in {ρ : Rs} {σ : Wd} {g : Ro} {d : Nat → Option Nat} {q : Nat → Nat} {e t n : Nat} (hg : g ≠ (33, 8, 0)) (h : KS ρ σ g d q e) : KS (pI (pI ρ g t (nI (n + 1))) (33, 8, 0) e (nI t)) σ g (va_up d t (some (n + 1))) (va_up q e t) (e + 1) := by
  obtain ⟨h1, h2, h3, h4⟩ := h
  refine ⟨h1, h2, fun s hs => ?_, fun j hj => ?_⟩
  · rw [iR_pI, if_neg (fun z => hg z.1), iR_pI]
    by_cases e1 : s = t
    · subst e1
      rw [if_pos ⟨rfl, rfl⟩, ups]; rfl
    · rw [if_neg (fun z => e1 z.2), upn e1]
      exact h3 s hs
  · rw [iR_pI]
    by_cases e1 : j = e
    · subst e1
      rw [if_pos ⟨rfl, rfl⟩, ups]
    · rw [if_neg (fun z => e1 z.2), upn e1, iR_pI, if_neg (fun z => hg z.1.symm)]
      exact h4 j (by omega)
theorem gNo_ok {w : Nat} (hw : w = 1 ∨ w = 2 ∨ w = 3) : okR (gNo w) = true ∧ tgR (gNo w) = 50 ∧ gNo w ≠ (33, 8, 0) ∧ gNo w ≠ (33, 0, 0) ∧ gNo w ≠ (33, 7, 0) ∧ nW (gNo w) := by
  rcases hw with e | e | e <;> subst e <;> exact ⟨rfl, rfl, by decide, by decide, by decide, rfl⟩
section B24
variable {G : Gc} {ρ : Rs} {K : (Ro → Nat) → Option Value → Rs → Prop}
theorem c_spreadBack (hG : gok G) {σ : Wd} {T : Nat → Prop} {w : Nat} (hw : w = 1 ∨ w = 2 ∨ w = 3) (hR : RWr ρ σ) (hM1 : nS σ ≤ nR ρ (33, 0, 0)) (hM2 : ∀ s, s < nS σ → iR ρ (33, 0, 0) s = bI (aimW σ s)) (hn1 : nS σ ≤ nR ρ (gNo w)) (hn8 : nS σ ≤ nR ρ (33, 8, 0)) (h3 : w = 3 → nS σ ≤ nR ρ (33, 7, 0) ∧ ∀ s, s < nS σ → (iR ρ (33, 7, 0) s = 0 ↔ ¬ T s))
    (k : ∀ ad ρ' (d : Nat → Option Nat), (∀ s n, d s = some n ↔ isL (CZ σ (ZW σ T w)) (aimP σ) s n) → (∀ s n, d s = some n → s < nS σ ∧ n < nS σ) → (∀ s, s < nS σ → iR ρ' (gNo w) s = oI (d s)) → Ag (fun q => q = gNo w ∨ q = (33, 8, 0)) ρ ρ' → nR ρ' = nR ρ → K ad (some (.int (nI (cnt (fun s => (d s).isSome) (nS σ))))) ρ') :
    semV G r_Wi_spreadBack [] (fun ad => [.ref (ad (6, 0, 0)), .ref (ad (1, 0, 0)), .int (nI w), .ref (ad (gNo w))]) ρ K := by
  have h12 := hR.2.1
  have h4 := hR.1.2.2.2.1
  obtain ⟨og, tg, g8, g0, g7, gW⟩ := gNo_ok hw
  refine semV_intro yk_Wi_spreadBack.2.2.2.2 (fun _ => Nat.le_of_ble_eq_true rfl) (fun M Q ad0 hM => ?_)
  obtain ⟨B, eB⟩ : ∃ B : Ro → Prop, B = fun q => q = gNo w ∨ q = (33, 8, 0) := ⟨_, rfl⟩
  have bg : B (gNo w) := by rw [eB]; exact Or.inl rfl
  have b8 : B (33, 8, 0) := by rw [eB]; exact Or.inr rfl
  have b0 : ¬ B (33, 0, 0) := by rw [eB]; rintro (z | z); exact g0 z.symm; exact absurd z (by decide)
  have b7 : ¬ B (33, 7, 0) := by rw [eB]; rintro (z | z); exact g7 z.symm; exact absurd z (by decide)
  have bW : ∀ q, B q → nW q := by rw [eB]; rintro q (z | z); (rw [z]; exact gW); (rw [z]; rfl)
  have hRw : ∀ {ρ1 : Rs}, Ag B ρ ρ1 → RWr ρ1 σ := fun hag => RWr_ag hR (Ag_mono hag bW)
  have h3' : ∀ {ρ1 : Rs}, Ag B ρ ρ1 → w = 3 → nS σ ≤ nR ρ1 (33, 7, 0) ∧ ∀ s, s < nS σ → (iR ρ1 (33, 7, 0) s = 0 ↔ ¬ T s) := fun hag e => by rw [(hag _ b7).1, (hag _ b7).2.1]; exact h3 e
  obtain ⟨Z, eZ⟩ : ∃ Z, Z = ZW σ T w := ⟨_, rfl⟩
  -- the end
  have fin : ∀ i ρ1 d q e, e ≤ i → Ag B ρ ρ1 → nR ρ1 = nR ρ → KI σ (CZ σ Z) d q i e → KC σ Z d q i e → KS ρ1 σ (gNo w) d q e → ∀ ad, K ad (some (.int (nI e))) ρ1 := by
    intro i ρ1 d q e hi hag hnr hI hC hS ad
    subst eZ
    rw [hI.1.2.2.2.2.2.1]
    exact k ad ρ1 d (KI_end hI hi hC (hZ_W hw)) (fun s n hd => ⟨hI.2.1 s n hd, BQ_d hI.1 (hI.2.1 s n hd) hd⟩) hS.2.2.1 (by rw [← eB]; exact hag) hnr
  have k65 : ∀ dd i ρ1 d q e, i + dd = nS σ → Ag B ρ ρ1 → nR ρ1 = nR ρ → KI σ (CZ σ Z) d q i e → KC σ Z d q i e → KS ρ1 σ (gNo w) d q e → Y G [] ad0 M Q 65 (fun ad => [(0, .ref (ad (6, 0, 0))), (1, .ref (ad (1, 0, 0))), (2, .int (nI w)), (3, .ref (ad (gNo w))), (4, .int (nI e)), (5, .int (nI i))]) (fun ad => []) ρ1 := by
    intro dd
    induction dd with
    | zero =>
      intro i ρ1 d q e hdd hag hnr hI hC hS
      have he := BQ_le hI.1
      exact T_Wi_spreadBack_65 hG hM _ (gNo w) og tg _ _ ρ1 ⟨fun _ => fin i ρ1 d q e (by omega) hag hnr hI hC hS, fun z => absurd ((nI_leI (by omega) (by omega)).mpr (by omega)) z⟩
    | succ dd ih =>
      intro i ρ1 d q e hdd hag hnr hI hC hS
      have he := BQ_le hI.1
      have hR1 := hRw hag
      refine T_Wi_spreadBack_65 hG hM _ (gNo w) og tg _ _ ρ1 ⟨fun z => fin i ρ1 d q e ((nI_leI (by omega) (by omega)).mp z) hag hnr hI hC hS, fun z => ⟨fun y => absurd (by rw [hR1.1.2.1] at y; exact (nI_leI (by omega) (by omega)).mp y) (by omega), fun _ => ?_⟩⟩
      have hie : i < e := Nat.not_le.mp (fun y => z ((nI_leI (by omega) (by omega)).mpr y))
      obtain ⟨hx, n, hn⟩ := hI.1.1 i hie
      have hnN := BQ_d hI.1 hx hn
      obtain ⟨ch, hch⟩ := hR1.2.2.2.2.2.2
      obtain ⟨c1, c2, c3⟩ := hch (q i) hx
      have hP7 := hR1.2.2.2.2.1.2.1
      have cl := ed_len h12 (fun a ha => (hR1.2.2.2.1 a ha).2.2.1) c3 (fun E hE => ((c2 E).mp hE).1)
      refine ⟨in_nI (by have := hS.2.1; omega) (by omega), ?_⟩
      rw [nI_clamp (by omega), hS.2.2.2 i hie, nI_clamp (by omega)]
      refine ⟨in_nI (by omega) (by omega), ?_⟩
      -- the list of edges into q i
      have k102 : ∀ (l : List Nat) (v7 : Int32) (c : Nat) ρ2 d2 q2 e2, c + l.length = (ch (q i)).length → (∀ E, E ∈ l → E ∈ ch (q i)) → Lk ρ2 l v7 → Ag B ρ1 ρ2 → nR ρ2 = nR ρ → KI σ (CZ σ Z) d2 q2 i e2 → KC σ Z d2 q2 i e2 → KS ρ2 σ (gNo w) d2 q2 e2 → i < e2 → q2 i = q i → d2 (q i) = some n → (∀ E, E ∈ ch (q i) → E ∉ l → Z (upto d2 n) (E % 4096) (E / 16384) → upto d2 (n + 1) (E % 4096)) → Y G [] ad0 M Q 102 (fun ad => [(0, .ref (ad (6, 0, 0))), (1, .ref (ad (1, 0, 0))), (2, .int (nI w)), (3, .ref (ad (gNo w))), (4, .int (nI e2)), (5, .int (nI i)), (6, .int (nI (q i))), (7, .int v7), (8, .int (nI c))]) (fun ad => []) ρ2 := by
        intro l
        induction l with
        | nil =>
          intro v7 c ρ2 d2 q2 e2 hc hl hlk hag2 hnr2 hI2 hC2 hS2 hi2 hq2 hd2 hcl
          have done : Y G [] ad0 M Q 65 (fun ad => [(0, .ref (ad (6, 0, 0))), (1, .ref (ad (1, 0, 0))), (2, .int (nI w)), (3, .ref (ad (gNo w))), (4, .int (nI e2)), (5, .int (nI i + 1))]) (fun ad => []) ρ2 := by
            rw [nI_1]
            refine ih (i + 1) ρ2 d2 q2 e2 (by omega) (Ag_tr hag hag2) hnr2 (KI_nx hI2) (KC_nx hC2 (by rw [hq2]; exact hd2) (fun s a kk hs ha hkk hnx hz => ?_)) hS2
            rw [hq2] at hnx
            have hO := hR1.2.2.2.1 a ha
            have hOx := hO.2.1
            have hOy := hO.2.2.1
            have q1 := ed_a (a := a) (k := kk) (s := s) (by omega) (by omega)
            have q2' := ed_k (a := a) (k := kk) (s := s) (by omega) (by omega)
            have q3 := ed_s (a := a) (k := kk) (s := s) (by omega) (by omega)
            have := hcl (a * 16384 + kk * 4096 + s) ((c2 _).mpr ⟨⟨by rw [q1]; exact ha, by rw [q1, q2']; exact hkk, by rw [q3]; exact hs⟩, by omega, by unfold nxE; rw [q1, q2', q3]; exact hnx⟩) List.not_mem_nil
            rw [q1, q3] at this
            exact this hz
          have hlk : v7 = -1 := hlk
          exact T_Wi_spreadBack_102 hG hM _ (gNo w) og tg _ _ _ _ _ ρ2 ⟨fun _ => done, fun _ => ⟨fun _ => done, fun z => absurd hlk z⟩⟩
        | cons E l ihl =>
          intro v7 c ρ2 d2 q2 e2 hc hl hlk hag2 hnr2 hI2 hC2 hS2 hi2 hq2 hd2 hcl
          have hc : c + (l.length + 1) = (ch (q i)).length := hc
          obtain ⟨hv7, hlk2⟩ := hlk
          obtain ⟨hvE, hEc, hnE⟩ := (c2 E).mp (hl E List.mem_cons_self)
          have hv := hvE
          obtain ⟨v1, v2, v3⟩ := hvE
          have hR2 := hRw (Ag_tr hag hag2)
          have hO := hR2.2.2.2.1 _ v1
          have hOx := hO.2.1
          have hOy := hO.2.2.1
          have hE31 : E < 2 ^ 31 := by omega
          have hE0 : ¬ nI E = -1 := fun z => by have := (oI_m1 (o := some E) (fun m hm => by cases hm; exact hE31)).mp z; cases this
          have he2 := BQ_le hI2.1
          obtain ⟨s1, s2, s3, s4⟩ := hS2
          have hS2 : KS ρ2 σ (gNo w) d2 q2 e2 := ⟨s1, s2, s3, s4⟩
          -- on to the next edge
          have go : ∀ ρ3 d3 q3 e3, Lk ρ3 l (iR ρ3 (24, E / 16384, E / 4096 % 4) (E % 4096)) → Ag B ρ1 ρ3 → nR ρ3 = nR ρ → KI σ (CZ σ Z) d3 q3 i e3 → KC σ Z d3 q3 i e3 → KS ρ3 σ (gNo w) d3 q3 e3 → i < e3 → q3 i = q i → d3 (q i) = some n → (∀ E', E' ∈ ch (q i) → E' ∉ l → Z (upto d3 n) (E' % 4096) (E' / 16384) → upto d3 (n + 1) (E' % 4096)) → semV G r_Wo_nextInto [] (fun ad => [.ref (ad (1, 0, 0)), .int (nI E)]) ρ3 (fun ad u8 ρ7 => ∃ x10 : Int32, u8 = some (.int x10) ∧ (Y G [] ad0 M Q 102 (fun ad => [(0, .ref (ad (6, 0, 0))), (1, .ref (ad (1, 0, 0))), (2, .int (nI w)), (3, .ref (ad (gNo w))), (4, .int (nI e3)), (5, .int (nI i)), (6, .int (nI (q i))), (7, .int x10), (8, .int (nI c + 1))]) (fun ad => []) ρ7)) := by
            intro ρ3 d3 q3 e3 k1 k2 k2' k3 k4 k5 k6 k7 k8 k9
            have hR3 := hRw (Ag_tr hag k2)
            refine c_nextInto hG (by omega) (by omega) (Nat.lt_of_lt_of_le v3 (hR3.2.2.2.2.2.1 _ v1 _ v2).2.1) (fun ad => ⟨_, rfl, ?_⟩)
            rw [nI_1]
            exact ihl _ (c + 1) ρ3 d3 q3 e3 (by omega) (fun E' hE' => hl E' (List.mem_cons_of_mem _ hE')) k1 k2 k2' k3 k4 k5 k6 k7 k8 k9
          subst hv7
          refine T_Wi_spreadBack_102 hG hM _ (gNo w) og tg _ _ _ _ _ ρ2 ⟨fun z => absurd ((nI_leI (a := 147456) (by decide) (by omega)).mp z) (by omega), fun _ => ⟨fun z => absurd z hE0, fun _ => ?_⟩⟩
          refine c_stateOf hG hE31 (fun ad => ⟨_, rfl, in_nI (by omega) (by omega), ?_⟩)
          rw [nI_clamp (by omega), s3 _ v3]
          have hm1 := oI_m1 (o := d2 (E % 4096)) (fun m hm => by have := BQ_d hI2.1 v3 hm; omega)
          refine ⟨fun z => ⟨in_nI (by omega) (by omega), ?_⟩, fun z => go ρ2 d2 q2 e2 hlk2 hag2 hnr2 hI2 hC2 hS2 hi2 hq2 hd2 (fun E' hE' hn' hz => ?_)⟩
          · have hdn := hm1.mp z
            rw [nI_clamp (by omega), s3 _ hx, hd2]
            have hcan : canW σ (E % 4096) (E / 16384) := nx_canW hnE
            refine c_mayCome (T := T) (d := d2) (n := n) hG hw hR2 hv hcan (fun e2' => ?_) (fun s m hs hm => BQ_d hI2.1 hs hm) (h3' (Ag_tr hag hag2)) (by omega) (fun hz ad => ⟨_, rfl, fun y => absurd y (by decide), fun _ => ⟨in_nI (by omega) (by omega), in_nI (by omega) (by omega), ?_⟩⟩) (fun hz ad => ⟨_, rfl, fun _ => ?_, fun y => absurd rfl y⟩)
            · subst e2'
              exact ⟨s1, s3⟩
            · rw [nI_clamp (by omega), s3 _ hx, hd2]
              intro ρ24 e24
              have e24 : ρ24 = pI ρ2 (gNo w) (E % 4096) (nI (n + 1)) := by rw [e24]; show pI ρ2 _ _ (nI n + 1) = _; rw [nI_1]
              have hlt := BQ_lt hI2.1 v3 hdn
              refine ⟨in_nI (by rw [e24, nR_pI]; omega) (by omega), fun ρ25 e25 => ?_⟩
              have eρ : ρ25 = pI (pI ρ2 (gNo w) (E % 4096) (nI (n + 1))) (33, 8, 0) e2 (nI (E % 4096)) := by rw [e25, e24]
              have a25 : Ag B ρ2 ρ25 := by rw [eρ]; exact Ag_tr (Ag_pI bg) (Ag_pI b8)
              have lk25 : ∀ {x : Int32}, Lk ρ2 l x → Lk ρ25 l x := fun h => Lk_ag a25 (fun a kk z => by have := bW _ z; cases this) h
              have i25 : iR ρ25 (24, E / 16384, E / 4096 % 4) = iR ρ2 (24, E / 16384, E / 4096 % 4) := (a25 _ (fun z => by have := bW _ z; cases this)).2.1
              have hxne : q i ≠ E % 4096 := fun y => by rw [y, hdn] at hd2; cases hd2
              rw [nI_1]
              refine go ρ25 (va_up d2 (E % 4096) (some (n + 1))) (va_up q2 e2 (E % 4096)) (e2 + 1) (by rw [i25]; exact lk25 hlk2) (Ag_tr hag2 a25) (by rw [eρ]; exact hnr2) ?_ (KC_in hI2.1 hC2 hi2 (by rw [hq2]; exact hd2) hdn) (by rw [eρ]; exact KS_in g8 hS2) (by omega) (by rw [upn (by omega)]; exact hq2) (by rw [upn hxne]; exact hd2) (fun E' hE' hn' hz2 => ?_)
              · refine KI_in (by rw [eZ]; exact CZ_mono hw) hI2 hi2 (by rw [hq2]; exact hd2) v3 hdn ⟨v3, E / 16384, E / 4096 % 4, q i, v1, v2, hnE, by rw [eZ]; exact hz, n, Nat.le_refl _, hd2⟩
              · by_cases e : E' = E
                · rw [e]
                  exact ⟨n + 1, Nat.le_refl _, ups⟩
                · rw [upto_in hdn (Nat.le_refl _)] at hz2
                  exact upto_up hdn (hcl E' hE' (fun y => by rcases List.mem_cons.mp y with y | y; exact e y; exact hn' y) hz2)
            · refine go ρ2 d2 q2 e2 hlk2 hag2 hnr2 hI2 hC2 hS2 hi2 hq2 hd2 (fun E' hE' hn' hz2 => ?_)
              by_cases e : E' = E
              · rw [e] at hz2
                exact absurd (by rw [eZ] at hz2; exact hz2) hz
              · exact hcl E' hE' (fun y => by rcases List.mem_cons.mp y with y | y; exact e y; exact hn' y) hz2
          · by_cases e : E' = E
            · rw [e]
              cases hds : d2 (E % 4096) with
              | none => exact absurd (hm1.mpr hds) z
              | some m =>
                obtain ⟨j, hj, hjq⟩ := hI2.1.2.1 _ m v3 hds
                exact ⟨m, hI2.1.2.2.2.2.1 j n m hj hi2 (by rw [hq2]; exact hd2) (by rw [hjq]; exact hds), hds⟩
            · exact hcl E' hE' (fun y => by rcases List.mem_cons.mp y with y | y; exact e y; exact hn' y) hz
      exact k102 (ch (q i)) _ 0 ρ1 d q e (by omega) (fun _ h => h) c1 Ag_rf hnr hI hC hS hie rfl hn (fun E hE hn' => absurd hE hn')
  -- the aim's states first
  have k6 : ∀ dd s ρ1 (q : Nat → Nat) e, s + dd = nS σ → Ag B ρ ρ1 → nR ρ1 = nR ρ → e = cnt (aimW σ) s → (∀ u, u < s → iR ρ1 (gNo w) u = oI (d0 σ u)) → (∀ j, j < e → iR ρ1 (33, 8, 0) j = nI (q j)) → (∀ j, j < e → aimP σ (q j) ∧ q j < s) → (∀ u, u < s → aimP σ u → ∃ j, j < e ∧ q j = u) → (∀ j l, j < l → l < e → q j < q l) → Y G [] ad0 M Q 6 (fun ad => [(0, .ref (ad (6, 0, 0))), (1, .ref (ad (1, 0, 0))), (2, .int (nI w)), (3, .ref (ad (gNo w))), (4, .int (nI e)), (5, .int (nI s))]) (fun ad => []) ρ1 := by
    intro dd
    induction dd with
    | zero =>
      intro s ρ1 q e hdd hag hnr he hd0 hq h1 h2 h5
      have es : s = nS σ := by omega
      subst es
      refine T_Wi_spreadBack_6 hG hM _ (gNo w) og tg _ _ ρ1 ⟨fun _ => ?_, fun z => absurd (by rw [(hRw hag).1.2.1]; exact (nI_leI (by omega) (by omega)).mpr (Nat.le_refl _)) z⟩
      refine k65 (nS σ) 0 ρ1 (d0 σ) q e (by omega) hag hnr (KI_0 (fun j hj => (h1 j hj).1) (fun s hs => h2 s hs.1 hs) h5 he) (fun j s a kk n hj => by omega) ⟨by rw [hnr]; exact hn1, by rw [hnr]; exact hn8, hd0, hq⟩
    | succ dd ih =>
      intro s ρ1 q e hdd hag hnr he hd0 hq h1 h2 h5
      have hs : s < nS σ := by omega
      have hel : e ≤ s := by rw [he]; exact cnt_le _ _
      have cs : cnt (aimW σ) (s + 1) = cnt (aimW σ) s + (if aimW σ s = true then 1 else 0) := rfl
      refine T_Wi_spreadBack_6 hG hM _ (gNo w) og tg _ _ ρ1 ⟨fun z => absurd (by rw [(hRw hag).1.2.1] at z; exact (nI_leI (by omega) (by omega)).mp z) (by omega), fun _ => ⟨in_nI (by rw [hnr]; omega) (by omega), ?_⟩⟩
      rw [nI_clamp (by omega), (hag _ b0).2.1, hM2 s hs, nI_1]
      intro z3 ez3
      refine ⟨in_nI (by rw [hnr]; omega) (by omega), fun ρ4 e4 => ⟨in_nI (by rw [e4, nR_pI, hnr]; omega) (by omega), ?_⟩⟩
      have a4 : Ag B ρ ρ4 := by rw [e4]; exact Ag_tr hag (Ag_pI bg)
      have n4 : nR ρ4 = nR ρ := by rw [e4, nR_pI]; exact hnr
      have dz : z3 = oI (d0 σ s) := by
        have e0 : d0 σ s = if aimW σ s = true then some 0 else none := by
          unfold d0
          by_cases h : aimW σ s = true
          · rw [if_pos ⟨hs, h⟩, if_pos h]
          · rw [if_neg (fun y => h y.2), if_neg h]
        rw [ez3, e0]
        cases aimW σ s <;> rfl
      have d4 : ∀ u, u < s + 1 → iR ρ4 (gNo w) u = oI (d0 σ u) := by
        intro u hu
        rw [e4, iR_pI]
        by_cases e : u = s
        · subst e; rw [if_pos ⟨rfl, rfl⟩]; exact dz
        · rw [if_neg (fun y => e y.2)]; exact hd0 u (by omega)
      have q4 : ∀ j, j < e → iR ρ4 (33, 8, 0) j = nI (q j) := fun j hj => by rw [e4, iR_pI, if_neg (fun y => g8 y.1.symm)]; exact hq j hj
      rw [(a4 _ b0).2.1, hM2 s hs]
      refine ⟨fun z => ?_, fun z => ⟨in_nI (by rw [n4]; omega) (by omega), ?_⟩⟩
      · have hb := bI_0.mp z
        refine ih (s + 1) ρ4 q e (by omega) a4 n4 (by rw [cs, hb, he]; rfl) d4 q4 (fun j hj => ⟨(h1 j hj).1, by have := (h1 j hj).2; omega⟩) (fun u hu ha => ?_) h5
        by_cases e2 : u = s
        · subst e2
          have := ha.2
          rw [hb] at this; cases this
        · exact h2 u (by omega) ha
      · have hb : aimW σ s = true := by
          cases h : aimW σ s with
          | true => rfl
          | false => exact absurd (bI_0.mpr h) z
        rw [nI_clamp (by omega), nI_1]
        intro ρ6 e6
        have a6 : Ag B ρ ρ6 := by rw [e6]; exact Ag_tr a4 (Ag_pI b8)
        refine ih (s + 1) ρ6 (va_up q e s) (e + 1) (by omega) a6 (by rw [e6, nR_pI]; exact n4) (by rw [cs, hb, he]; rfl) (fun u hu => by rw [e6, iR_pI, if_neg (fun y => g8 y.1)]; exact d4 u hu) (fun j hj => ?_) (fun j hj => ?_) (fun u hu ha => ?_) (fun j l hj hl => ?_)
        · rw [e6, iR_pI]
          by_cases e2 : j = e
          · subst e2; rw [if_pos ⟨rfl, rfl⟩, ups]
          · rw [if_neg (fun y => e2 y.2), upn e2]; exact q4 j (by omega)
        · by_cases e2 : j = e
          · subst e2; rw [ups]; exact ⟨⟨hs, hb⟩, by omega⟩
          · rw [upn e2]; exact ⟨(h1 j (by omega)).1, by have := (h1 j (by omega)).2; omega⟩
        · by_cases e2 : u = s
          · exact ⟨e, by omega, by rw [ups, e2]⟩
          · obtain ⟨j, hj, hjq⟩ := h2 u (by omega) ha
            exact ⟨j, by omega, by rw [upn (by omega)]; exact hjq⟩
        · rw [upn (by omega : j ≠ e)]
          by_cases e2 : l = e
          · rw [e2, ups]; exact (h1 j (by omega)).2
          · rw [upn e2]; exact h5 j l hj (by omega)
  refine T_Wi_spreadBack_0 hG hM _ (gNo w) og tg ρ ?_
  exact k6 (nS σ) 0 ρ (fun _ => 0) 0 (by omega) Ag_rf rfl rfl (fun u hu => absurd hu (by omega)) (fun j hj => absurd hj (by omega)) (fun j hj => absurd hj (by omega)) (fun u hu => absurd hu (by omega)) (fun j l _ hl => absurd hl (by omega))
end B24
