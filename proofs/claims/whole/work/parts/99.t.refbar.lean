/-! THE REFERENCE ANSWERS: needed, fact, values -/
theorem stpX_x {σ : Wd} {ba : Option Nat} {u t : Nat} (h3 : ∀ a, a < dA σ → dO σ a ≤ 3) : stpX σ ba u t ↔ ∃ x, x < 3 * dA σ ∧ ba ≠ some (x / 3) ∧ nxX σ u x = some t := by
  constructor
  · rintro ⟨a, k, ha, hk, hb, hx⟩
    have h := h3 a ha
    have e : (3 * a + k) / 3 = a := by omega
    exact ⟨3 * a + k, by omega, by rw [e]; exact hb, by rw [nxX_ak hk h]; exact hx⟩
  · rintro ⟨x, hx, hb, ht⟩
    unfold nxX at ht
    split at ht
    · exact ⟨x / 3, x % 3, by omega, by assumption, hb, ht⟩
    · cases ht
theorem vl_ltz {σ : Wd} {s t : Nat} (hz : ∀ t, t < dT σ → 2 ≤ dS σ t ∧ dS σ t ≤ 4) (ht : t < dT σ) : vl σ s t < dS σ t := Nat.mod_lt _ (by have := hz t ht; omega)
def PRw (q : Ro) : Prop := q = (41, 10, 0) ∨ q = (41, 23, 0) ∨ q = (41, 34, 0)
theorem PRw_Mo {q : Ro} (h : PRw q) : PMo q := by rcases h with h | h | h <;> rw [h] <;> (unfold PMo; decide)
section B61
variable {G : Gc} {ρ : Rs} {K : (Ro → Nat) → Option Value → Rs → Prop}
theorem c_isBarred (hG : gok G) {σ : Wd} {s bv : Nat} {bt : Option Nat} {v3 : Int32} (hT : MT ρ σ) (hs : s < 2 ^ 31) (hbt : ∀ t, bt = some t → t < dT σ ∧ v3 = nI bv) (hbv : bv < 4096) (k : ∀ ad ρ', Ag (fun q => q = (41, 10, 0)) ρ ρ' → K ad (some (.int (bI (barF σ bt bv s)))) ρ') : semV G r_Mo_isBarred [] (fun ad => [.ref (ad (40, 0, 0)), .int (nI s), .int (oI bt), .int v3]) ρ K := by
  refine semV_intro yk_Mo_isBarred.2.2.2.2 (fun _ => Nat.le_of_ble_eq_true rfl) (fun M Q ad0 hM => ?_)
  refine T_Mo_isBarred_0 hG hM _ _ _ ρ ?_
  cases bt with
  | none => exact ⟨fun _ ad => k ad ρ Ag_rf, fun z => absurd rfl z⟩
  | some t =>
    obtain ⟨ht, e3⟩ := hbt t rfl
    subst e3
    have h8 := hT.2.1
    have hv := vl_ltz (s := s) hT.2.2.2.1 ht
    have hz := hT.2.2.2.1 t ht
    show (nI t = -1 → _) ∧ (¬ nI t = -1 → _)
    refine ⟨fun z => absurd z (nI_m1 (by omega)), fun _ => ?_⟩
    refine c_Mo_open hG hT hs (fun ad ρ1 o1 o2 => ⟨rfl, vp_in_nI (n := t) (by omega) (by omega), fun z5 e5 => ?_⟩)
    have e5 : z5 = if iR ρ1 (41, 10, 0) (Int32.toNatClampNeg (nI t)) = nI bv then 1 else 0 := e5
    have e5 : z5 = bI (barF σ (some t) bv s) := by
      rw [e5, nI_clamp (n := t) (by omega), o1 t ht]
      show _ = bI (decide (vl σ s t = bv))
      have eq : (nI (vl σ s t) = nI bv) ↔ vl σ s t = bv := nI_eq (by omega) (by omega)
      by_cases e : vl σ s t = bv
      · rw [if_pos (eq.mpr e), decide_eq_true e]; rfl
      · rw [if_neg (fun z => e (eq.mp z)), decide_eq_false e]; rfl
    rw [e5]
    exact ⟨bI_nb _, fun ad => k ad ρ1 o2⟩
theorem c_isReachedWithout (hG : gok G) {σ : Wd} {ba bt : Option Nat} {bv : Nat} {v3 : Int32} (h : RMo ρ σ) (hl : ML ρ σ) (hW : Wok σ) (hba : ∀ a, ba = some a → a < 12) (hbt : ∀ t, bt = some t → t < dT σ ∧ v3 = nI bv) (hbv : bv < 4096) (k1 : isRW σ ba (barF σ bt bv) → ∀ ad ρ', Ag PRw ρ ρ' → K ad (some (.int 1)) ρ') (k0 : ¬ isRW σ ba (barF σ bt bv) → ∀ ad ρ', Ag PRw ρ ρ' → K ad (some (.int 0)) ρ') : semV G r_Mo_isReachedWithout [] (fun ad => [.ref (ad (40, 0, 0)), .int (oI ba), .int (oI bt), .int v3]) ρ K := by
  have hN := hW.2.2.1
  have hB := hW.2.2.2.1
  have h12 := hW.2.2.2.2.1
  have h3 : ∀ a, a < dA σ → dO σ a ≤ 3 := fun a ha => (hW.2.2.2.2.2.1 a ha).2
  refine semV_intro yk_Mo_isReachedWithout.2.2.2.2 (fun _ => Nat.le_of_ble_eq_true rfl) (fun M Q ad0 hM => ?_)
  have bq : ∀ {ρ2}, Ag PRw ρ ρ2 → MT ρ2 σ ∧ iR ρ2 (40, 0, 0) 13 = nI (nS σ) ∧ iR ρ2 (40, 0, 0) 2 = nI (dB σ) ∧ iR ρ2 (40, 0, 0) 3 = nI (dA σ) ∧ iR ρ2 (41, 15, 0) = iR ρ (41, 15, 0) ∧ iR ρ2 (41, 14, 0) = iR ρ (41, 14, 0) := fun ha => by
    have i := (ha (40, 0, 0) (by simp [PRw])).2.1
    exact ⟨MT_ag h.1.1 ha (by simp [PRw]) (by simp [PRw]), by rw [i]; exact hl.1, by rw [i]; exact h.1.2.1, by rw [i]; exact h.1.2.2.1, (ha (41, 15, 0) (by simp [PRw])).2.1, (ha (41, 14, 0) (by simp [PRw])).2.1⟩
  obtain ⟨l1, l2, l3, -, -⟩ := hl
  have fin : ∀ (i : Nat) (ρ1 : Rs) (d : Nat → Option Nat) (q : Nat → Nat) (e : Nat), e ≤ i → i ≤ 4096 → Ag PRw ρ ρ1 → SI σ ba (barF σ bt bv) d q i e → (∀ j, j < i → j < e → aimW σ (q j) = false) → Y G [] ad0 M Q 68 (fun ad => [(0, .ref (ad (40, 0, 0))), (1, .int (oI ba)), (2, .int (oI bt)), (3, .int v3), (4, .int (nI e)), (5, .int (nI i))]) (fun ad => []) ρ1 := by
    intro i ρ1 d q e he hi hag hI hno
    refine T_Mo_isReachedWithout_68 hG hM _ _ _ _ _ ρ1 ⟨fun _ ad => k0 (SI_end hI he (fun s n hd => ?_)) ad ρ1 hag, fun z => absurd ((nI_leI (by omega) (by omega)).mpr he) z⟩
    obtain ⟨j, hj, ej⟩ := hI.1.2.1 s n (hI.2.1 s n hd).1 hd
    rw [← ej]; exact hno j (by omega) hj
  have k68 : ∀ (dd i : Nat) (ρ1 : Rs) (d : Nat → Option Nat) (q : Nat → Nat) (e : Nat), i + dd = nS σ → Ag PRw ρ ρ1 → SI σ ba (barF σ bt bv) d q i e → (∀ j, j < i → j < e → aimW σ (q j) = false) → (∀ s, s < nS σ → iR ρ1 (41, 34, 0) s = bI (d s).isSome) → (∀ j, j < e → iR ρ1 (41, 23, 0) j = nI (q j)) → Y G [] ad0 M Q 68 (fun ad => [(0, .ref (ad (40, 0, 0))), (1, .int (oI ba)), (2, .int (oI bt)), (3, .int v3), (4, .int (nI e)), (5, .int (nI i))]) (fun ad => []) ρ1 := by
    intro dd
    induction dd with
    | zero =>
      intro i ρ1 d q e hdd hag hI hno h34 h23
      have he := BQ_le hI.1
      exact fin i ρ1 d q e (by omega) (by omega) hag hI hno
    | succ dd ih =>
      intro i ρ1 d q e hdd hag hI hno h34 h23
      have he := BQ_le hI.1
      by_cases hie : e ≤ i
      · exact fin i ρ1 d q e hie (by omega) hag hI hno
      · have hie : i < e := by omega
        obtain ⟨hu, n, hn⟩ := hI.1.1 i hie
        refine T_Mo_isReachedWithout_68 hG hM _ _ _ _ _ ρ1 ⟨fun z => absurd ((nI_leI (by omega) (by omega)).mp z) (by omega), fun _ => ⟨vp_in_nI (by omega) (by omega), ?_⟩⟩
        rw [nI_clamp (n := i) (by omega), h23 i hie, nI_clamp (n := q i) (by omega), (bq hag).2.2.2.2.1, l3 (q i) hu, bI_0]
        refine ⟨vp_in_nI (by omega) (by omega), fun za => ?_, fun za ad => ?_⟩
        · have k99 : ∀ (dx x : Nat) (ρ2 : Rs) (d2 : Nat → Option Nat) (q2 : Nat → Nat) (e2 : Nat), x + dx = 3 * dA σ → Ag PRw ρ ρ2 → SI σ ba (barF σ bt bv) d2 q2 i e2 → i < e2 → q2 i = q i → (∀ j, j < i → q2 j = q j) → d2 (q i) = some n → (∀ y t, y < x → ba ≠ some (y / 3) → nxX σ (q i) y = some t → barF σ bt bv t = false → ∃ m, d2 t = some m) → (∀ s, s < nS σ → iR ρ2 (41, 34, 0) s = bI (d2 s).isSome) → (∀ j, j < e2 → iR ρ2 (41, 23, 0) j = nI (q2 j)) → Y G [] ad0 M Q 99 (fun ad => [(0, .ref (ad (40, 0, 0))), (1, .int (oI ba)), (2, .int (oI bt)), (3, .int v3), (4, .int (nI e2)), (5, .int (nI i)), (6, .int (nI (q i))), (7, .int (nI x))]) (fun ad => []) ρ2 := by
            intro dx
            induction dx with
            | zero =>
              intro x ρ2 d2 q2 e2 hdx a2 hI2 hi2 hq2 hq3 hd2 hc h34' h23'
              have s2 := (bq a2).2.2.2.1
              refine T_Mo_isReachedWithout_99 hG hM _ _ _ _ _ _ _ ρ2 ⟨fun _ => ?_, fun z => absurd (by rw [s2, mul3]; exact (nI_leI (by omega) (by omega)).mpr (by omega)) z⟩
              rw [nI_1 i]
              refine ih (i + 1) ρ2 d2 q2 e2 (by omega) a2 (SI_nx hI2 (fun t hst hbar => ?_)) (fun j hj hje => ?_) h34' h23'
              · rw [hq2] at hst
                obtain ⟨y, hy, hyb, hyt⟩ := (stpX_x h3).mp hst
                exact hc y t (by omega) hyb hyt hbar
              · by_cases ej : j = i
                · rw [ej, hq2]; exact za
                · rw [hq3 j (by omega)]; exact hno j (by omega) (by omega)
            | succ dx ih2 =>
              intro x ρ2 d2 q2 e2 hdx a2 hI2 hi2 hq2 hq3 hd2 hc h34' h23'
              obtain ⟨s0, s1, s2, s3, s4, s5⟩ := bq a2
              have hx : x < 3 * dA σ := by omega
              have he2 := BQ_le hI2.1
              -- nothing new by x
              have same : ∀ ρ3, Ag PRw ρ ρ3 → iR ρ3 (41, 34, 0) = iR ρ2 (41, 34, 0) → iR ρ3 (41, 23, 0) = iR ρ2 (41, 23, 0) → (∀ t, ba ≠ some (x / 3) → nxX σ (q i) x = some t → barF σ bt bv t = false → ∃ m, d2 t = some m) → Y G [] ad0 M Q 99 (fun ad => [(0, .ref (ad (40, 0, 0))), (1, .int (oI ba)), (2, .int (oI bt)), (3, .int v3), (4, .int (nI e2)), (5, .int (nI i)), (6, .int (nI (q i))), (7, .int (nI (x + 1)))]) (fun ad => []) ρ3 := by
                intro ρ3 a3 e34 e23 hx1
                refine ih2 (x + 1) ρ3 d2 q2 e2 (by omega) a3 hI2 hi2 hq2 hq3 hd2 (fun y t hy hyb hyt hbar => ?_) (by rw [e34]; exact h34') (by rw [e23]; exact h23')
                by_cases ey : y = x
                · subst ey; exact hx1 t hyb hyt hbar
                · exact hc y t (by omega) hyb hyt hbar
              refine T_Mo_isReachedWithout_99 hG hM _ _ _ _ _ _ _ ρ2 ⟨fun z => absurd (by rw [s3, mul3] at z; exact (nI_leI (by omega) (by omega)).mp z) (by omega), fun _ => ?_⟩
              rw [mul36, nI_clamp (n := 36 * q i + x) (by omega), s5, l2 (q i) x hu hx, div3 (by omega), nI_1 x]
              refine ⟨vp_in_nI (by omega) (by omega), ?_⟩
              cases hxt : nxX σ (q i) x with
              | none => exact ⟨fun _ => same ρ2 a2 rfl rfl (fun t _ z => by rw [hxt] at z; cases z), fun z => absurd rfl z⟩
              | some t =>
                have htN := nxX_lt hW hx hxt
                have eqb : (nI (x / 3) = oI ba) ↔ ba = some (x / 3) := by
                  cases hb : ba with
                  | none => exact ⟨fun z => absurd z (nI_m1 (by omega)), fun z => by cases z⟩
                  | some b =>
                    have := hba b hb
                    exact ⟨fun z => by rw [(nI_eq (by omega) (by omega)).mp z], fun z => by cases z; rfl⟩
                refine ⟨fun z => absurd z (nI_m1 (by omega)), fun _ => ⟨fun z => same ρ2 a2 rfl rfl (fun u hb _ _ => absurd (eqb.mp z) hb), fun z => ⟨vp_in_nI (n := t) (by omega) (by omega), ?_⟩⟩⟩
                show (iR ρ2 (41, 34, 0) (Int32.toNatClampNeg (nI t)) = 0 → _) ∧ (¬ iR ρ2 (41, 34, 0) (Int32.toNatClampNeg (nI t)) = 0 → _)
                rw [nI_clamp (n := t) (by omega), h34' t htN, bI_0]
                refine ⟨fun y => ?_, fun y => same ρ2 a2 rfl rfl (fun u hb hu _ => ?_)⟩
                · have hdt : d2 t = none := by
                    cases hd : d2 t with
                    | none => rfl
                    | some m => rw [hd] at y; cases y
                  have he2' := BQ_lt hI2.1 htN hdt
                  have hbx : ba ≠ some (x / 3) := fun w => z (eqb.mpr w)
                  refine c_isBarred (bt := bt) (bv := bv) hG s0 (by omega) hbt hbv (fun ad ρ3 b3 => ⟨_, rfl, fun w => ⟨vp_in_nI (n := t) (by omega) (by omega), ?_⟩, fun w => ?_⟩)
                  · have hbar : barF σ bt bv t = false := bI_0.mp w
                    show ∀ ρ10 : Rs, ρ10 = pI ρ3 (41, 34, 0) (Int32.toNatClampNeg (nI t)) 1 → vp_in (nI e2) 4096 ∧ ∀ ρ11 : Rs, ρ11 = pI ρ10 (41, 23, 0) (Int32.toNatClampNeg (nI e2)) (nI t) → _
                    rw [nI_clamp (n := t) (by omega), nI_clamp (n := e2) (by omega), nI_1 e2]
                    intro ρ10 e10
                    refine ⟨vp_in_nI (by omega) (by omega), fun ρ11 e11 => ?_⟩
                    have a3 : Ag PRw ρ ρ3 := Ag_tr a2 (Ag_mono b3 (fun q e => Or.inl e))
                    have hne : q i ≠ t := fun z => by rw [z, hdt] at hd2; cases hd2
                    refine ih2 (x + 1) ρ11 (va_up d2 t (some (n + 1))) (va_up q2 e2 t) (e2 + 1) (by omega) (Ag_tr a3 (by rw [e11, e10]; exact Ag_tr (Ag_pI (Or.inr (Or.inr rfl))) (Ag_pI (Or.inr (Or.inl rfl))))) (SI_in hI2 hi2 (by rw [hq2]; exact hd2) htN hdt (by rw [hq2]; exact (stpX_x h3).mpr ⟨x, hx, hbx, hxt⟩) hbar) (by omega) (by rw [upn (by omega)]; exact hq2) (fun j hj => by rw [upn (by omega)]; exact hq3 j hj) (by rw [upn hne]; exact hd2) (fun y' t' hy hyb hyt hbar' => ?_) (fun s hs => ?_) (fun j hj => ?_)
                    · by_cases ey : y' = x
                      · subst ey; rw [hxt] at hyt; cases hyt; exact ⟨_, ups⟩
                      · exact up_some (hc y' t' (by omega) hyb hyt hbar')
                    · rw [e11, iR_pI, if_neg (by simp), e10, iR_pI]
                      by_cases es : s = t
                      · rw [if_pos ⟨rfl, es⟩, es, ups]; rfl
                      · rw [if_neg (fun z => es z.2), upn es, (b3 (41, 34, 0) (by simp)).2.1]; exact h34' s hs
                    · rw [e11, iR_pI]
                      by_cases ej : j = e2
                      · rw [if_pos ⟨rfl, ej⟩, ej, ups]
                      · rw [if_neg (fun z => ej z.2), upn ej, e10, iR_pI, if_neg (by simp), (b3 (41, 23, 0) (by simp)).2.1]; exact h23' j (by omega)
                  · refine same ρ3 (Ag_tr a2 (Ag_mono b3 (fun q e => Or.inl e))) (b3 (41, 34, 0) (by simp)).2.1 (b3 (41, 23, 0) (by simp)).2.1 (fun u _ hu hbar => ?_)
                    rw [hxt] at hu
                    cases hu
                    exact absurd (bI_0.mpr hbar) w
                · rw [hxt] at hu
                  cases hu
                  cases hd : d2 t with
                  | none => rw [hd] at y; exact absurd rfl y
                  | some m => exact ⟨m, rfl⟩
          exact k99 (3 * dA σ) 0 ρ1 d q e (by omega) hag hI hie rfl (fun _ _ => rfl) hn (fun y t hy => absurd hy (by omega)) h34 h23
        · obtain ⟨m, hm⟩ := (hI.2.1 (q i) n hn).2
          exact k1 ⟨m, q i, hm, bnf za⟩ ad ρ1 hag
  have k3 : ∀ (dd s : Nat) (ρ1 : Rs), s + dd = nS σ → Ag PRw ρ ρ1 → (∀ u, u < s → iR ρ1 (41, 34, 0) u = 0) → Y G [] ad0 M Q 3 (fun ad => [(0, .ref (ad (40, 0, 0))), (1, .int (oI ba)), (2, .int (oI bt)), (3, .int v3), (4, .int (nI s))]) (fun ad => []) ρ1 := by
    intro dd
    induction dd with
    | zero =>
      intro s ρ1 hdd hag hv
      obtain ⟨s0, s1, s2, s3, s4, s5⟩ := bq hag
      refine T_Mo_isReachedWithout_3 hG hM _ _ _ _ ρ1 ⟨fun _ => ?_, fun z => absurd (by rw [s1]; exact (nI_leI (by omega) (by omega)).mpr (by omega)) z⟩
      rw [s2]
      refine c_isBarred (bt := bt) (bv := bv) hG s0 (by omega) hbt hbv (fun ad ρ3 b3 => ⟨_, rfl, fun w => ?_, fun w => ?_⟩)
      · have hbar : barF σ bt bv (dB σ) = false := bI_0.mp w
        have a3 : Ag PRw ρ ρ3 := Ag_tr hag (Ag_mono b3 (fun q e => Or.inl e))
        rw [(bq a3).2.2.1, nI_clamp (by omega), show Int32.toNatClampNeg 0 = 0 from rfl]
        refine ⟨vp_in_nI (by omega) (by omega), fun ρ5 e5 => ⟨vp_in_nI (n := 0) (by omega) (by omega), fun ρ6 e6 => ?_⟩⟩
        have a5 : Ag PRw ρ ρ5 := Ag_tr a3 (by rw [e5]; exact Ag_pI (Or.inr (Or.inr rfl)))
        rw [(bq a5).2.2.1] at e6
        refine k68 (nS σ) 0 ρ6 (va_up (fun _ => none) (dB σ) (some 0)) (fun _ => dB σ) 1 (by omega) (Ag_tr a5 (by rw [e6]; exact Ag_pI (Or.inr (Or.inl rfl)))) (SI_0 hB rfl hbar) (fun j hj => absurd hj (by omega)) (fun u hu => ?_) (fun j hj => ?_)
        · rw [e6, iR_pI, if_neg (by simp), e5, iR_pI]
          by_cases e1 : u = dB σ
          · rw [if_pos ⟨rfl, e1⟩, e1, ups]; rfl
          · rw [if_neg (fun z => e1 z.2), upn e1, (b3 (41, 34, 0) (by simp)).2.1, hv u (by omega)]; rfl
        · have ej : j = 0 := by omega
          subst ej
          rw [e6, iR_pI, if_pos ⟨rfl, rfl⟩]
      · have hbar : barF σ bt bv (dB σ) = true := bnf (fun z => w (bI_0.mpr z))
        exact T_Mo_isReachedWithout_68 hG hM _ _ _ _ _ ρ3 ⟨fun _ ad => k0 (isRW_bar hbar) ad ρ3 (Ag_tr hag (Ag_mono b3 (fun q e => Or.inl e))), fun z => absurd (by decide) z⟩
    | succ dd ih =>
      intro s ρ1 hdd hag hv
      obtain ⟨s0, s1, s2, s3, s4, s5⟩ := bq hag
      refine T_Mo_isReachedWithout_3 hG hM _ _ _ _ ρ1 ⟨fun z => absurd (by rw [s1] at z; exact (nI_leI (by omega) (by omega)).mp z) (by omega), fun _ => ⟨vp_in_nI (by omega) (by omega), ?_⟩⟩
      rw [nI_clamp (by omega), nI_1]
      intro ρ2 e2
      refine ih (s + 1) ρ2 (by omega) (Ag_tr hag (by rw [e2]; exact Ag_pI (Or.inr (Or.inr rfl)))) (fun u hu => ?_)
      rw [e2, iR_pI]
      by_cases e1 : u = s
      · rw [if_pos ⟨rfl, e1⟩]
      · rw [if_neg (fun z => e1 z.2)]; exact hv u (by omega)
  refine T_Mo_isReachedWithout_0 hG hM _ _ _ ρ ?_
  exact k3 (nS σ) 0 ρ (by omega) Ag_rf (fun u hu => absurd hu (by omega))
theorem RMo_rw {ρ ρ' : Rs} {σ : Wd} (h : RMo ρ σ) (ha : Ag PRw ρ ρ') : RMo ρ' σ := RMo_p h ha (by simp [PRw]) (fun f f1 f2 f3 => by simp [PRw]; omega)
theorem ML_rw {ρ ρ' : Rs} {σ : Wd} (h : ML ρ σ) (ha : Ag PRw ρ ρ') : ML ρ' σ := ML_of h (by rw [(ha (40, 0, 0) (by simp [PRw])).2.1]) (fun f f1 f2 => (ha (41, f, 0) (by simp [PRw]; omega)).2.1)
theorem cM_needed (hG : gok G) {σ : Wd} (h : RMo ρ σ) (hW : Wok σ) (k : ∀ ad ρ' r, RMo ρ' σ → anNd σ r → Ag PMo ρ ρ' → K ad (some (.int r)) ρ') : semV G r_Mo_needed [] (fun ad => [.ref (ad (40, 0, 0))]) ρ K := by
  have h12 := hW.2.2.2.2.1
  refine semV_intro yk_Mo_needed.2.2.2.2 (fun _ => Nat.le_of_ble_eq_true rfl) (fun M Q ad0 hM => ?_)
  refine T_Mo_needed_0 hG hM ρ ?_
  refine c_Mo_lay hG h hW (fun ad ρ1 hr hl hag => ⟨rfl, ?_⟩)
  have key : ∀ (dd a : Nat) (ρ2 : Rs) (n : Nat), a + dd = dA σ → Ag PRw ρ1 ρ2 → n < 2 ^ 12 → (∀ b, (n.testBit b = true ↔ b < a ∧ ¬ isRW σ (some b) (fun _ => false))) → Y G [] ad0 M Q 8 (fun ad => [(0, .ref (ad (40, 0, 0))), (1, .int (nI n)), (2, .int (nI a))]) (fun ad => []) ρ2 := by
    intro dd
    induction dd with
    | zero =>
      intro a ρ2 n hdd a2 hn hb
      have ea : a = dA σ := by omega
      subst ea
      have r2 := RMo_rw hr a2
      exact T_Mo_needed_8 hG hM _ _ ρ2 ⟨fun _ ad => k ad ρ2 _ r2 ⟨n, ⟨by omega, hb⟩, rfl⟩ (Ag_tr hag (Ag_mono a2 (fun _ => PRw_Mo))), fun z => absurd (by rw [r2.1.2.2.1]; exact (nI_leI (by omega) (by omega)).mpr (Nat.le_refl _)) z⟩
    | succ dd ih =>
      intro a ρ2 n hdd a2 hn hb
      have r2 := RMo_rw hr a2
      refine T_Mo_needed_8 hG hM _ _ ρ2 ⟨fun z => absurd (by rw [r2.1.2.2.1] at z; exact (nI_leI (by omega) (by omega)).mp z) (by omega), fun _ => ?_⟩
      rw [sh1 a (by omega), nI_1 a]
      refine c_isReachedWithout (ba := some a) (bt := none) (bv := 0) hG r2 (ML_rw hl a2) hW (fun b hb2 => by cases hb2; omega) (fun x hx => by cases hx) (by omega) (fun hw ad ρ3 a3 => ⟨_, rfl, fun z5 e5 => ?_⟩) (fun hw ad ρ3 a3 => ⟨_, rfl, fun z5 e5 => ?_⟩)
      · have hw : isRW σ (some a) (fun _ => false) := hw
        rw [if_neg (by decide)] at e5
        have e6 : nI n ||| z5 = nI n := by rw [e5]; exact (nI_or n 0).trans (by rw [Nat.or_zero])
        rw [e6]
        refine ih (a + 1) ρ3 n (by omega) (Ag_tr a2 a3) hn (fun b => ?_)
        rw [hb b]
        constructor
        · rintro ⟨q1, q2⟩; exact ⟨by omega, q2⟩
        · rintro ⟨q1, q2⟩
          refine ⟨?_, q2⟩
          by_cases e : b = a
          · rw [e] at q2; exact absurd hw q2
          · omega
      · have hw : ¬ isRW σ (some a) (fun _ => false) := hw
        rw [if_pos rfl] at e5
        rw [e5, nI_or]
        refine ih (a + 1) ρ3 (n ||| 2 ^ a) (by omega) (Ag_tr a2 a3) (Nat.or_lt_two_pow hn (Nat.pow_lt_pow_right (by omega) (by omega))) (fun b => ?_)
        rw [Nat.testBit_or, Bool.or_eq_true, hb b, Nat.testBit_two_pow, decide_eq_true_iff]
        constructor
        · rintro (⟨q1, q2⟩ | q)
          · exact ⟨by omega, q2⟩
          · rw [← q]; exact ⟨by omega, hw⟩
        · rintro ⟨q1, q2⟩
          by_cases e : a = b
          · exact Or.inr e
          · exact Or.inl ⟨by omega, q2⟩
  refine key (dA σ) 0 ρ1 0 (by omega) Ag_rf (by omega) (fun b => ?_)
  rw [Nat.zero_testBit]
  exact ⟨fun q => (by cases q), fun q => absurd q.1 (by omega)⟩
theorem cM_fact (hG : gok G) {σ : Wd} {v w : Int32} (h : RMo ρ σ) (hW : Wok σ) (k : ∀ ad ρ' r, RMo ρ' σ → anFc σ v w r → Ag PMo ρ ρ' → K ad (some (.int r)) ρ') : semV G r_Mo_fact [] (fun ad => [.ref (ad (40, 0, 0)), .int v, .int w]) ρ K := by
  have hT := h.1.1
  have h8 := hT.2.1
  refine semV_intro yk_Mo_fact.2.2.2.2 (fun _ => Nat.le_of_ble_eq_true rfl) (fun M Q ad0 hM => ?_)
  refine T_Mo_fact_0 hG hM _ _ ρ ?_
  refine c_Mo_isThing hG hT.1 (by omega) (fun hv ad => ⟨_, rfl, fun z => absurd z (by decide), fun _ => ?_⟩) (fun hv ad => ⟨_, rfl, fun _ ad => k ad ρ _ h (Or.inl ⟨fun z => hv z.1, rfl⟩) Ag_rf, fun z => absurd rfl z⟩)
  obtain ⟨t, ht, ev⟩ := vp_in_of hv (by omega)
  subst ev
  have hz := hT.2.2.2.1 t ht
  rw [nI_clamp (n := t) (by omega), hT.2.2.2.2 t ht]
  refine ⟨vp_in_nI (by omega) (by omega), ?_⟩
  refine c_isIn0 hG (by omega) (fun hw ad => ⟨_, rfl, fun z => absurd z (by decide), fun _ => ?_⟩) (fun hw ad => ⟨_, rfl, fun _ ad => k ad ρ _ h (Or.inl ⟨fun z => hw (by have := z.2; rw [nI_clamp (by omega)] at this; exact this), rfl⟩) Ag_rf, fun z => absurd rfl z⟩)
  obtain ⟨x, hx, ew⟩ := vp_in_of hw (by omega)
  subst ew
  refine c_Mo_lay hG h hW (fun ad ρ1 hr hl hag => ⟨rfl, ?_⟩)
  refine c_isReachedWithout (ba := none) (bt := some t) (bv := x) hG hr hl hW (fun b hb2 => by cases hb2) (fun y hy => by cases hy; exact ⟨ht, rfl⟩) (by omega) (fun hw ad ρ3 a3 => ⟨_, rfl, fun z5 e5 ad => ?_⟩) (fun hw ad ρ3 a3 => ⟨_, rfl, fun z5 e5 ad => ?_⟩)
  · rw [if_neg (by decide)] at e5
    exact k ad ρ3 _ (RMo_rw hr a3) (Or.inr ⟨t, x, ht, hx, rfl, rfl, Or.inl ⟨hw, e5⟩⟩) (Ag_tr hag (Ag_mono a3 (fun _ => PRw_Mo)))
  · rw [if_pos rfl] at e5
    exact k ad ρ3 _ (RMo_rw hr a3) (Or.inr ⟨t, x, ht, hx, rfl, rfl, Or.inr ⟨hw, e5⟩⟩) (Ag_tr hag (Ag_mono a3 (fun _ => PRw_Mo)))
theorem cM_values (hG : gok G) {σ : Wd} {v : Int32} (h : RMo ρ σ) (hW : Wok σ) (k : ∀ ad ρ' r, RMo ρ' σ → anVl σ v r → Ag PMo ρ ρ' → K ad (some (.int r)) ρ') : semV G r_Mo_values [] (fun ad => [.ref (ad (40, 0, 0)), .int v]) ρ K := by
  have hT := h.1.1
  have h8 := hT.2.1
  have hN := hW.2.2.1
  refine semV_intro yk_Mo_values.2.2.2.2 (fun _ => Nat.le_of_ble_eq_true rfl) (fun M Q ad0 hM => ?_)
  refine T_Mo_values_0 hG hM _ ρ ?_
  refine c_Mo_isThing hG hT.1 (by omega) (fun hv ad => ⟨_, rfl, fun z => absurd z (by decide), fun _ => ?_⟩) (fun hv ad => ⟨_, rfl, fun _ ad => k ad ρ _ h (Or.inl ⟨hv, rfl⟩) Ag_rf, fun z => absurd rfl z⟩)
  obtain ⟨t, ht, ev⟩ := vp_in_of hv (by omega)
  subst ev
  have hz := hT.2.2.2.1 t ht
  refine c_Mo_lay hG h hW (fun ad ρ1 hr hl hag => ⟨rfl, ?_⟩)
  obtain ⟨l1, l2, l3, ⟨d, l4, l5, l6⟩, l7⟩ := hl
  have key : ∀ (dd s : Nat) (ρ2 : Rs) (n : Nat), s + dd = nS σ → Ag PRw ρ1 ρ2 → n < 2 ^ 4 → (∀ x, (n.testBit x = true ↔ ∃ u, u < s ∧ (∃ m, d u = some m) ∧ vl σ u t = x)) → Y G [] ad0 M Q 19 (fun ad => [(0, .ref (ad (40, 0, 0))), (1, .int (nI t)), (2, .int (nI n)), (3, .int (nI s))]) (fun ad => []) ρ2 := by
    intro dd
    induction dd with
    | zero =>
      intro s ρ2 n hdd a2 hn hb
      have es : s = nS σ := by omega
      subst es
      have i2 := (a2 (40, 0, 0) (by simp [PRw])).2.1
      exact T_Mo_values_19 hG hM _ _ _ ρ2 ⟨fun _ ad => k ad ρ2 _ (RMo_rw hr a2) (Or.inr ⟨t, n, d, ht, rfl, l4, hb, rfl⟩) (Ag_tr hag (Ag_mono a2 (fun _ => PRw_Mo))), fun z => absurd (by rw [i2, l1]; exact (nI_leI (by omega) (by omega)).mpr (Nat.le_refl _)) z⟩
    | succ dd ih =>
      intro s ρ2 n hdd a2 hn hb
      have hs : s < nS σ := by omega
      have i2 := (a2 (40, 0, 0) (by simp [PRw])).2.1
      have r2 := RMo_rw hr a2
      refine T_Mo_values_19 hG hM _ _ _ ρ2 ⟨fun z => absurd (by rw [i2, l1] at z; exact (nI_leI (by omega) (by omega)).mp z) (by omega), fun _ => ⟨vp_in_nI (by omega) (by omega), ?_⟩⟩
      rw [nI_clamp (n := s) (by omega), (a2 (41, 19, 0) (by simp [PRw])).2.1, l6 s hs, nI_1 s]
      cases hd : d s with
      | none =>
        refine ⟨fun _ => ih (s + 1) ρ2 n (by omega) a2 hn (fun x => (hb x).trans ⟨fun ⟨u, u1, u2⟩ => ⟨u, by omega, u2⟩, fun ⟨u, u1, u2, u3⟩ => ⟨u, ?_, u2, u3⟩⟩), fun z => absurd rfl z⟩
        by_cases e : u = s
        · rw [e, hd] at u2
          obtain ⟨m, hm⟩ := u2
          cases hm
        · omega
      | some m =>
        have hm := l5 s m hs hd
        refine ⟨fun z => absurd z (nI_m1 (by omega)), fun _ => ?_⟩
        refine c_Mo_open hG r2.1.1 (by omega) (fun ad ρ3 o1 o2 => ⟨rfl, vp_in_nI (by omega) (by omega), ?_⟩)
        have hv := vl_ltz (s := s) hT.2.2.2.1 ht
        rw [nI_clamp (n := t) (by omega), o1 t ht, sh1 _ (by omega), nI_or]
        refine ih (s + 1) ρ3 (n ||| 2 ^ vl σ s t) (by omega) (Ag_tr a2 (Ag_mono o2 (fun q e => Or.inl e))) (Nat.or_lt_two_pow hn (Nat.pow_lt_pow_right (by omega) (by omega))) (fun x => ?_)
        rw [Nat.testBit_or, Bool.or_eq_true, hb x, Nat.testBit_two_pow, decide_eq_true_iff]
        constructor
        · rintro (⟨u, u1, u2⟩ | q)
          · exact ⟨u, by omega, u2⟩
          · exact ⟨s, by omega, ⟨m, hd⟩, q⟩
        · rintro ⟨u, u1, u2, u3⟩
          by_cases e : u = s
          · rw [e] at u3; exact Or.inr u3
          · exact Or.inl ⟨u, by omega, u2, u3⟩
  refine key (nS σ) 0 ρ1 0 (by omega) Ag_rf (by omega) (fun x => ?_)
  rw [Nat.zero_testBit]
  exact ⟨fun q => (by cases q), fun ⟨u, u1, _⟩ => absurd u1 (by omega)⟩
end B61
