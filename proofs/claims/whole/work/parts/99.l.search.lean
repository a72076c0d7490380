/-! THE REFERENCE: its rows, the search forward, the aim's states -/
theorem Wok_Es {σ : Wd} (h : Wok σ) : okEs σ := ⟨h.2.1, h.2.2.1, fun a k ha hk => (h.2.2.2.2.2.2.2.2 a k ha hk).2⟩
theorem nxX_lt {σ : Wd} {s x t : Nat} (h : Wok σ) (hx : x < 3 * dA σ) (e : nxX σ s x = some t) : t < nS σ := by
  unfold nxX at e
  split at e
  · exact nx_lt (Wok_Es h) (by omega) (by assumption) e
  · cases e
theorem Wok_stp {σ : Wd} (h : Wok σ) : ∀ s t, s < nS σ → stp σ s t → t < nS σ := fun _ _ _ ⟨_, _, ha, hk, hx⟩ => nx_lt (Wok_Es h) ha hk hx
theorem nI_m1 {n : Nat} (h : n < 2 ^ 31) : ¬ nI n = -1 := fun z => by
  have := (oI_m1 (o := some n) (fun m hm => by cases hm; exact h)).mp z
  cases this
theorem mul36 (s x : Nat) : (36 : Int32) * nI s + nI x = nI (36 * s + x) := by
  have e : (36 : Int32) * nI s = nI (36 * s) := pk_mul 36 s
  rw [e, nI_ad]
theorem mul3 (a : Nat) : (3 : Int32) * nI a = nI (3 * a) := pk_mul 3 a
def MR (ρ : Rs) (σ : Wd) : Prop := iR ρ (40, 0, 0) 13 = nI (nS σ) ∧ (∀ s x, s < nS σ → x < 3 * dA σ → iR ρ (41, 14, 0) (36 * s + x) = oI (nxX σ s x)) ∧ ∀ s, s < nS σ → iR ρ (41, 15, 0) s = bI (aimW σ s)
theorem MR_ag {P : Ro → Prop} {ρ ρ' : Rs} {σ : Wd} (h : MR ρ σ) (ha : Ag P ρ ρ') (h1 : ¬ P (40, 0, 0)) (h2 : ¬ P (41, 14, 0)) (h3 : ¬ P (41, 15, 0)) : MR ρ' σ := ⟨by rw [(ha _ h1).2.1]; exact h.1, by rw [(ha _ h2).2.1]; exact h.2.1, by rw [(ha _ h3).2.1]; exact h.2.2⟩
/-- numbers by the row g, and the queue -/
def KQ (ρ : Rs) (σ : Wd) (g : Ro) (d : Nat → Option Nat) (q : Nat → Nat) (e : Nat) : Prop := (∀ s, s < nS σ → iR ρ g s = oI (d s)) ∧ ∀ j, j < e → iR ρ (41, 23, 0) j = nI (q j)
theorem KQ_in {ρ : Rs} {σ : Wd} {g : Ro} {d : Nat → Option Nat} {q : Nat → Nat} {e t n : Nat} (hg : g ≠ (41, 23, 0)) (h : KQ ρ σ g d q e) : KQ (pI (pI ρ g t (nI (n + 1))) (41, 23, 0) e (nI t)) σ g (va_up d t (some (n + 1))) (va_up q e t) (e + 1) := by
  obtain ⟨h3, h4⟩ := h
  refine ⟨fun s hs => ?_, fun j hj => ?_⟩
  · rw [iR_pI, if_neg (fun z => hg z.1), iR_pI]
    by_cases e1 : s = t
    · subst e1
      rw [if_pos ⟨rfl, rfl⟩, ups]; rfl
    · rw [if_neg (fun z => e1 z.2), upn e1]
      exact h3 s hs
  · rw [iR_pI]
    by_cases e1 : j = e
    · subst e1
      rw [if_pos ⟨rfl, rfl⟩, ups]
    · rw [if_neg (fun z => e1 z.2), upn e1, iR_pI, if_neg (fun z => hg z.1.symm)]
      exact h4 j (by omega)
theorem KQ_ag {P : Ro → Prop} {ρ ρ' : Rs} {σ : Wd} {g : Ro} {d : Nat → Option Nat} {q : Nat → Nat} {e : Nat} (h : KQ ρ σ g d q e) (ha : Ag P ρ ρ') (h1 : ¬ P g) (h2 : ¬ P (41, 23, 0)) : KQ ρ' σ g d q e := ⟨by rw [(ha _ h1).2.1]; exact h.1, by rw [(ha _ h2).2.1]; exact h.2⟩
theorem semV_l {G : Gc} {r : Mr} {mv : List Nat} {av : (Ro → Nat) → List Value} {ρ : Rs} {K : (Ro → Nat) → Option Value → Rs → Prop} (h : (∀ q n, okR q = true → lenR q = some n → nR ρ q = n) → semV G r mv av ρ K) : semV G r mv av ρ K := fun ad hp V => h (fun _ _ hq hn => vlen V hq hn) ad hp V
section B52
variable {G : Gc} {ρ : Rs} {K : (Ro → Nat) → Option Value → Rs → Prop}
theorem c_Mo_forward (hG : gok G) {σ : Wd} (hb : iR ρ (40, 0, 0) 2 = nI (dB σ)) (hA : iR ρ (40, 0, 0) 3 = nI (dA σ)) (hR : MR ρ σ) (hW : Wok σ) (k : ∀ ad ρ' d, isDist σ d → (∀ s n, s < nS σ → d s = some n → n < nS σ) → (∀ s, s < nS σ → iR ρ' (41, 19, 0) s = oI (d s)) → Ag (fun q => q = (41, 19, 0) ∨ q = (41, 23, 0)) ρ ρ' → K ad none ρ') : semV G r_Mo_forward [] (fun ad => [.ref (ad (40, 0, 0))]) ρ K := by
  obtain ⟨m1, m2, m3⟩ := hR
  have hN := hW.2.2.1
  have hB := hW.2.2.2.1
  have h12 := hW.2.2.2.2.1
  have h3 : ∀ a, a < dA σ → dO σ a ≤ 3 := fun a ha => (hW.2.2.2.2.2.1 a ha).2
  have hnx := Wok_stp hW
  refine semV_intro yk_Mo_forward.2.2.2.2 (fun _ => Nat.le_of_ble_eq_true rfl) (fun M Q ad0 hM => ?_)
  have st : ∀ {ρ1}, Ag (fun q => q = (41, 19, 0) ∨ q = (41, 23, 0)) ρ ρ1 → iR ρ1 (40, 0, 0) 13 = nI (nS σ) ∧ iR ρ1 (40, 0, 0) 3 = nI (dA σ) ∧ iR ρ1 (40, 0, 0) 2 = nI (dB σ) ∧ iR ρ1 (41, 14, 0) = iR ρ (41, 14, 0) := fun ha => by
    rw [(ha (40, 0, 0) (by simp)).2.1]
    exact ⟨m1, hA, hb, (ha (41, 14, 0) (by simp)).2.1⟩
  have fin : ∀ (i : Nat) (ρ1 : Rs) (d : Nat → Option Nat) (q : Nat → Nat) (e : Nat), e ≤ i → i ≤ 4096 → Ag (fun q => q = (41, 19, 0) ∨ q = (41, 23, 0)) ρ ρ1 → FI σ d q i e → KQ ρ1 σ (41, 19, 0) d q e → Y G [] ad0 M Q 47 (fun ad => [(0, .ref (ad (40, 0, 0))), (1, .int (nI e)), (2, .int (nI i))]) (fun ad => []) ρ1 := by
    intro i ρ1 d q e he hi hag hI hk
    exact T_Mo_forward_47 hG hM _ _ ρ1 ⟨fun _ ad => k ad ρ1 d (FI_end hI he hB hnx) (fun s n hs hd => BQ_d hI.1 hs hd) hk.1 hag, fun z => absurd ((nI_leI (by omega) (by omega)).mpr he) z⟩
  have k47 : ∀ (dd i : Nat) (ρ1 : Rs) (d : Nat → Option Nat) (q : Nat → Nat) (e : Nat), i + dd = nS σ → Ag (fun q => q = (41, 19, 0) ∨ q = (41, 23, 0)) ρ ρ1 → FI σ d q i e → KQ ρ1 σ (41, 19, 0) d q e → Y G [] ad0 M Q 47 (fun ad => [(0, .ref (ad (40, 0, 0))), (1, .int (nI e)), (2, .int (nI i))]) (fun ad => []) ρ1 := by
    intro dd
    induction dd with
    | zero =>
      intro i ρ1 d q e hdd hag hI hk
      have he := BQ_le hI.1
      exact fin i ρ1 d q e (by omega) (by omega) hag hI hk
    | succ dd ih =>
      intro i ρ1 d q e hdd hag hI hk
      have he := BQ_le hI.1
      by_cases hie : e ≤ i
      · exact fin i ρ1 d q e hie (by omega) hag hI hk
      · have hie : i < e := by omega
        obtain ⟨hu, n, hn⟩ := hI.1.1 i hie
        have hnN := BQ_d hI.1 hu hn
        have k62 : ∀ (dx x : Nat) (ρ2 : Rs) (d2 : Nat → Option Nat) (q2 : Nat → Nat) (e2 : Nat), x + dx = 3 * dA σ → Ag (fun q => q = (41, 19, 0) ∨ q = (41, 23, 0)) ρ ρ2 → FI σ d2 q2 i e2 → i < e2 → q2 i = q i → d2 (q i) = some n → (∀ y t, y < x → nxX σ (q i) y = some t → ∃ m, d2 t = some m) → KQ ρ2 σ (41, 19, 0) d2 q2 e2 → Y G [] ad0 M Q 62 (fun ad => [(0, .ref (ad (40, 0, 0))), (1, .int (nI e2)), (2, .int (nI i)), (3, .int (nI (q i))), (4, .int (nI x))]) (fun ad => []) ρ2 := by
          intro dx
          induction dx with
          | zero =>
            intro x ρ2 d2 q2 e2 hdx hag2 hI2 hi2 hq2 hd2 hc hk2
            obtain ⟨s1, s2, s3, s4⟩ := st hag2
            refine T_Mo_forward_62 hG hM _ _ _ _ ρ2 ⟨fun _ => ?_, fun z => absurd (by rw [s2, mul3]; exact (nI_leI (by omega) (by omega)).mpr (by omega)) z⟩
            rw [nI_1]
            refine ih (i + 1) ρ2 d2 q2 e2 (by omega) hag2 (FI_nx hI2 hi2 hnx (fun t hst => ?_)) hk2
            rw [hq2] at hst
            obtain ⟨y, hy, hyt⟩ := (nxX_stp h3).mp hst
            exact hc y t (by omega) hyt
          | succ dx ih2 =>
            intro x ρ2 d2 q2 e2 hdx hag2 hI2 hi2 hq2 hd2 hc hk2
            obtain ⟨s1, s2, s3, s4⟩ := st hag2
            have hx : x < 3 * dA σ := by omega
            have he2 := BQ_le hI2.1
            refine T_Mo_forward_62 hG hM _ _ _ _ ρ2 ⟨fun z => absurd (by rw [s2, mul3] at z; exact (nI_leI (by omega) (by omega)).mp z) (by omega), fun _ => ?_⟩
            rw [mul36, nI_clamp (n := 36 * q i + x) (by omega), s4, m2 (q i) x hu hx, nI_1 x]
            refine ⟨vp_in_nI (by omega) (by omega), ?_⟩
            cases hxt : nxX σ (q i) x with
            | none =>
              refine ⟨fun _ => ih2 (x + 1) ρ2 d2 q2 e2 (by omega) hag2 hI2 hi2 hq2 hd2 (fun y t hy ht => ?_) hk2, fun z => absurd rfl z⟩
              by_cases e1 : y = x
              · subst e1; rw [hxt] at ht; cases ht
              · exact hc y t (by omega) ht
            | some t =>
              have htN := nxX_lt hW hx hxt
              show (nI t = -1 → _) ∧ (¬ nI t = -1 → vp_in (nI t) 4096 ∧ (iR ρ2 (41, 19, 0) (Int32.toNatClampNeg (nI t)) = -1 → _) ∧ (¬ iR ρ2 (41, 19, 0) (Int32.toNatClampNeg (nI t)) = -1 → _))
              rw [nI_clamp (n := t) (by omega), hk2.1 t htN]
              refine ⟨fun z => absurd z (nI_m1 (by omega)), fun _ => ⟨vp_in_nI (by omega) (by omega), ?_⟩⟩
              cases hdt : d2 t with
              | none =>
                refine ⟨fun _ => ?_, fun z => absurd rfl z⟩
                have he2' := BQ_lt hI2.1 htN hdt
                rw [nI_clamp (n := q i) (by omega), hk2.1 (q i) hu, hd2]
                show vp_in (nI (q i)) 4096 ∧ vp_in (nI t) 4096 ∧ (∀ ρ8 : Rs, ρ8 = pI ρ2 (41, 19, 0) (Int32.toNatClampNeg (nI t)) (nI n + 1) → vp_in (nI e2) 4096 ∧ ∀ ρ9 : Rs, ρ9 = pI ρ8 (41, 23, 0) (Int32.toNatClampNeg (nI e2)) (nI t) → _)
                rw [nI_clamp (n := t) (by omega), nI_clamp (n := e2) (by omega), nI_1 n, nI_1 e2]
                refine ⟨vp_in_nI (by omega) (by omega), vp_in_nI (by omega) (by omega), fun ρ8 e8 => ⟨vp_in_nI (by omega) (by omega), fun ρ9 e9 => ?_⟩⟩
                have hne : q i ≠ t := fun z => by rw [z, hdt] at hd2; cases hd2
                have e9 : ρ9 = pI (pI ρ2 (41, 19, 0) t (nI (n + 1))) (41, 23, 0) e2 (nI t) := by rw [e9, e8]
                refine ih2 (x + 1) ρ9 (va_up d2 t (some (n + 1))) (va_up q2 e2 t) (e2 + 1) (by omega) (Ag_tr hag2 (by rw [e9]; exact Ag_tr (Ag_pI (Or.inl rfl)) (Ag_pI (Or.inr rfl)))) (FI_in hI2 hi2 (by rw [hq2]; exact hd2) htN hdt (by rw [hq2]; exact (nxX_stp h3).mpr ⟨x, hx, hxt⟩)) (by omega) (by rw [upn (by omega)]; exact hq2) (by rw [upn hne]; exact hd2) (fun y t' hy ht => ?_) (by rw [e9]; exact KQ_in (by decide) hk2)
                by_cases e1 : y = x
                · subst e1; rw [hxt] at ht; cases ht; exact ⟨_, ups⟩
                · exact up_some (hc y t' (by omega) ht)
              | some m =>
                have hm := BQ_d hI2.1 htN hdt
                refine ⟨fun z => absurd z (nI_m1 (by omega)), fun _ => ih2 (x + 1) ρ2 d2 q2 e2 (by omega) hag2 hI2 hi2 hq2 hd2 (fun y t' hy ht => ?_) hk2⟩
                by_cases e1 : y = x
                · subst e1; rw [hxt] at ht; cases ht; exact ⟨_, hdt⟩
                · exact hc y t' (by omega) ht
        refine T_Mo_forward_47 hG hM _ _ ρ1 ⟨fun z => absurd ((nI_leI (by omega) (by omega)).mp z) (by omega), fun _ => ⟨vp_in_nI (by omega) (by omega), ?_⟩⟩
        rw [nI_clamp (by omega), hk.2 i hie]
        exact k62 (3 * dA σ) 0 ρ1 d q e (by omega) hag hI hie rfl hn (fun y t hy => absurd hy (by omega)) hk
  have k2 : ∀ (dd s : Nat) (ρ1 : Rs), s + dd = nS σ → Ag (fun q => q = (41, 19, 0) ∨ q = (41, 23, 0)) ρ ρ1 → (∀ u, u < s → iR ρ1 (41, 19, 0) u = -1) → Y G [] ad0 M Q 2 (fun ad => [(0, .ref (ad (40, 0, 0))), (1, .int (nI s))]) (fun ad => []) ρ1 := by
    intro dd
    induction dd with
    | zero =>
      intro s ρ1 hdd hag hv
      obtain ⟨s1, s2, s3, s4⟩ := st hag
      refine T_Mo_forward_2 hG hM _ ρ1 ⟨fun _ => ?_, fun z => absurd (by rw [s1]; exact (nI_leI (by omega) (by omega)).mpr (by omega)) z⟩
      rw [s3, nI_clamp (by omega), show Int32.toNatClampNeg 0 = 0 from rfl]
      refine ⟨vp_in_nI (by omega) (by omega), fun ρ2 e2 => ⟨vp_in_nI (n := 0) (by omega) (by omega), fun ρ3 e3 => ?_⟩⟩
      have a2 : Ag (fun q => q = (41, 19, 0) ∨ q = (41, 23, 0)) ρ ρ2 := Ag_tr hag (by rw [e2]; exact Ag_pI (Or.inl rfl))
      rw [(st a2).2.2.1] at e3
      refine k47 (nS σ) 0 ρ3 (va_up (fun _ => none) (dB σ) (some 0)) (fun _ => dB σ) 1 (by omega) (Ag_tr a2 (by rw [e3]; exact Ag_pI (Or.inr rfl))) (FI_0 hB rfl) ⟨fun u hu => ?_, fun j hj => ?_⟩
      · rw [e3, iR_pI, if_neg (by simp), e2, iR_pI]
        by_cases e1 : u = dB σ
        · subst e1; rw [if_pos ⟨rfl, rfl⟩, ups]; rfl
        · rw [if_neg (fun z => e1 z.2), upn e1]; exact hv u (by omega)
      · have ej : j = 0 := by omega
        subst ej
        rw [e3, iR_pI, if_pos ⟨rfl, rfl⟩]
    | succ dd ih =>
      intro s ρ1 hdd hag hv
      obtain ⟨s1, s2, s3, s4⟩ := st hag
      refine T_Mo_forward_2 hG hM _ ρ1 ⟨fun z => absurd (by rw [s1] at z; exact (nI_leI (by omega) (by omega)).mp z) (by omega), fun _ => ⟨vp_in_nI (by omega) (by omega), ?_⟩⟩
      rw [nI_clamp (by omega), nI_1]
      intro ρ2 e2
      refine ih (s + 1) ρ2 (by omega) (Ag_tr hag (by rw [e2]; exact Ag_pI (Or.inl rfl))) (fun u hu => ?_)
      rw [e2, iR_pI]
      by_cases e1 : u = s
      · subst e1; rw [if_pos ⟨rfl, rfl⟩]
      · rw [if_neg (fun z => e1 z.2)]; exact hv u (by omega)
  refine T_Mo_forward_0 hG hM ρ ?_
  exact k2 (nS σ) 0 ρ (by omega) Ag_rf (fun u hu => absurd hu (by omega))
theorem c_Mo_aims (hG : gok G) {σ : Wd} {f : Nat} (hf : f = 20 ∨ f = 21 ∨ f = 22) (hR : MR ρ σ) (hN : nS σ ≤ 4096) (k : ∀ ad ρ' q e, (∀ C, KI σ C (d0 σ) q 0 e) → KQ ρ' σ (41, f, 0) (d0 σ) q e → Ag (fun r => r = (41, f, 0) ∨ r = (41, 23, 0)) ρ ρ' → K ad (some (.int (nI e))) ρ') : semV G r_Mo_aims [] (fun ad => [.ref (ad (40, 0, 0)), .ref (ad (41, f, 0))]) ρ K := by
  obtain ⟨m1, m2, m3⟩ := hR
  have og : okR (41, f, 0) = true := by rcases hf with e | e | e <;> subst e <;> rfl
  have tg : tgR (41, f, 0) = 50 := by rcases hf with e | e | e <;> subst e <;> rfl
  have lg : lenR (41, f, 0) = some 4096 := by rcases hf with e | e | e <;> subst e <;> rfl
  have n23 : ((41, f, 0) : Ro) ≠ (41, 23, 0) := by simp; omega
  have n15 : ((41, 15, 0) : Ro) ≠ (41, f, 0) := by simp; omega
  refine semV_l (fun hl => ?_)
  have hlen : nR ρ (41, f, 0) = 4096 := hl _ _ og lg
  refine semV_intro yk_Mo_aims.2.2.2.2 (fun _ => Nat.le_of_ble_eq_true rfl) (fun M Q ad0 hM => ?_)
  have key : ∀ (dd s : Nat) (ρ1 : Rs) (q : Nat → Nat) (e : Nat), s + dd = nS σ → Ag (fun r => r = (41, f, 0) ∨ r = (41, 23, 0)) ρ ρ1 → nR ρ1 (41, f, 0) = 4096 → (∀ u, u < s → iR ρ1 (41, f, 0) u = oI (d0 σ u)) → (∀ j, j < e → iR ρ1 (41, 23, 0) j = nI (q j)) → (∀ j, j < e → q j < s ∧ aimP σ (q j)) → (∀ u, u < s → aimP σ u → ∃ j, j < e ∧ q j = u) → (∀ j l, j < l → l < e → q j < q l) → e = cnt (aimW σ) s → Y G [] ad0 M Q 4 (fun ad => [(0, .ref (ad (40, 0, 0))), (1, .ref (ad (41, f, 0))), (2, .int (nI e)), (3, .int (nI s))]) (fun ad => []) ρ1 := by
    intro dd
    induction dd with
    | zero =>
      intro s ρ1 q e hdd hag hn r1 r2 h1 h2 h3 he
      have es : s = nS σ := by omega
      subst es
      refine T_Mo_aims_4 hG hM _ og tg _ _ ρ1 ⟨fun _ ad => k ad ρ1 q e (fun C => KI_0 (fun j hj => (h1 j hj).2) (fun u hu => h2 u hu.1 hu) h3 he) ⟨r1, r2⟩ hag, fun z => absurd (by rw [(hag (40, 0, 0) (by simp)).2.1, m1]; exact (nI_leI (by omega) (by omega)).mpr (Nat.le_refl _)) z⟩
    | succ dd ih =>
      intro s ρ1 q e hdd hag hn r1 r2 h1 h2 h3 he
      have hs : s < nS σ := by omega
      have hce := cnt_le (aimW σ) s
      have r15 : ∀ ρ2, Ag (fun r => r = (41, f, 0) ∨ r = (41, 23, 0)) ρ ρ2 → iR ρ2 (41, 15, 0) s = bI (aimW σ s) := fun ρ2 h => by rw [(h (41, 15, 0) (by rintro (z | z); exact n15 z; exact absurd z (by decide))).2.1]; exact m3 s hs
      refine T_Mo_aims_4 hG hM _ og tg _ _ ρ1 ⟨fun z => absurd (by rw [(hag (40, 0, 0) (by simp)).2.1, m1] at z; exact (nI_leI (by omega) (by omega)).mp z) (by omega), fun _ => ⟨vp_in_nI (by omega) (by omega), ?_⟩⟩
      rw [nI_clamp (n := s) (by omega), r15 ρ1 hag, nI_1 s]
      intro z3 ez3
      refine ⟨in_nI (by omega) (by omega), fun ρ4 e4 => ⟨vp_in_nI (by omega) (by omega), ?_⟩⟩
      have a4 : Ag (fun r => r = (41, f, 0) ∨ r = (41, 23, 0)) ρ ρ4 := Ag_tr hag (by rw [e4]; exact Ag_pI (Or.inl rfl))
      have n4 : nR ρ4 (41, f, 0) = 4096 := by rw [e4, nR_pI]; exact hn
      have ez : z3 = oI (d0 σ s) := by
        rw [ez3]
        unfold d0
        cases ha : aimW σ s with
        | true => rw [if_neg (by decide), if_pos ⟨hs, rfl⟩]; rfl
        | false => rw [if_pos (by rfl), if_neg (fun z => by cases z.2)]; rfl
      have rows : ∀ u, u < s + 1 → iR ρ4 (41, f, 0) u = oI (d0 σ u) := fun u hu => by
        rw [e4, iR_pI]
        by_cases e1 : u = s
        · subst e1; rw [if_pos ⟨rfl, rfl⟩]; exact ez
        · rw [if_neg (fun z => e1 z.2)]; exact r1 u (by omega)
      have q4 : ∀ j, j < e → iR ρ4 (41, 23, 0) j = nI (q j) := fun j hj => by rw [e4, iR_pI, if_neg (fun z => n23 z.1.symm)]; exact r2 j hj
      rw [r15 ρ4 a4, bI_0]
      refine ⟨fun z => ?_, fun z => ?_⟩
      · refine ih (s + 1) ρ4 q e (by omega) a4 n4 rows q4 (fun j hj => ⟨by have := (h1 j hj).1; omega, (h1 j hj).2⟩) (fun u hu ha => ?_) h3 (by show e = cnt (aimW σ) s + _; rw [z]; simp; exact he)
        by_cases e1 : u = s
        · subst e1; exact absurd ha.2 (by rw [z]; simp)
        · exact h2 u (by omega) ha
      · have z : aimW σ s = true := by simpa using z
        rw [nI_clamp (n := e) (by omega), nI_1 e]
        refine ⟨vp_in_nI (by omega) (by omega), fun ρ6 e6 => ?_⟩
        refine ih (s + 1) ρ6 (va_up q e s) (e + 1) (by omega) (Ag_tr a4 (by rw [e6]; exact Ag_pI (Or.inr rfl))) (by rw [e6, nR_pI]; exact n4) (fun u hu => by rw [e6, iR_pI, if_neg (fun z => n23 z.1)]; exact rows u hu) (fun j hj => ?_) (fun j hj => ?_) (fun u hu ha => ?_) (fun j l hj hl => ?_) (by show e + 1 = cnt (aimW σ) s + _; rw [z]; simp; exact he)
        · rw [e6, iR_pI]
          by_cases e1 : j = e
          · subst e1; rw [if_pos ⟨rfl, rfl⟩, ups]
          · rw [if_neg (fun z => e1 z.2), upn e1]; exact q4 j (by omega)
        · by_cases e1 : j = e
          · subst e1; rw [ups]; exact ⟨by omega, hs, z⟩
          · rw [upn e1]; exact ⟨by have := (h1 j (by omega)).1; omega, (h1 j (by omega)).2⟩
        · by_cases e1 : u = s
          · subst e1; exact ⟨e, by omega, ups⟩
          · obtain ⟨j, hj, ej⟩ := h2 u (by omega) ha
            exact ⟨j, by omega, by rw [upn (by omega)]; exact ej⟩
        · by_cases e1 : l = e
          · subst e1; rw [ups, upn (by omega)]; exact (h1 j hj).1
          · rw [upn e1, upn (by omega)]; exact h3 j l hj (by omega)
  refine T_Mo_aims_0 hG hM _ og tg ρ ?_
  exact key (nS σ) 0 ρ (fun _ => 0) 0 (by omega) Ag_rf hlen (fun u hu => absurd hu (by omega)) (fun u hu => absurd hu (by omega)) (fun u hu => absurd hu (by omega)) (fun u hu => absurd hu (by omega)) (fun j l hj hl => absurd hl (by omega)) rfl
end B52
