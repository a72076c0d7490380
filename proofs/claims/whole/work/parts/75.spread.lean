/-! REACH: the class's search forward -/
def RR (ρ : Rs) (σ : Wd) (d : Nat → Option Nat) (q : Nat → Nat) (e : Nat) (w : Nat → Nat) : Prop :=
  nS σ ≤ nR ρ (32, 0, 0) ∧ nS σ ≤ nR ρ (32, 1, 0) ∧ nS σ ≤ nR ρ (32, 2, 0) ∧ (∀ s, s < nS σ → iR ρ (32, 0, 0) s = oI (d s)) ∧ (∀ j, j < e → iR ρ (32, 2, 0) j = nI (q j)) ∧ iR ρ (5, 0, 0) 3 = nI e ∧ ∀ s n, s < nS σ → d s = some n → lR ρ (32, 1, 0) s = Int64.ofNat (w s)
def FS (ρ : Rs) (σ : Wd) (d : Nat → Option Nat) (q : Nat → Nat) (i e : Nat) (dn : Nat → Bool) (w : Nat → Nat) (a k : Nat) : Prop :=
  FI σ d q i e ∧ i < e ∧ FW σ d q i dn w (fun t => pt σ (q i) t a k) ∧ (∀ t, 0 < pt σ (q i) t a k → ∃ m, d t = some m) ∧ RR ρ σ d q e w
theorem FS_in {ρ : Rs} {σ : Wd} {d : Nat → Option Nat} {q : Nat → Nat} {i e : Nat} {dn : Nat → Bool} {w : Nat → Nat} {a k t n : Nat} (h : FS ρ σ d q i e dn w a k) (hn : d (q i) = some n) (hx : nxW σ (q i) a k = some t) (ha : a < dA σ) (hk : k < dO σ a) (ht : t < nS σ) (hd : d t = none) : e < nS σ ∧ FS (pI (pI (pL (pI ρ (32, 0, 0) t (nI (n + 1))) (32, 1, 0) t 0) (32, 2, 0) e (nI t)) (5, 0, 0) 3 (nI (e + 1))) σ (va_up d t (some (n + 1))) (va_up q e t) i (e + 1) dn (va_up w t 0) a k := by
  obtain ⟨hI, hi, hW, hc, r1, r2, r3, r4, r5, r6, r7⟩ := h
  have qi : va_up q e t i = q i := upn (by omega)
  have hc0 : pt σ (q i) t a k = 0 := by
    rcases Nat.eq_zero_or_pos (pt σ (q i) t a k) with z | z
    · exact z
    · obtain ⟨m, hm⟩ := hc t z
      rw [hd] at hm; cases hm
  refine ⟨BQ_lt hI.1 ht hd, FI_in hI hi hn ht hd ⟨a, k, ha, hk, hx⟩, by omega, ?_, ?_, r1, r2, r3, ?_, ?_, ?_, ?_⟩
  · rw [qi]
    exact FW_in hI hW hi hn ht hd hc0
  · intro y hy
    rw [qi] at hy
    exact up_some (hc y hy)
  · intro s hs
    rw [iR_pI, if_neg (by simp), iR_pI, if_neg (by simp), iR_pL, iR_pI]
    by_cases e1 : s = t
    · subst e1
      rw [if_pos ⟨rfl, rfl⟩, ups]; rfl
    · rw [if_neg (fun z => e1 z.2), upn e1]
      exact r4 s hs
  · intro j hj
    rw [iR_pI, if_neg (by simp), iR_pI]
    by_cases e1 : j = e
    · subst e1
      rw [if_pos ⟨rfl, rfl⟩, ups]
    · rw [if_neg (fun z => e1 z.2), upn e1, iR_pL, iR_pI, if_neg (by simp)]
      exact r5 j (by omega)
  · rw [iR_pI, if_pos ⟨rfl, rfl⟩]
  · intro s m hs hm
    rw [lR_pI, lR_pI, lR_pL]
    by_cases e1 : s = t
    · subst e1
      rw [if_pos ⟨rfl, rfl⟩, ups]; rfl
    · rw [if_neg (fun z => e1 z.2), upn e1, lR_pI]
      rw [upn e1] at hm
      exact r7 s m hs hm
theorem ed1_up {σ : Wd} {u a k t y : Nat} (hx : nxW σ u a k = some t) (hy : y ≠ t) : pt σ u y a (k + 1) = pt σ u y a k := by
  rw [pt_k]
  unfold ed1
  rw [hx, if_neg (fun z => by cases z; exact hy rfl)]; omega
theorem ed1_at {σ : Wd} {u a k t : Nat} (hx : nxW σ u a k = some t) : pt σ u t a (k + 1) = pt σ u t a k + 1 := by
  rw [pt_k]
  unfold ed1
  rw [hx, if_pos rfl]
theorem FS_up {ρ : Rs} {σ : Wd} {d : Nat → Option Nat} {q : Nat → Nat} {i e : Nat} {dn : Nat → Bool} {w : Nat → Nat} {a k t n : Nat} (h : FS ρ σ d q i e dn w a k) (hn : d (q i) = some n) (hx : nxW σ (q i) a k = some t) (ht : t < nS σ) (hd : d t = some (n + 1)) : FS (pL ρ (32, 1, 0) t (lR ρ (32, 1, 0) t + lR ρ (32, 1, 0) (q i))) σ d q i e dn (va_up w t (w t + w (q i))) a (k + 1) := by
  obtain ⟨hI, hi, hW, hc, r1, r2, r3, r4, r5, r6, r7⟩ := h
  have hq := (hI.1.1 i hi).1
  refine ⟨hI, hi, FW_up hI hW hi hn ht hd (ed1_at hx) (fun y hy => ed1_up hx hy), ?_, r1, r2, r3, r4, r5, r6, ?_⟩
  · intro y hy
    by_cases e1 : y = t
    · subst e1; exact ⟨_, hd⟩
    · rw [ed1_up hx e1] at hy
      exact hc y hy
  · intro s m hs hm
    rw [lR_pL]
    by_cases e1 : s = t
    · subst e1
      rw [if_pos ⟨rfl, rfl⟩, ups, r7 s _ ht hd, r7 _ _ hq hn]
      exact (Int64.ofNat_add _ _).symm
    · rw [if_neg (fun z => e1 z.2), upn e1]
      exact r7 s m hs hm
theorem FS_no {ρ : Rs} {σ : Wd} {d : Nat → Option Nat} {q : Nat → Nat} {i e : Nat} {dn : Nat → Bool} {w : Nat → Nat} {a k t n m : Nat} (h : FS ρ σ d q i e dn w a k) (hn : d (q i) = some n) (hx : nxW σ (q i) a k = some t) (hd : d t = some m) (hm : m ≠ n + 1) : FS ρ σ d q i e dn w a (k + 1) := by
  obtain ⟨hI, hi, hW, hc, hr⟩ := h
  refine ⟨hI, hi, FW_no hW hn (fun y _ hy => ?_), ?_, hr⟩
  · refine ed1_up hx (fun z => ?_)
    rw [z, hd] at hy
    cases hy
    exact hm rfl
  · intro y hy
    by_cases e1 : y = t
    · subst e1; exact ⟨_, hd⟩
    · rw [ed1_up hx e1] at hy
      exact hc y hy
def PR (q : Ro) : Prop := q.1 = 5 ∨ q.1 = 32
theorem PR_nW {q : Ro} (h : PR q) : nW q := by
  unfold nW wrB
  rcases h with h | h <;> rw [h] <;> rfl
section B21
variable {G : Gc} {ρ : Rs} {K : (Ro → Nat) → Option Value → Rs → Prop}
theorem c_follow (hG : gok G) {σ : Wd} {d : Nat → Option Nat} {q : Nat → Nat} {i e : Nat} {dn : Nat → Bool} {w : Nat → Nat} {a n : Nat} (hR : RWr ρ σ) (ha : a < dA σ) (hc : canW σ (q i) a) (h : FS ρ σ d q i e dn w a 0) (hn : d (q i) = some n) (k : ∀ ad ρ' d' q' e' w', q' i = q i → d' (q i) = some n → FS ρ' σ d' q' i e' dn w' (a + 1) 0 → Ag PR ρ ρ' → K ad none ρ') : semV G r_Re_follow [] (fun ad => [.ref (ad (5, 0, 0)), .ref (ad (20, a, 0)), .int (nI (q i))]) ρ K := by
  have h12 := hR.2.1
  have h4 := hR.1.2.2.2.1
  refine semV_intro yk_Re_follow.2.2.2.2 (fun _ => Nat.le_of_ble_eq_true rfl) (fun M Q ad0 hM => ?_)
  refine T_Re_follow_0 hG hM a (by omega) _ ρ ?_
  have hu := (h.1.1.1 i h.2.1).1
  have key : ∀ dd kk ρ1 d1 q1 e1 w1, kk + dd = dO σ a → FS ρ1 σ d1 q1 i e1 dn w1 a kk → q1 i = q i → d1 (q i) = some n → Ag PR ρ ρ1 → Y G [] ad0 M Q 2 (fun ad => [(0, .ref (ad (5, 0, 0))), (1, .ref (ad (20, a, 0))), (2, .int (nI (q i))), (3, .int (nI kk))]) (fun ad => []) ρ1 := by
    intro dd
    induction dd with
    | zero =>
      intro kk ρ1 d1 q1 e1 w1 hd hf hq1 hd1 hag
      have hR1 : RWr ρ1 σ := RWr_ag hR (Ag_mono hag (fun _ => PR_nW))
      have hO := hR1.2.2.2.1 a ha
      have hOx := hO.2.1
      have hOy := hO.2.2.1
      have ek : kk = dO σ a := by omega
      subst ek
      exact T_Re_follow_2 hG hM a (by omega) _ _ ρ1 ⟨fun _ ad => k ad ρ1 d1 q1 e1 w1 hq1 hd1 hf hag, fun z => absurd (by rw [hO.1]; exact (nI_leI (by omega) (by omega)).mpr (Nat.le_refl _)) z⟩
    | succ dd ih =>
      intro kk ρ1 d1 q1 e1 w1 hd hf hq1 hd1 hag
      have hR1 : RWr ρ1 σ := RWr_ag hR (Ag_mono hag (fun _ => PR_nW))
      have hO := hR1.2.2.2.1 a ha
      have hOx := hO.2.1
      have hOy := hO.2.2.1
      have hk : kk < dO σ a := by omega
      have hkk : kk < 3 := by omega
      obtain ⟨t, ht⟩ : ∃ t, nxW σ (q i) a kk = some t := ⟨_, nx_some hc⟩
      have htN := nx_lt (RWr_Es hR1) ha hk ht
      obtain ⟨rn, rv⟩ := RWr_to hR1 ha hk hu
      rw [ht] at rv
      have rv : iR ρ1 (23, a, kk) (q i) = nI t := rv
      -- the second half, whether t is new or not
      have k78 : ∀ ρ2 d2 q2 e2 w2 m, FS ρ2 σ d2 q2 i e2 dn w2 a kk → q2 i = q i → d2 (q i) = some n → d2 t = some m → Ag PR ρ ρ2 → Y G [] ad0 M Q 78 (fun ad => [(0, .ref (ad (5, 0, 0))), (1, .ref (ad (20, a, 0))), (2, .int (nI (q i))), (3, .int (nI kk)), (4, .int (nI t))]) (fun ad => []) ρ2 := by
        intro ρ2 d2 q2 e2 w2 m gf gq gd gm gag
        obtain ⟨gI, gi, gW, gc, r1, r2, r3, r4, r5, r6, r7⟩ := gf
        have gf : FS ρ2 σ d2 q2 i e2 dn w2 a kk := ⟨gI, gi, gW, gc, r1, r2, r3, r4, r5, r6, r7⟩
        have b1 := BQ_d gI.1 htN gm
        have b2 := BQ_d gI.1 hu gd
        refine T_Re_follow_78 hG hM a (by omega) _ _ _ ρ2 ⟨in_nI (by omega) (by omega), in_nI (by omega) (by omega), ?_⟩
        rw [nI_clamp (by omega), nI_clamp (by omega), r4 t htN, r4 _ hu, gm, gd, nI_1]
        show (nI m = nI n + 1 → _) ∧ (¬ nI m = nI n + 1 → _)
        rw [nI_1]
        refine ⟨fun z => ⟨in_nI (by omega) (by omega), in_nI (by omega) (by omega), in_nI (by omega) (by omega), fun ρ7 e7 => ?_⟩, fun z => ?_⟩
        · have z : m = n + 1 := (nI_eq (by omega) (by omega)).mp z
          subst z
          subst e7
          refine ih (kk + 1) _ d2 q2 e2 (va_up w2 t (w2 t + w2 (q i))) (by omega) ?_ gq gd (Ag_tr gag (Ag_pL (Or.inr rfl)))
          have := FS_up gf (by rw [gq]; exact gd) (by rw [gq]; exact ht) htN gm
          rw [gq] at this
          exact this
        · have z : m ≠ n + 1 := fun y => z (by rw [y])
          exact ih (kk + 1) ρ2 d2 q2 e2 w2 (by omega) (FS_no gf (by rw [gq]; exact gd) (by rw [gq]; exact ht) gm z) gq gd gag
      have hf0 := hf
      obtain ⟨gI, gi, gW, gc, r1, r2, r3, r4, r5, r6, r7⟩ := hf
      refine T_Re_follow_2 hG hM a (by omega) _ _ ρ1 ⟨fun z => absurd (by rw [hO.1] at z; exact (nI_leI (by omega) (by omega)).mp z) (by omega), fun _ => ⟨vp_in_nI (by omega) (by omega), ?_⟩⟩
      rw [nI_clamp (by omega), nI_clamp (by omega), rv, nI_clamp (by omega), r4 t htN, r4 _ hu, hd1]
      refine ⟨in_nI (by omega) (by omega), in_nI (by omega) (by omega), ?_⟩
      have hb2 := BQ_d gI.1 hu hd1
      have hm1 := oI_m1 (o := d1 t) (fun m hm => by have := BQ_d gI.1 htN hm; omega)
      refine ⟨fun z => ?_, fun z => ?_⟩
      · have z := hm1.mp z
        obtain ⟨g1, g2⟩ := FS_in hf0 (by rw [hq1]; exact hd1) (by rw [hq1]; exact ht) ha hk htN z
        refine ⟨in_nI (by omega) (by omega), in_nI (by omega) (by omega), fun ρ11 e11 => ⟨in_nI (by rw [e11, nR_pI]; omega) (by omega), fun ρ12 e12 => ?_⟩⟩
        have x5 : iR ρ12 (5, 0, 0) 3 = nI e1 := by rw [e12, iR_pL, e11, iR_pI, if_neg (by simp)]; exact r6
        rw [x5, nI_clamp (by omega)]
        refine ⟨in_nI (by rw [e12, nR_pL, e11, nR_pI]; omega) (by omega), fun ρ13 e13 ρ14 e14 => ?_⟩
        have x6 : iR ρ13 (5, 0, 0) 3 = nI e1 := by rw [e13, iR_pI, if_neg (by simp)]; exact x5
        rw [x6, nI_1] at e14
        have e11 : ρ11 = pI ρ1 (32, 0, 0) t (nI (n + 1)) := by rw [e11]; show pI ρ1 _ t (nI n + 1) = _; rw [nI_1]
        have e14 : ρ14 = pI (pI (pL (pI ρ1 (32, 0, 0) t (nI (n + 1))) (32, 1, 0) t 0) (32, 2, 0) e1 (nI t)) (5, 0, 0) 3 (nI (e1 + 1)) := by rw [e14, e13, e12, e11]
        refine k78 ρ14 (va_up d1 t (some (n + 1))) (va_up q1 e1 t) (e1 + 1) (va_up w1 t 0) (n + 1) (by rw [e14]; exact g2) (by rw [upn (by omega)]; exact hq1) (by rw [upn (fun y => by rw [y, z] at hd1; cases hd1)]; exact hd1) ups ?_
        rw [e14]
        exact Ag_tr hag (Ag_tr (Ag_pI (Or.inr rfl)) (Ag_tr (Ag_pL (Or.inr rfl)) (Ag_tr (Ag_pI (Or.inr rfl)) (Ag_pI (Or.inl rfl)))))
      · cases hx : d1 t with
        | none => exact absurd (hm1.mpr hx) z
        | some m => exact k78 ρ1 d1 q1 e1 w1 m hf0 hq1 hd1 hx hag
  exact key (dO σ a) 0 ρ d q e w (by omega) h rfl hn Ag_rf
end B21
