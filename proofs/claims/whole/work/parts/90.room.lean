/-! KINDS: room for the rows; the two classes at the beginning -/
theorem nR_uN {ρ : Rs} {r q : Ro} {n : Nat} : nR (uN ρ r n) q = if q = r then n else nR ρ q := by
  show upR (nR ρ) r n q = _
  by_cases e : q = r
  · rw [e, uR_s, if_pos rfl]
  · rw [uR_n e, if_neg e]
/-- all rows of one length -/
def KRm (n : Ro → Nat) : Prop := ∃ r, (r = 0 ∨ r = 8 ∨ r = 64 ∨ r = 512 ∨ r = 4096) ∧ (∀ f, (2 ≤ f ∧ f ≤ 10) ∨ (12 ≤ f ∧ f ≤ 15) → n (34, f, 0) = r) ∧ n (34, 16, 0) = 2 * r ∧ n (34, 17, 0) = 2 * r
theorem KRm_L {n : Ro → Nat} {N : Nat} (h : KRm n) (hN : N ≤ n (34, 2, 0)) (h1 : 1 ≤ N) : KLn n N := by
  obtain ⟨r, h2, h3, h4, h5⟩ := h
  have := h3 2 (by omega)
  exact ⟨fun f hf => by rw [h3 f hf]; omega, r, by omega, by omega, h4, h5⟩
def mrS (ρ ρk : Rs) (R f0 : Nat) : Prop := (∀ f, f0 ≤ f → nR ρk (34, f, 0) = nR ρ (34, f, 0)) ∧ (∀ f, f < f0 → 2 ≤ f → f ≠ 11 → nR ρk (34, f, 0) = R) ∧ Ag (fun q => q.1 = 34) ρ ρk
theorem mr_st {ρ ρk ρ' : Rs} {R f0 f1 : Nat} (h : mrS ρ ρk R f0) (e : ρ' = uN ρk (34, f0, 0) R) (hf : f1 = f0 + 1 ∨ (f0 = 10 ∧ f1 = 12)) : mrS ρ ρ' R f1 := by
  obtain ⟨h1, h2, h3⟩ := h
  refine ⟨fun f hf1 => ?_, fun f hf1 h4 h5 => ?_, Ag_tr h3 (by rw [e]; exact Ag_uN rfl)⟩
  · rw [e, nR_uN, if_neg (by simp; omega)]; exact h1 f (by omega)
  · rw [e, nR_uN]
    by_cases ef : f = f0
    · rw [if_pos (by rw [ef])]
    · rw [if_neg (by simp; exact ef)]; exact h2 f (by omega) h4 h5
theorem roomN_v (m : Nat) : roomN m = 8 ∨ roomN m = 64 ∨ roomN m = 512 ∨ roomN m = 4096 := by
  unfold roomN
  split
  · omega
  · split
    · omega
    · split <;> omega
section B36
variable {G : Gc} {ρ : Rs} {K : (Ro → Nat) → Option Value → Rs → Prop}
theorem c_makeRoom (hG : gok G) {N : Nat} (hN : N ≤ 4096) (h1 : 1 ≤ N) (hr : KRm (nR ρ)) (k : ∀ ad ρ', KRm (nR ρ') → KLn (nR ρ') N → Ag (fun q => q.1 = 34) ρ ρ' → K ad none ρ') : semV G r_Ki_makeRoom [34] (fun ad => [.ref (ad (7, 0, 0)), .int (nI N)]) ρ K := by
  have hr0 := hr
  obtain ⟨r, r1, r2, r3, r4⟩ := hr
  have r20 := r2 2 (by omega)
  refine semV_intro yk_Ki_makeRoom.2.2.2.2 (fun _ => Nat.le_of_ble_eq_true rfl) (fun M Q ad0 hM => ?_)
  refine T_Ki_makeRoom_0 hG hM _ ρ ?_
  rw [r20, nI_ltI (by omega) (by omega)]
  refine ⟨fun z => ?_, fun z ad => k ad ρ hr0 (KRm_L hr0 (by omega) h1) Ag_rf⟩
  have hg := roomN_ge hN
  have hle := roomN_le N
  have hrm := roomN_rmg z hN
  have hv := roomN_v N
  have hr2 : rmg (2 * roomN N) + 1 ≤ rmg (2 * r) := by
    rcases r1 with e | e | e | e | e <;> rcases hv with v | v | v | v <;> rw [e, v] <;> first | decide | (exfalso; omega)
  refine c_roomV hG hN (fun ad => ⟨_, rfl, ?_⟩)
  have s2 : mrS ρ ρ (roomN N) 2 := ⟨fun _ _ => rfl, fun f h2 h3 => absurd h2 (by omega), Ag_rf⟩
  refine ⟨roomN N, rfl, by omega, by rw [s2.1 2 (by omega), r2 2 (by omega)]; exact hrm, fun ρ5 e5 => ?_⟩
  have s3 := mr_st (f1 := 3) s2 e5 (by omega)
  refine ⟨roomN N, rfl, by omega, by rw [s3.1 3 (by omega), r2 3 (by omega)]; exact hrm, fun ρ6 e6 => ?_⟩
  have s4 := mr_st (f1 := 4) s3 e6 (by omega)
  refine ⟨roomN N, rfl, by omega, by rw [s4.1 4 (by omega), r2 4 (by omega)]; exact hrm, fun ρ7 e7 => ?_⟩
  have s5 := mr_st (f1 := 5) s4 e7 (by omega)
  refine ⟨roomN N, rfl, by omega, by rw [s5.1 5 (by omega), r2 5 (by omega)]; exact hrm, fun ρ8 e8 => ?_⟩
  have s6 := mr_st (f1 := 6) s5 e8 (by omega)
  refine ⟨roomN N, rfl, by omega, by rw [s6.1 6 (by omega), r2 6 (by omega)]; exact hrm, fun ρ9 e9 => ?_⟩
  have s7 := mr_st (f1 := 7) s6 e9 (by omega)
  refine ⟨roomN N, rfl, by omega, by rw [s7.1 7 (by omega), r2 7 (by omega)]; exact hrm, fun ρ10 e10 => ?_⟩
  have s8 := mr_st (f1 := 8) s7 e10 (by omega)
  refine ⟨roomN N, rfl, by omega, by rw [s8.1 8 (by omega), r2 8 (by omega)]; exact hrm, fun ρ11 e11 => ?_⟩
  have s9 := mr_st (f1 := 9) s8 e11 (by omega)
  refine ⟨roomN N, rfl, by omega, by rw [s9.1 9 (by omega), r2 9 (by omega)]; exact hrm, fun ρ12 e12 => ?_⟩
  have s10 := mr_st (f1 := 10) s9 e12 (by omega)
  refine ⟨roomN N, rfl, by omega, by rw [s10.1 10 (by omega), r2 10 (by omega)]; exact hrm, fun ρ13 e13 => ?_⟩
  have s12 := mr_st (f1 := 12) s10 e13 (by omega)
  refine ⟨roomN N, rfl, by omega, by rw [s12.1 12 (by omega), r2 12 (by omega)]; exact hrm, fun ρ14 e14 => ?_⟩
  have s13 := mr_st (f1 := 13) s12 e14 (by omega)
  refine ⟨roomN N, rfl, by omega, by rw [s13.1 13 (by omega), r2 13 (by omega)]; exact hrm, fun ρ15 e15 => ?_⟩
  have s14 := mr_st (f1 := 14) s13 e15 (by omega)
  refine ⟨roomN N, rfl, by omega, by rw [s14.1 14 (by omega), r2 14 (by omega)]; exact hrm, fun ρ16 e16 => ?_⟩
  have s15 := mr_st (f1 := 15) s14 e16 (by omega)
  refine ⟨roomN N, rfl, by omega, by rw [s15.1 15 (by omega), r2 15 (by omega)]; exact hrm, fun ρ17 e17 => ?_⟩
  have s16 := mr_st (f1 := 16) s15 e17 (by omega)
  have e2r : (2 : Int32) * nI (roomN N) = nI (2 * roomN N) := pk_mul 2 (roomN N)
  rw [e2r]
  refine ⟨2 * roomN N, rfl, by omega, by rw [s16.1 16 (by omega), r3]; exact hr2, fun ρ18 e18 => ⟨2 * roomN N, rfl, by omega, by rw [e18, nR_uN, if_neg (by simp), s16.1 17 (by omega), r4]; exact hr2, fun ρ19 e19 ad => ?_⟩⟩
  have hK : KRm (nR ρ19) := by
    refine ⟨roomN N, by omega, fun f hf => ?_, ?_, ?_⟩
    · rw [e19, nR_uN, if_neg (by simp; omega), e18, nR_uN, if_neg (by simp; omega)]
      exact s16.2.1 f (by omega) (by omega) (by omega)
    · rw [e19, nR_uN, if_neg (by simp), e18, nR_uN, if_pos rfl]
    · rw [e19, nR_uN, if_pos rfl]
  refine k ad ρ19 hK (KRm_L hK ?_ h1) (Ag_tr s16.2.2 (by rw [e19, e18]; exact Ag_tr (Ag_uN rfl) (Ag_uN rfl)))
  have hK2 := hK
  rw [e19, nR_uN, if_neg (by simp), e18, nR_uN, if_neg (by simp), s16.2.1 2 (by omega) (by omega) (by omega)]
  exact hg
/-- any row is a function of numbers -/
theorem Hv_any {ρ : Rs} {r : Ro} {n : Nat} : Hv ρ r n (fun i => (iR ρ r i).toBitVec.toNat) := by
  intro i _
  show iR ρ r i = Int32.ofNat (iR ρ r i).toBitVec.toNat
  apply Int32.toBitVec_inj.1
  show _ = BitVec.ofNat 32 _
  rw [BitVec.ofNat_toNat, BitVec.setWidth_eq]
theorem sh1m : ∀ a, a < 13 → (1 : Int32) <<< (nI a &&& 31) - 1 = nI (2 ^ a - 1) := by decide
def cW (σ : Wd) (W : Bool) (s : Nat) : Bool := aimW σ s == W
theorem c_place (hG : gok G) {σ : Wd} {W : Bool} {a0 m wc : Nat} {od pl kd fr un cc cm wt : Nat → Nat} (hR : RWr ρ σ) (hL : KLn (nR ρ) (nS σ)) (hM1 : nS σ ≤ nR ρ (33, 0, 0)) (hM2 : ∀ s, s < nS σ → iR ρ (33, 0, 0) s = bI (aimW σ s)) (hW : KRw ρ (nS σ) m wc od pl kd fr un cc cm wt) (hae : a0 + cnt (cW σ W) (nS σ) ≤ nS σ) (hmN : m ≤ a0) (hwc : wc ≤ a0)
    (k : ∀ ad ρ' e0 m' wc' (od' pl' kd' fr' un' cc' cm' wt' : Nat → Nat), e0 = a0 + cnt (cW σ W) (nS σ) → KRw ρ' (nS σ) m' wc' od' pl' kd' fr' un' cc' cm' wt' → (∀ i, i < a0 → od' i = od i) → (∀ i, a0 ≤ i → i < e0 → od' i < nS σ ∧ aimW σ (od' i) = W ∧ pl' (od' i) = i) → (∀ s, s < nS σ → aimW σ s = W → a0 ≤ pl' s ∧ pl' s < e0 ∧ od' (pl' s) = s ∧ cm' s = 2 ^ dA σ - 1 ∧ kd' s = m) → (∀ s, s < nS σ → aimW σ s ≠ W → pl' s = pl s ∧ cm' s = cm s ∧ kd' s = kd s) → ((a0 < e0 ∧ m' = m + 1 ∧ wc' = wc + 1 ∧ fr' = va_up fr m a0 ∧ un' = va_up un m e0 ∧ cc' = va_up cc m (e0 - a0) ∧ wt' = va_up wt wc m) ∨ (e0 = a0 ∧ m' = m ∧ wc' = wc ∧ fr' = fr ∧ un' = un ∧ cc' = cc ∧ wt' = wt)) → Ag PKi ρ ρ' → nR ρ' = nR ρ → K ad (some (.int (nI e0))) ρ') :
    semV G r_Ki_placeThose [] (fun ad => [.ref (ad (7, 0, 0)), .ref (ad (1, 0, 0)), .ref (ad (33, 0, 0)), .int (bI W), .int (nI a0)]) ρ K := by
  have h12 := hR.2.1
  have h4 := hR.1.2.2.2.1
  have hL0 := hL
  obtain ⟨l1, -⟩ := hL
  have l4 := l1 4 (by omega); have l5 := l1 5 (by omega); have l8 := l1 8 (by omega); have l9 := l1 9 (by omega); have l10 := l1 10 (by omega)
  refine semV_intro yk_Ki_placeThose.2.2.2.2 (fun _ => Nat.le_of_ble_eq_true rfl) (fun M Q ad0 hM => ?_)
  have hRw : ∀ {ρ1 : Rs}, Ag PKi ρ ρ1 → RWr ρ1 σ := fun hag => RWr_ag hR (Ag_mono hag (fun _ h => PKi_nW h))
  have beq : ∀ s, (bI (aimW σ s) = bI W) ↔ aimW σ s = W := by
    intro s
    cases aimW σ s <;> cases W <;> decide
  have key : ∀ dd s ρ1 (od1 pl1 cm1 : Nat → Nat) e, s + dd = nS σ → e = a0 + cnt (cW σ W) s → Ag PKi ρ ρ1 → nR ρ1 = nR ρ → KRw ρ1 (nS σ) m wc od1 pl1 kd fr un cc cm1 wt → (∀ i, i < a0 → od1 i = od i) → (∀ i, a0 ≤ i → i < e → od1 i < s ∧ aimW σ (od1 i) = W ∧ pl1 (od1 i) = i) → (∀ u, u < s → aimW σ u = W → a0 ≤ pl1 u ∧ pl1 u < e ∧ od1 (pl1 u) = u ∧ cm1 u = 2 ^ dA σ - 1) → (∀ u, (u < s → aimW σ u ≠ W) → pl1 u = pl u ∧ cm1 u = cm u) → Y G [] ad0 M Q 7 (fun ad => [(0, .ref (ad (7, 0, 0))), (1, .ref (ad (1, 0, 0))), (2, .ref (ad (33, 0, 0))), (3, .int (bI W)), (4, .int (nI a0)), (5, .int (nI e)), (6, .int (nI s))]) (fun ad => []) ρ1 := by
    intro dd
    induction dd with
    | zero =>
      intro s ρ1 od1 pl1 cm1 e hdd he hag hnr hW1 x1 x2 x3 x4
      have es : s = nS σ := by omega
      subst es
      obtain ⟨t4, t5, t2, t6, t7, t8, t9, t10, u0, u11⟩ := hW1
      refine T_Ki_placeThose_7 hG hM _ _ _ _ ρ1 ⟨fun _ => ⟨fun z ad => ?_, fun z => ?_⟩, fun z => absurd (by rw [(hRw hag).1.2.1]; exact (nI_leI (by omega) (by omega)).mpr (Nat.le_refl _)) z⟩
      · have z := (nI_leI (by omega) (by omega)).mp z
        have ee : e = a0 := by omega
        refine k ad ρ1 e m wc od1 pl1 kd fr un cc cm1 wt he ⟨t4, t5, t2, t6, t7, t8, t9, t10, u0, u11⟩ x1 x2 (fun u hu hau => ?_) (fun u hu hau => ⟨(x4 u (fun _ => hau)).1, (x4 u (fun _ => hau)).2, rfl⟩) (Or.inr ⟨ee, rfl, rfl, rfl, rfl, rfl, rfl⟩) hag hnr
        have := x3 u hu hau
        omega
      · have z : a0 < e := Nat.not_le.mp (fun y => z ((nI_leI (by omega) (by omega)).mpr y))
        refine c_open hG h4 (by rw [hnr]; exact hL0) t4 (fun i i1 i2 => (x2 i i1 i2).1) t2 t6 t7 t8 (by omega) u0 (by omega) (by omega) (fun ad ρ2 kd2 g1 g2 g3 g4 g5 g6 g7 g8 g9 g10 => ⟨_, rfl, in_nI (by rw [g10, hnr]; omega) (by omega), ?_⟩)
        · rw [nI_clamp (n := m) (by omega), nI_sb (by omega)]
          intro ρ6 e6
          have w6 : iR ρ6 (7, 0, 0) 11 = nI wc := by rw [e6, iR_pI, if_neg (by simp), g8]; exact u11
          have v6 : iR ρ6 (7, 0, 0) 0 = nI (m + 1) := by rw [e6, iR_pI, if_neg (by simp)]; exact g7
          rw [w6, nI_clamp (n := wc) (by omega), v6, nI_pred]
          refine ⟨in_nI (by rw [e6, nR_pI, g10, hnr]; omega) (by omega), fun ρ7 e7 ρ8 e8 ad => ?_⟩
          have w7 : iR ρ7 (7, 0, 0) 11 = nI wc := by rw [e7, iR_pI, if_neg (by simp)]; exact w6
          rw [w7, nI_1] at e8
          have a8 : Ag (fun q => q = (34, 8, 0) ∨ q = (34, 10, 0) ∨ q = (7, 0, 0)) ρ2 ρ8 := by rw [e8, e7, e6]; exact Ag_tr (Ag_pI (Or.inl rfl)) (Ag_tr (Ag_pI (Or.inr (Or.inl rfl))) (Ag_pI (Or.inr (Or.inr rfl))))
          have kd2W : ∀ u, u < nS σ → aimW σ u = W → kd2 u = m := by
            intro u hu hau
            obtain ⟨y1, y2, y3, y4⟩ := x3 u hu hau
            have := g2 (pl1 u) y1 y2
            rw [y3] at this; exact this
          have kd2N : ∀ u, u < nS σ → aimW σ u ≠ W → kd2 u = kd u := by
            intro u hu hau
            refine g3 u (fun i i1 i2 y => hau ?_)
            rw [← y]; exact (x2 i i1 i2).2.1
          refine k ad ρ8 e (m + 1) (wc + 1) od1 pl1 kd2 _ _ _ cm1 _ he ⟨?_, ?_, ?_, ?_, ?_, ?_, ?_, ?_, ?_, ?_⟩ x1 x2 (fun u hu hau => ?_) (fun u hu hau => ⟨(x4 u (fun _ => hau)).1, (x4 u (fun _ => hau)).2, kd2N u hu hau⟩) (Or.inl ⟨z, rfl, rfl, rfl, rfl, rfl, rfl⟩) (Ag_tr hag (Ag_tr (Ag_mono g9 (fun q h => by rcases h with h | h | h | h | h <;> rw [h] <;> first | exact Or.inl rfl | exact Or.inr rfl)) (Ag_mono a8 (fun q h => by rcases h with h | h | h <;> rw [h] <;> first | exact Or.inl rfl | exact Or.inr rfl)))) (by rw [e8, e7, e6]; show nR ρ2 = nR ρ; rw [g10]; exact hnr)
          · exact Hv_ag (Hv_ag t4 g9 (by simp [POp])) a8 (by simp)
          · exact Hv_ag (Hv_ag t5 g9 (by simp [POp])) a8 (by simp)
          · exact Hv_ag g1 a8 (by simp)
          · exact Hv_ag g4 a8 (by simp)
          · exact Hv_ag g5 a8 (by simp)
          · rw [e8, e7, e6]
            have h8 := Hv_s (x := m) (y := e - a0) g6
            have ev : va_up (va_up cc m 0) m (e - a0) = va_up cc m (e - a0) := by
              funext j
              by_cases ej : j = m
              · rw [ej, ups, ups]
              · rw [upn ej, upn ej, upn ej]
            rw [ev] at h8
            exact Hv_o (by decide) (Hv_o (by decide) h8)
          · exact Hv_ag (Hv_ag t9 g9 (by simp [POp])) a8 (by simp)
          · rw [e8, e7, e6]
            exact Hv_o (by decide) (Hv_x (Hv_o (by decide) (Hv_ag t10 g9 (by simp [POp]))))
          · rw [e8, iR_pI, if_neg (by simp), e7, iR_pI, if_neg (by simp)]; exact v6
          · rw [e8, iR_pI, if_pos ⟨rfl, rfl⟩]
          · obtain ⟨y1, y2, y3, y4⟩ := x3 u hu hau
            exact ⟨y1, y2, y3, y4, kd2W u hu hau⟩
    | succ dd ih =>
      intro s ρ1 od1 pl1 cm1 e hdd he hag hnr hW1 x1 x2 x3 x4
      have hs : s < nS σ := by omega
      have hR1 := hRw hag
      obtain ⟨t4, t5, t2, t6, t7, t8, t9, t10, u0, u11⟩ := hW1
      have cs : cnt (cW σ W) (s + 1) = cnt (cW σ W) s + (if cW σ W s = true then 1 else 0) := rfl
      have cl : cnt (cW σ W) (s + 1) ≤ cnt (cW σ W) (nS σ) := by
        have hm : ∀ n, s + 1 ≤ n → cnt (cW σ W) (s + 1) ≤ cnt (cW σ W) n := by
          intro n
          induction n with
          | zero => intro h; omega
          | succ n ihn =>
            intro h
            by_cases en : s + 1 = n + 1
            · rw [en]; exact Nat.le_refl _
            · have := ihn (by omega)
              show _ ≤ cnt (cW σ W) n + _
              omega
        exact hm _ (by omega)
      have m1 : iR ρ1 (33, 0, 0) s = bI (aimW σ s) := by rw [(hag (33, 0, 0) (by simp [PKi])).2.1]; exact hM2 s hs
      refine T_Ki_placeThose_7 hG hM _ _ _ _ ρ1 ⟨fun z => absurd (by rw [hR1.1.2.1] at z; exact (nI_leI (by omega) (by omega)).mp z) (by omega), fun _ => ⟨in_nI (by rw [(hag (33, 0, 0) (by simp [PKi])).1]; omega) (by omega), ?_⟩⟩
      rw [nI_clamp (n := s) (by omega), m1, beq s, nI_1 s, nI_1 e]
      refine ⟨fun z => ?_, fun z => ?_⟩
      · have hc : cW σ W s = true := by unfold cW; rw [z]; cases W <;> rfl
        rw [hc, if_pos rfl] at cs
        have heN : e < nS σ := by omega
        rw [nI_clamp (n := e) (by omega)]
        refine ⟨in_nI (by rw [hnr]; omega) (by omega), fun ρ14 e14 => ⟨in_nI (by rw [e14, nR_pI, hnr]; omega) (by omega), fun ρ15 e15 => ⟨in_nI (by rw [e15, nR_pI, e14, nR_pI, hnr]; omega) (by omega), ?_⟩⟩⟩
        have na15 : iR ρ15 (1, 0, 0) 2 = nI (dA σ) := by rw [e15, iR_pI, if_neg (by simp), e14, iR_pI, if_neg (by simp)]; exact hR1.2.2.1
        rw [na15, sh1m _ (by omega)]
        intro ρ16 e16
        have hnp : ∀ i, a0 ≤ i → i < e → od1 i ≠ s := fun i i1 i2 y => by have := (x2 i i1 i2).1; omega
        refine ih (s + 1) ρ16 (va_up od1 e s) (va_up pl1 s e) (va_up cm1 s (2 ^ dA σ - 1)) (e + 1) (by omega) (by omega) (Ag_tr hag (by rw [e16, e15, e14]; exact Ag_tr (Ag_pI (Or.inr rfl)) (Ag_tr (Ag_pI (Or.inr rfl)) (Ag_pI (Or.inr rfl))))) (by rw [e16, e15, e14]; exact hnr) ⟨?_, ?_, ?_, ?_, ?_, ?_, ?_, ?_, ?_, ?_⟩ (fun i hi => ?_) (fun i i1 i2 => ?_) (fun u hu hau => ?_) (fun u hu => ?_)
        · rw [e16, e15, e14]; exact Hv_o (by decide) (Hv_o (by decide) (Hv_s t4))
        · rw [e16, e15, e14]; exact Hv_o (by decide) (Hv_s (Hv_o (by decide) t5))
        · rw [e16, e15, e14]; exact Hv_o (by decide) (Hv_o (by decide) (Hv_o (by decide) t2))
        · rw [e16, e15, e14]; exact Hv_o (by decide) (Hv_o (by decide) (Hv_o (by decide) t6))
        · rw [e16, e15, e14]; exact Hv_o (by decide) (Hv_o (by decide) (Hv_o (by decide) t7))
        · rw [e16, e15, e14]; exact Hv_o (by decide) (Hv_o (by decide) (Hv_o (by decide) t8))
        · rw [e16, e15, e14]; exact Hv_s (Hv_o (by decide) (Hv_o (by decide) t9))
        · rw [e16, e15, e14]; exact Hv_o (by decide) (Hv_o (by decide) (Hv_o (by decide) t10))
        · rw [e16, iR_pI, if_neg (by simp), e15, iR_pI, if_neg (by simp), e14, iR_pI, if_neg (by simp)]; exact u0
        · rw [e16, iR_pI, if_neg (by simp), e15, iR_pI, if_neg (by simp), e14, iR_pI, if_neg (by simp)]; exact u11
        · rw [upn (by omega)]; exact x1 i hi
        · by_cases ei : i = e
          · rw [ei, ups, ups]; exact ⟨by omega, z, rfl⟩
          · rw [upn ei]
            obtain ⟨y1, y2, y3⟩ := x2 i i1 (by omega)
            rw [upn (hnp i i1 (by omega))]
            exact ⟨by omega, y2, y3⟩
        · by_cases eu : u = s
          · rw [eu, ups, ups, ups]; exact ⟨by omega, by omega, rfl, rfl⟩
          · rw [upn (f := pl1) eu, upn (f := cm1) eu]
            obtain ⟨y1, y2, y3, y4⟩ := x3 u (by omega) hau
            rw [upn (by omega : pl1 u ≠ e)]
            exact ⟨y1, by omega, y3, y4⟩
        · have eu : u ≠ s := fun y => hu (by omega) (by rw [y]; exact z)
          rw [upn eu, upn eu]
          exact x4 u (fun h => hu (by omega))
      · have hc : cW σ W s = false := by
          unfold cW
          cases h : aimW σ s <;> cases hw : W <;> simp_all
        rw [hc] at cs
        refine ih (s + 1) ρ1 od1 pl1 cm1 e (by omega) (by rw [cs, he]; rfl) hag hnr ⟨t4, t5, t2, t6, t7, t8, t9, t10, u0, u11⟩ x1 (fun i i1 i2 => ?_) (fun u hu hau => ?_) (fun u hu => ?_)
        · obtain ⟨y1, y2, y3⟩ := x2 i i1 i2
          exact ⟨by omega, y2, y3⟩
        · by_cases eu : u = s
          · rw [eu] at hau; exact absurd hau z
          · exact x3 u (by omega) hau
        · exact x4 u (fun h => hu (by omega))
  refine T_Ki_placeThose_0 hG hM _ _ ρ ?_
  exact key (nS σ) 0 ρ od pl cm a0 (by omega) rfl Ag_rf rfl hW (fun _ _ => rfl) (fun i i1 i2 => absurd i2 (by omega)) (fun u hu => absurd hu (by omega)) (fun _ _ => ⟨rfl, rfl⟩)
end B36
