/-! rows of the class: packed states, where acts lead -/
/-- a number, or NONE -/
def oI (o : Option Nat) : Int32 := match o with
  | some n => nI n
  | none => -1
theorem rowR_ge {ρ : Rs} {r : Ro} {m : Nat} (hm : m ≤ 4096) : m ≤ nR (rowR ρ r m) r := by
  unfold rowR
  split
  · assumption
  · show m ≤ upR (nR ρ) r (roomN m) r
    rw [uR_s]
    exact roomN_ge hm
theorem Ag_rowR {P : Ro → Prop} {ρ : Rs} {r : Ro} {m : Nat} (hr : P r) : Ag P ρ (rowR ρ r m) := by
  unfold rowR
  split
  · exact Ag_rf
  · exact Ag_uN hr
theorem hold_pk {ρ : Rs} {σ : Wd} {s : Nat} {L : List Ce} (hT : RT ρ σ) (ho : ∀ c ∈ L, okCo (dT σ) c) : L.all (hold1 (fun t => pkW σ s / 4 ^ t % 4)) = holdW σ L s := by
  have e : ∀ c ∈ L, hold1 (fun t => pkW σ s / 4 ^ t % 4) c = hold1 (vl σ s) c := by
    intro c hc
    obtain ⟨h1, h2, h3⟩ := ho c hc
    unfold hold1
    dsimp only
    simp only [pkW_val hT h1]
    by_cases e2 : c.2.1 = 2
    · rw [if_pos e2] at h3
      simp only [pkW_val hT h3]
    · simp only [if_neg e2]
  unfold holdW
  rw [Bool.eq_iff_iff, List.all_eq_true, List.all_eq_true]
  exact ⟨fun h c hc => by rw [← e c hc]; exact h c hc, fun h c hc => by rw [e c hc]; exact h c hc⟩
theorem RT_ag {P : Ro → Prop} {ρ ρ' : Rs} {σ : Wd} (h : RT ρ σ) (ha : Ag P ρ ρ') (h1 : iR ρ' (1, 0, 0) 0 = iR ρ (1, 0, 0) 0) (h2 : iR ρ' (1, 0, 0) 1 = iR ρ (1, 0, 0) 1) (h3 : ¬ P (30, 3, 0)) (h4 : ¬ P (30, 4, 0)) : RT ρ' σ := by
  obtain ⟨a, b, c, d, e, f⟩ := h
  exact ⟨h1.trans a, h2.trans b, c, d, e, by rw [(ha _ h3).2.1, (ha _ h4).2.1]; exact f⟩
theorem Cls_ag {P : Ro → Prop} {ρ ρ' : Rs} {i j : Nat} {L : List Ce} (h : Cls ρ i j L) (ha : Ag P ρ ρ') (h0 : ¬ P (10, i, j)) (h1 : ¬ P (11, i, j)) (h2 : ¬ P (12, i, j)) (h3 : ¬ P (13, i, j)) : Cls ρ' i j L := by
  obtain ⟨a, b, c, d⟩ := h
  exact ⟨a, by rw [(ha _ h0).2.1]; exact b, by rw [(ha _ h1).2.1, (ha _ h2).2.1, (ha _ h3).2.1]; exact c, d⟩
/-- the class's act a is that of σ -/
def RA (ρ : Rs) (σ : Wd) (a : Nat) : Prop := iR ρ (20, a, 0) 2 = nI (dO σ a) ∧ 1 ≤ dO σ a ∧ dO σ a ≤ 3 ∧ Cls ρ (a + 2) 0 (dC σ a) ∧ (∀ c ∈ dC σ a, okCo (dT σ) c) ∧ ∀ k, k < dO σ a → Cls ρ (a + 2) (k + 1) (dE σ a k) ∧ ∀ c ∈ dE σ a k, okEf (dS σ) (dT σ) c
/-- packed states stand -/
def RP (ρ : Rs) (σ : Wd) : Prop := nS σ ≤ nR ρ (30, 6, 0) ∧ nS σ ≤ nR ρ (30, 7, 0) ∧ ∀ s, s < nS σ → iR ρ (30, 6, 0) s = nI (pkW σ s)
/-- the rows of act a stand -/
def RF (ρ : Rs) (σ : Wd) (a : Nat) : Prop := ∀ k, k < dO σ a → nS σ ≤ nR ρ (23, a, k) ∧ nS σ ≤ nR ρ (24, a, k) ∧ ∀ s, s < nS σ → iR ρ (23, a, k) s = oI (nxW σ s a k)
section B8
variable {G : Gc} {ρ : Rs} {K : (Ro → Nat) → Option Value → Rs → Prop}
theorem c_fillPacked (hG : gok G) {σ : Wd} (hT : RT ρ σ) (k : ∀ ad ρ', RT ρ' σ → RP ρ' σ → iR ρ' (1, 0, 0) = va_up (iR ρ (1, 0, 0)) 8 1 → Ag (fun q => q = (30, 6, 0) ∨ q = (30, 7, 0) ∨ q = (1, 0, 0)) ρ ρ' → K ad none ρ') : semV G r_Wo_fillPacked [30] (fun ad => [.ref (ad (1, 0, 0))]) ρ K := by
  have hT0 := hT
  obtain ⟨h0, h1, h8, h4, hz, hs⟩ := hT
  refine semV_intro yk_Wo_fillPacked.2.2.2.2 (fun _ => Nat.le_of_ble_eq_true rfl) (fun M Q ad0 hM => ?_)
  refine T_Wo_fillPacked_0 hG hM ρ ⟨nS σ, h1, h4, fun ρ1 e1 => ?_⟩
  have a1 : Ag (fun q => q = (30, 6, 0) ∨ q = (30, 7, 0)) ρ ρ1 := by rw [e1]; exact Ag_rowR (Or.inl rfl)
  have b1 : iR ρ1 (1, 0, 0) = iR ρ (1, 0, 0) := (a1 _ (by decide)).2.1
  refine ⟨nS σ, by rw [b1]; exact h1, h4, fun ρ7 e7 => ?_⟩
  have a7' : Ag (fun q => q = (30, 7, 0)) ρ1 ρ7 := by rw [e7]; exact Ag_rowR rfl
  have a7 : Ag (fun q => q = (30, 6, 0) ∨ q = (30, 7, 0)) ρ ρ7 := Ag_tr a1 (Ag_mono a7' (fun q h => Or.inr h))
  have n6 : nS σ ≤ nR ρ7 (30, 6, 0) := by rw [(a7' _ (by decide)).1, e1]; exact rowR_ge h4
  have n7 : nS σ ≤ nR ρ7 (30, 7, 0) := by rw [e7]; exact rowR_ge h4
  have key : ∀ d s ρ2, s + d = nS σ → Ag (fun q => q = (30, 6, 0) ∨ q = (30, 7, 0)) ρ ρ2 → nS σ ≤ nR ρ2 (30, 6, 0) → nS σ ≤ nR ρ2 (30, 7, 0) → (∀ u, u < s → iR ρ2 (30, 6, 0) u = nI (pkW σ u)) → Y G [30] ad0 M Q 32 (fun ad => [(0, .ref (ad (1, 0, 0))), (1, .int (nI s))]) (fun ad => []) ρ2 := by
    intro d
    induction d with
    | zero =>
      intro s ρ2 hd ha m6 m7 hv
      have : s = nS σ := by omega
      subst this
      have b2 : iR ρ2 (1, 0, 0) = iR ρ (1, 0, 0) := (ha _ (by decide)).2.1
      refine T_Wo_fillPacked_32 hG hM _ ρ2 ⟨fun _ ρ3 e3 ad => ?_, fun q => absurd (by rw [b2, h1]; exact (nI_leI (by omega) (by omega)).mpr (Nat.le_refl _)) q⟩
      have b3 : iR ρ3 (1, 0, 0) = va_up (iR ρ (1, 0, 0)) 8 1 := by
        rw [e3]
        show upR (iR ρ2) (1, 0, 0) (va_up (iR ρ2 (1, 0, 0)) 8 1) (1, 0, 0) = _
        rw [uR_s, b2]
      have a3 : Ag (fun q => q = (30, 6, 0) ∨ q = (30, 7, 0) ∨ q = (1, 0, 0)) ρ ρ3 := by
        rw [e3]
        exact Ag_tr (Ag_mono ha (fun q h => h.elim Or.inl (fun h => Or.inr (Or.inl h)))) (Ag_pI (Or.inr (Or.inr rfl)))
      refine k ad ρ3 (RT_ag hT0 a3 (by rw [b3]; rfl) (by rw [b3]; rfl) (by decide) (by decide)) ⟨by rw [e3]; exact m6, by rw [e3]; exact m7, fun u hu => ?_⟩ b3 a3
      rw [e3, iR_pI, if_neg (by simp)]
      exact hv u hu
    | succ d ih =>
      intro s ρ2 hd ha m6 m7 hv
      have b2 : iR ρ2 (1, 0, 0) = iR ρ (1, 0, 0) := (ha _ (by decide)).2.1
      have b30 : iR ρ2 (30, 3, 0) = iR ρ (30, 3, 0) := (ha _ (by decide)).2.1
      refine T_Wo_fillPacked_32 hG hM _ ρ2 ⟨fun q => absurd (by rw [b2, h1] at q; exact (nI_leI (by omega) (by omega)).mp q) (by omega), fun _ => ?_⟩
      refine c_pack hG (n := dT σ) (sz := dS σ) (by rw [b2]; exact h0) h8 (fun x hx => by rw [b30]; exact (hs x hx).1) hz (by omega) (fun ad => ⟨_, rfl, ?_⟩)
      have hnr : nR ρ2 (30, 6, 0) < 2 ^ 31 ∨ 2 ^ 31 ≤ nR ρ2 (30, 6, 0) := by omega
      refine ⟨?_, fun ρ6 e6 => ?_⟩
      · rw [vp_in_iff, nI_toInt (by omega)]
        omega
      · rw [nI_clamp (by omega)] at e6
        rw [nI_1]
        refine ih (s + 1) ρ6 (by omega) (by rw [e6]; exact Ag_tr ha (Ag_pI (Or.inl rfl))) (by rw [e6]; exact m6) (by rw [e6]; exact m7) (fun u hu => ?_)
        rw [e6, iR_pI]
        by_cases e : u = s
        · subst e
          rw [if_pos ⟨rfl, rfl⟩]
          rfl
        · rw [if_neg (fun z => e z.2)]
          exact hv u (by omega)
  exact key (nS σ) 0 ρ7 (by omega) a7 n6 n7 (fun u hu => absurd hu (by omega))
theorem in_nI {s n : Nat} (h : s < n) (hs : s < 2 ^ 31) : vp_in (nI s) n := by
  rw [vp_in_iff, nI_toInt hs]
  omega
theorem c_fillRows (hG : gok G) {σ : Wd} {a : Nat} (ha : a < 12) (hT : RT ρ σ) (hA : RA ρ σ a) (hP : RP ρ σ) (k : ∀ ad ρ', RF ρ' σ a → iR ρ' (20, a, 0) = va_up (iR ρ (20, a, 0)) 3 1 → Ag (fun q => (q.1 = 23 ∨ q.1 = 24 ∨ q.1 = 20) ∧ q.2.1 = a) ρ ρ' → K ad none ρ') : semV G r_Ac_fillRows [23, 24] (fun ad => [.ref (ad (20, a, 0)), .ref (ad (1, 0, 0))]) ρ K := by
  obtain ⟨h0, h1, h8, h4, hz, hs⟩ := hT
  have hT : RT ρ σ := ⟨h0, h1, h8, h4, hz, hs⟩
  obtain ⟨o2, o1, o3, oc, ocok, oe⟩ := hA
  refine semV_intro yk_Ac_fillRows.2.2.2.2 (fun _ => Nat.le_of_ble_eq_true rfl) (fun M Q ad0 hM => ?_)
  refine T_Ac_fillRows_0 hG hM a ha ρ ?_
  -- what is kept in all three loops
  let B : Ro → Prop := fun q => (q.1 = 23 ∨ q.1 = 24) ∧ q.2.1 = a
  have hB : ∀ {ρ1 : Rs}, Ag B ρ ρ1 → RT ρ1 σ ∧ iR ρ1 (1, 0, 0) = iR ρ (1, 0, 0) ∧ iR ρ1 (20, a, 0) = iR ρ (20, a, 0) ∧ nR ρ1 (30, 6, 0) = nR ρ (30, 6, 0) ∧ iR ρ1 (30, 6, 0) = iR ρ (30, 6, 0) ∧ Cls ρ1 (a + 2) 0 (dC σ a) ∧ ∀ k, k < dO σ a → Cls ρ1 (a + 2) (k + 1) (dE σ a k) := by
    intro ρ1 h
    have b1 : iR ρ1 (1, 0, 0) = iR ρ (1, 0, 0) := (h _ (by simp [B])).2.1
    refine ⟨RT_ag hT h (by rw [b1]) (by rw [b1]) (by simp [B]) (by simp [B]), b1, (h _ (by simp [B])).2.1, (h _ (by simp [B])).1, (h _ (by simp [B])).2.1, Cls_ag oc h (by simp [B]) (by simp [B]) (by simp [B]) (by simp [B]), fun k hk => Cls_ag (oe k hk).1 h (by simp [B]) (by simp [B]) (by simp [B]) (by simp [B])⟩
  -- the innermost loop: outcomes of a state
  have key3 : ∀ d kk s ρ1, kk + d = dO σ a → s < nS σ → Ag B ρ ρ1 → (∀ x, x < dO σ a → nS σ ≤ nR ρ1 (23, a, x) ∧ nS σ ≤ nR ρ1 (24, a, x)) → (∀ x u, x < dO σ a → (u < s ∨ (u = s ∧ x < kk)) → iR ρ1 (23, a, x) u = oI (nxW σ u a x)) → (∀ ρ2, Ag B ρ ρ2 → (∀ x, x < dO σ a → nS σ ≤ nR ρ2 (23, a, x) ∧ nS σ ≤ nR ρ2 (24, a, x)) → (∀ x u, x < dO σ a → u < s + 1 → iR ρ2 (23, a, x) u = oI (nxW σ u a x)) → Y G [23, 24] ad0 M Q 55 (fun ad => [(0, .ref (ad (20, a, 0))), (1, .ref (ad (1, 0, 0))), (2, .int (nI s + 1))]) (fun ad => []) ρ2) → Y G [23, 24] ad0 M Q 83 (fun ad => [(0, .ref (ad (20, a, 0))), (1, .ref (ad (1, 0, 0))), (2, .int (nI s)), (3, .int (nI (pkW σ s))), (4, .int (if holdW σ (dC σ a) s = true then 1 else 0)), (5, .int (nI kk))]) (fun ad => []) ρ1 := by
    intro d
    induction d with
    | zero =>
      intro kk s ρ1 hd hsn hag hlen hval hgo
      obtain ⟨t1, t2, t3, t4, t5, t6, t7⟩ := hB hag
      refine T_Ac_fillRows_83 hG hM a ha _ _ _ _ ρ1 ⟨fun _ => hgo ρ1 hag hlen (fun x u hx hu => hval x u hx (by omega)), fun q => absurd (by rw [t3, o2]; exact (nI_leI (by omega) (by omega)).mpr (by omega)) q⟩
    | succ d ih =>
      intro kk s ρ1 hd hsn hag hlen hval hgo
      obtain ⟨t1, t2, t3, t4, t5, t6, t7⟩ := hB hag
      have hkk : kk < dO σ a := by omega
      have hc3 : Int32.toNatClampNeg (nI kk) = kk := nI_clamp (by omega)
      have hin3 : vp_in (nI kk) 3 := vp_in_nI (by omega) (by omega)
      have nxt : ∀ x ρ2, x = oI (nxW σ s a kk) → ρ2 = pI ρ1 (23, a, kk) s x → Y G [23, 24] ad0 M Q 83 (fun ad => [(0, .ref (ad (20, a, 0))), (1, .ref (ad (1, 0, 0))), (2, .int (nI s)), (3, .int (nI (pkW σ s))), (4, .int (if holdW σ (dC σ a) s = true then 1 else 0)), (5, .int (nI kk + 1))]) (fun ad => []) ρ2 := by
        intro x ρ2 ex e2
        rw [nI_1]
        refine ih (kk + 1) s ρ2 (by omega) hsn (by rw [e2]; exact Ag_tr hag (Ag_pI ⟨Or.inl rfl, rfl⟩)) (by rw [e2]; exact hlen) (fun y u hy hu => ?_) hgo
        rw [e2, iR_pI]
        by_cases e : y = kk ∧ u = s
        · obtain ⟨rfl, rfl⟩ := e
          rw [if_pos ⟨rfl, rfl⟩, ex]
        · rw [if_neg (by simp only [Prod.mk.injEq, true_and]; exact e)]
          exact hval y u hy (by omega)
      refine T_Ac_fillRows_83 hG hM a ha _ _ _ _ ρ1 ⟨fun q => absurd (by rw [t3, o2] at q; exact (nI_leI (by omega) (by omega)).mp q) (by omega), fun _ => ⟨hin3, ?_⟩⟩
      rw [hc3, nI_clamp (show s < 2 ^ 31 by omega)]
      have hrow : vp_in (nI s) (nR ρ1 (23, a, kk)) := in_nI (Nat.lt_of_lt_of_le hsn (hlen kk hkk).1) (by omega)
      refine ⟨fun q => ⟨hrow, fun ρ4 e4 => nxt _ ρ4 ?_ e4⟩, fun q => ⟨hin3, ?_⟩⟩
      · by_cases hh : holdW σ (dC σ a) s = true
        · rw [if_pos hh] at q
          exact absurd q (by decide)
        · unfold nxW
          rw [if_neg hh]
          rfl
      · refine c_after hG t1 (okC_ou ha (by omega)) (t7 kk hkk) (oe kk hkk).2 hsn (fun ad => ⟨_, rfl, hrow, fun ρ4 e4 => nxt _ ρ4 ?_ e4⟩)
        by_cases hh : holdW σ (dC σ a) s = true
        · unfold nxW
          rw [if_pos hh]
          rfl
        · rw [if_neg hh] at q
          exact absurd rfl q
  -- the loop over states
  have key2 : ∀ d s ρ1, s + d = nS σ → Ag B ρ ρ1 → (∀ x, x < dO σ a → nS σ ≤ nR ρ1 (23, a, x) ∧ nS σ ≤ nR ρ1 (24, a, x)) → (∀ x u, x < dO σ a → u < s → iR ρ1 (23, a, x) u = oI (nxW σ u a x)) → Y G [23, 24] ad0 M Q 55 (fun ad => [(0, .ref (ad (20, a, 0))), (1, .ref (ad (1, 0, 0))), (2, .int (nI s))]) (fun ad => []) ρ1 := by
    intro d
    induction d with
    | zero =>
      intro s ρ1 hd hag hlen hval
      obtain ⟨t1, t2, t3, t4, t5, t6, t7⟩ := hB hag
      refine T_Ac_fillRows_55 hG hM a ha _ ρ1 ⟨fun _ ρ2 e2 ad => k ad ρ2 (fun x hx => ?_) ?_ ?_, fun q => absurd (by rw [t2, h1]; exact (nI_leI (by omega) (by omega)).mpr (by omega)) q⟩
      · refine ⟨by rw [e2]; exact (hlen x hx).1, by rw [e2]; exact (hlen x hx).2, fun u hu => ?_⟩
        rw [e2, iR_pI, if_neg (by simp)]
        exact hval x u hx (by omega)
      · rw [e2, ← t3]
        show upR (iR ρ1) (20, a, 0) _ (20, a, 0) = _
        rw [uR_s]
      · rw [e2]
        exact Ag_tr (Ag_mono hag (fun q h => ⟨h.1.elim Or.inl (fun h => Or.inr (Or.inl h)), h.2⟩)) (Ag_pI ⟨Or.inr (Or.inr rfl), rfl⟩)
    | succ d ih =>
      intro s ρ1 hd hag hlen hval
      obtain ⟨t1, t2, t3, t4, t5, t6, t7⟩ := hB hag
      have hsn : s < nS σ := by omega
      refine T_Ac_fillRows_55 hG hM a ha _ ρ1 ⟨fun q => absurd (by rw [t2, h1] at q; exact (nI_leI (by omega) (by omega)).mp q) (by omega), fun _ => ⟨in_nI (by rw [t4]; exact Nat.lt_of_lt_of_le hsn hP.1) (by omega), ?_⟩⟩
      rw [nI_clamp (show s < 2 ^ 31 by omega), t5, hP.2.2 s hsn]
      refine c_Cl_hold hG (okC_ac ha) (pkW_lt t1) t6 (fun ad => ⟨_, rfl, ?_⟩)
      rw [hold_pk t1 ocok]
      refine key3 (dO σ a) 0 s ρ1 (by omega) hsn hag hlen (fun x u hx hu => hval x u hx (by omega)) (fun ρ2 g1 g2 g3 => ?_)
      rw [nI_1]
      exact ih (s + 1) ρ2 (by omega) g1 g2 g3
  -- the rows are made
  have key1 : ∀ d kk ρ1, kk + d = dO σ a → Ag B ρ ρ1 → (∀ x, x < kk → nS σ ≤ nR ρ1 (23, a, x) ∧ nS σ ≤ nR ρ1 (24, a, x)) → Y G [23, 24] ad0 M Q 2 (fun ad => [(0, .ref (ad (20, a, 0))), (1, .ref (ad (1, 0, 0))), (2, .int (nI kk))]) (fun ad => []) ρ1 := by
    intro d
    induction d with
    | zero =>
      intro kk ρ1 hd hag hlen
      obtain ⟨t1, t2, t3, t4, t5, t6, t7⟩ := hB hag
      refine T_Ac_fillRows_2 hG hM a ha _ ρ1 ⟨fun _ => ?_, fun q => absurd (by rw [t3, o2]; exact (nI_leI (by omega) (by omega)).mpr (by omega)) q⟩
      exact key2 (nS σ) 0 ρ1 (by omega) hag (fun x hx => hlen x (by omega)) (fun x u _ hu => absurd hu (by omega))
    | succ d ih =>
      intro kk ρ1 hd hag hlen
      obtain ⟨t1, t2, t3, t4, t5, t6, t7⟩ := hB hag
      refine T_Ac_fillRows_2 hG hM a ha _ ρ1 ⟨fun q => absurd (by rw [t3, o2] at q; exact (nI_leI (by omega) (by omega)).mp q) (by omega), fun _ => ⟨vp_in_nI (by omega) (by omega), ?_⟩⟩
      rw [nI_clamp (by omega)]
      refine ⟨nS σ, by rw [t2]; exact h1, h4, fun ρ3 e3 => ?_⟩
      have g3 : Ag (fun q => q = (23, a, kk)) ρ1 ρ3 := by rw [e3]; exact Ag_rowR rfl
      refine ⟨nS σ, by rw [(g3 (1, 0, 0) (by simp)).2.1, t2]; exact h1, h4, fun ρ9 e9 => ?_⟩
      have g9 : Ag (fun q => q = (24, a, kk)) ρ3 ρ9 := by rw [e9]; exact Ag_rowR rfl
      rw [nI_1]
      refine ih (kk + 1) ρ9 (by omega) (Ag_tr hag (Ag_tr (Ag_mono g3 (fun q h => by subst h; exact ⟨Or.inl rfl, rfl⟩)) (Ag_mono g9 (fun q h => by subst h; exact ⟨Or.inr rfl, rfl⟩)))) (fun x hx => ?_)
      by_cases e : x = kk
      · subst e
        exact ⟨by rw [(g9 (23, a, x) (by simp)).1, e3]; exact rowR_ge h4, by rw [e9]; exact rowR_ge h4⟩
      · have := hlen x (by omega)
        exact ⟨by rw [(g9 (23, a, x) (by simp)).1, (g3 (23, a, x) (by simp [e])).1]; exact this.1, by rw [(g9 (24, a, x) (by simp [e])).1, (g3 (24, a, x) (by simp)).1]; exact this.2⟩
  exact key1 (dO σ a) 0 ρ (by omega) Ag_rf (fun x hx => absurd hx (by omega))
end B8
