/-! COVER: the class judges a cover -/
def insW (σ : Wd) (s : Nat) : Bool := (List.range (dP σ)).any (fun p => holdW σ (dC σ (13 + p)) s)
theorem insW_iff {σ : Wd} {s : Nat} : insW σ s = true ↔ ∃ p, p < dP σ ∧ holdW σ (dC σ (13 + p)) s = true := by
  unfold insW
  rw [List.any_eq_true]
  constructor
  · rintro ⟨p, h1, h2⟩; exact ⟨p, List.mem_range.mp h1, h2⟩
  · rintro ⟨p, h1, h2⟩; exact ⟨p, List.mem_range.mpr h1, h2⟩
/-- outcome k of act a leads out of the cover from s -/
def lvW (σ : Wd) (s a k : Nat) : Prop := a < dA σ ∧ k < dO σ a ∧ insW σ s = true ∧ ∃ t, nxW σ s a k = some t ∧ insW σ t = false
/-- what flaw answers -/
def isFl (σ : Wd) (n : Nat) (fs fa fk : Option Nat) : Prop :=
  (n = 1 ∧ insW σ (dB σ) = false ∧ fs = none ∧ fa = none ∧ fk = none) ∨
  (insW σ (dB σ) = true ∧ ((∃ s a k, n = 2 ∧ fs = some s ∧ fa = some a ∧ fk = some k ∧ s < nS σ ∧ lvW σ s a k ∧ ∀ s' a' k', s' < nS σ → (s' < s ∨ (s' = s ∧ (a' < a ∨ (a' = a ∧ k' < k)))) → ¬ lvW σ s' a' k') ∨
    ((∀ s a k, s < nS σ → ¬ lvW σ s a k) ∧ fa = none ∧ fk = none ∧ ((∃ s, n = 3 ∧ fs = some s ∧ s < nS σ ∧ insW σ s = true ∧ aimW σ s = true ∧ ∀ s', s' < s → ¬ (insW σ s' = true ∧ aimW σ s' = true)) ∨ (n = 0 ∧ fs = none ∧ ∀ s, s < nS σ → ¬ (insW σ s = true ∧ aimW σ s = true))))))
theorem isFl_uni {σ : Wd} {n n' : Nat} {fs fa fk fs' fa' fk' : Option Nat} (h : isFl σ n fs fa fk) (h' : isFl σ n' fs' fa' fk') : n = n' ∧ fs = fs' ∧ fa = fa' ∧ fk = fk' := by
  rcases h with ⟨h1, h2, h3, h4, h5⟩ | ⟨hb, h⟩
  · rcases h' with ⟨g1, g2, g3, g4, g5⟩ | ⟨gb, -⟩
    · exact ⟨h1.trans g1.symm, h3.trans g3.symm, h4.trans g4.symm, h5.trans g5.symm⟩
    · rw [h2] at gb; cases gb
  · rcases h' with ⟨g1, g2, g3, g4, g5⟩ | ⟨gb, h'⟩
    · rw [g2] at hb; cases hb
    · rcases h with ⟨s, a, k, h1, h2, h3, h4, h5, h6, h7⟩ | ⟨h1, h2, h3, h4⟩
      · rcases h' with ⟨s', a', k', g1, g2, g3, g4, g5, g6, g7⟩ | ⟨g1, -⟩
        · have c1 : ¬ (s < s' ∨ (s = s' ∧ (a < a' ∨ (a = a' ∧ k < k')))) := fun z => g7 s a k h5 z h6
          have c2 : ¬ (s' < s ∨ (s' = s ∧ (a' < a ∨ (a' = a ∧ k' < k)))) := fun z => h7 s' a' k' g5 z g6
          have e1 : s = s' := by omega
          have e2 : a = a' := by omega
          have e3 : k = k' := by omega
          exact ⟨h1.trans g1.symm, by rw [h2, g2, e1], by rw [h3, g3, e2], by rw [h4, g4, e3]⟩
        · exact absurd h6 (g1 s a k h5)
      · rcases h' with ⟨s', a', k', g1, g2, g3, g4, g5, g6, g7⟩ | ⟨g1, g2, g3, g4⟩
        · exact absurd g6 (h1 s' a' k' g5)
        · refine ⟨?_, ?_, h2.trans g2.symm, h3.trans g3.symm⟩
          · rcases h4 with ⟨s, x1, x2, x3, x4, x5, x6⟩ | ⟨x1, x2, x3⟩ <;> rcases g4 with ⟨s', y1, y2, y3, y4, y5, y6⟩ | ⟨y1, y2, y3⟩
            · rw [x1, y1]
            · exact absurd ⟨x4, x5⟩ (y3 s x3)
            · exact absurd ⟨y4, y5⟩ (x3 s' y3)
            · rw [x1, y1]
          · rcases h4 with ⟨s, x1, x2, x3, x4, x5, x6⟩ | ⟨x1, x2, x3⟩ <;> rcases g4 with ⟨s', y1, y2, y3, y4, y5, y6⟩ | ⟨y1, y2, y3⟩
            · have : s = s' := by
                rcases Nat.lt_trichotomy s s' with q | q | q
                · exact absurd ⟨x4, x5⟩ (y6 s q)
                · exact q
                · exact absurd ⟨y4, y5⟩ (x6 s' q)
              rw [x2, y2, this]
            · exact absurd ⟨x4, x5⟩ (y3 s x3)
            · exact absurd ⟨y4, y5⟩ (x3 s' y3)
            · rw [x2, y2]
/-- the class's cover is that of σ -/
def RCv (ρ : Rs) (σ : Wd) : Prop := iR ρ (3, 0, 0) 0 = nI (dP σ) ∧ dP σ ≤ 6 ∧ ∀ p, p < dP σ → Cls ρ 1 p (dC σ (13 + p)) ∧ ∀ c ∈ dC σ (13 + p), okCo (dT σ) c
/-- its judgement stands -/
def RFl (ρ : Rs) (σ : Wd) : Prop := ∃ n fs fa fk, isFl σ n fs fa fk ∧ iR ρ (3, 0, 0) 2 = nI n ∧ iR ρ (3, 0, 0) 3 = oI fs ∧ iR ρ (3, 0, 0) 4 = oI fa ∧ iR ρ (3, 0, 0) 5 = oI fk
theorem RCv_ag {ρ ρ' : Rs} {σ : Wd} {P : Ro → Prop} (h : RCv ρ σ) (ha : Ag P ρ ρ') (h0 : iR ρ' (3, 0, 0) 0 = iR ρ (3, 0, 0) 0) (hP : ∀ j, ¬ P (10, 1, j) ∧ ¬ P (11, 1, j) ∧ ¬ P (12, 1, j) ∧ ¬ P (13, 1, j)) : RCv ρ' σ :=
  ⟨h0.trans h.1, h.2.1, fun p hp => ⟨Cls_ag (h.2.2 p hp).1 ha (hP p).1 (hP p).2.1 (hP p).2.2.1 (hP p).2.2.2, (h.2.2 p hp).2⟩⟩
def PCo (q : Ro) : Prop := q = (3, 0, 0) ∨ q = (31, 7, 0)
theorem PCo_nW {q : Ro} (h : PCo q) : nW q := by
  rcases h with h | h <;> rw [h] <;> rfl
section B28
variable {G : Gc} {ρ : Rs} {K : (Ro → Nat) → Option Value → Rs → Prop}
theorem c_tell (hG : gok G) {v1 v2 v3 : Int32} (k : ∀ ad, K ad none (pI (pI (pI ρ (3, 0, 0) 2 v1) (3, 0, 0) 3 v2) (3, 0, 0) 4 v3)) : semV G r_Co_tell [] (fun ad => [.ref (ad (3, 0, 0)), .int v1, .int v2, .int v3]) ρ K := by
  refine semV_intro yk_Co_tell.2.2.2.2 (fun _ => Nat.le_of_ble_eq_true rfl) (fun M Q ad0 hM => ?_)
  refine T_Co_tell_0 hG hM _ _ _ ρ (fun ρ1 e1 ρ2 e2 ρ3 e3 => ?_)
  rw [e3, e2, e1]; exact k
theorem c_isInside (hG : gok G) {σ : Wd} {s : Nat} (hT : RT ρ σ) (hC : RCv ρ σ) (k : ∀ ad, K ad (some (.int (bI (insW σ s)))) ρ) : semV G r_Co_isInside [] (fun ad => [.ref (ad (3, 0, 0)), .int (nI (pkW σ s))]) ρ K := by
  obtain ⟨c1, c2, c3⟩ := hC
  refine semV_intro yk_Co_isInside.2.2.2.2 (fun _ => Nat.le_of_ble_eq_true rfl) (fun M Q ad0 hM => ?_)
  have key : ∀ dd p, p + dd = dP σ → (∀ j, j < p → ¬ holdW σ (dC σ (13 + j)) s = true) → Y G [] ad0 M Q 2 (fun ad => [(0, .ref (ad (3, 0, 0))), (1, .int (nI (pkW σ s))), (2, .int (nI p))]) (fun ad => []) ρ := by
    intro dd
    induction dd with
    | zero =>
      intro p hdd hj
      have ep : p = dP σ := by omega
      subst ep
      refine T_Co_isInside_2 hG hM _ _ ρ ⟨fun _ ad => ?_, fun z => absurd (by rw [c1]; exact (nI_leI (by omega) (by omega)).mpr (Nat.le_refl _)) z⟩
      have e : insW σ s = false := by
        cases h : insW σ s with
        | false => rfl
        | true => obtain ⟨j, h1, h2⟩ := insW_iff.mp h; exact absurd h2 (hj j h1)
      have := k ad
      rw [e] at this; exact this
    | succ dd ih =>
      intro p hdd hj
      have hp : p < dP σ := by omega
      refine T_Co_isInside_2 hG hM _ _ ρ ⟨fun z => absurd (by rw [c1] at z; exact (nI_leI (by omega) (by omega)).mp z) (by omega), fun _ => ⟨vp_in_nI (by omega) (by omega), ?_⟩⟩
      rw [nI_clamp (by omega), nI_1]
      refine c_Cl_hold hG (okC_pa (by omega)) (pkW_lt hT) (c3 p hp).1 (fun ad => ⟨_, rfl, ?_⟩)
      rw [hold_pk hT (c3 p hp).2]
      cases hh : holdW σ (dC σ (13 + p)) s with
      | false => exact ⟨fun _ => ih (p + 1) (by omega) (fun j hj2 => by
          by_cases e : j = p
          · rw [e, hh]; simp
          · exact hj j (by omega)), fun z => absurd rfl z⟩
      | true =>
        refine ⟨fun z => absurd z (by decide), fun _ ad => ?_⟩
        have e : insW σ s = true := insW_iff.mpr ⟨p, hp, hh⟩
        have := k ad
        rw [e] at this; exact this
  refine T_Co_isInside_0 hG hM _ ρ ?_
  exact key (dP σ) 0 (by omega) (fun j h => absurd h (by omega))
theorem c_findInside (hG : gok G) {σ : Wd} (hT : RT ρ σ) (hP : RP ρ σ) (hC : RCv ρ σ) (k : ∀ ad ρ', nS σ ≤ nR ρ' (31, 7, 0) → (∀ s, s < nS σ → iR ρ' (31, 7, 0) s = bI (insW σ s)) → Ag (fun q => q = (31, 7, 0)) ρ ρ' → K ad none ρ') : semV G r_Co_findInside [31] (fun ad => [.ref (ad (3, 0, 0)), .ref (ad (1, 0, 0))]) ρ K := by
  have h1 := hT.2.1
  have h4 := hT.2.2.2.1
  refine semV_intro yk_Co_findInside.2.2.2.2 (fun _ => Nat.le_of_ble_eq_true rfl) (fun M Q ad0 hM => ?_)
  have key : ∀ dd s ρ1, s + dd = nS σ → Ag (fun q => q = (31, 7, 0)) ρ ρ1 → nS σ ≤ nR ρ1 (31, 7, 0) → (∀ u, u < s → iR ρ1 (31, 7, 0) u = bI (insW σ u)) → Y G [31] ad0 M Q 17 (fun ad => [(0, .ref (ad (3, 0, 0))), (1, .ref (ad (1, 0, 0))), (2, .int (nI s))]) (fun ad => []) ρ1 := by
    intro dd
    induction dd with
    | zero =>
      intro s ρ1 hdd hag hn hv
      have es : s = nS σ := by omega
      subst es
      exact T_Co_findInside_17 hG hM _ ρ1 ⟨fun _ ad => k ad ρ1 hn hv hag, fun z => absurd (by rw [(hag (1, 0, 0) (by simp)).2.1, h1]; exact (nI_leI (by omega) (by omega)).mpr (Nat.le_refl _)) z⟩
    | succ dd ih =>
      intro s ρ1 hdd hag hn hv
      have hs : s < nS σ := by omega
      have b1 := (hag (1, 0, 0) (by simp)).2.1
      have T1 : RT ρ1 σ := RT_ag hT hag (by rw [b1]) (by rw [b1]) (by simp) (by simp)
      have C1 : RCv ρ1 σ := RCv_ag hC hag (by rw [(hag (3, 0, 0) (by simp)).2.1]) (fun j => by simp)
      refine T_Co_findInside_17 hG hM _ ρ1 ⟨fun z => absurd (by rw [b1, h1] at z; exact (nI_leI (by omega) (by omega)).mp z) (by omega), fun _ => ⟨in_nI (by rw [(hag (30, 6, 0) (by simp)).1]; have := hP.1; omega) (by omega), ?_⟩⟩
      rw [nI_clamp (by omega), (hag (30, 6, 0) (by simp)).2.1, hP.2.2 s hs, nI_1]
      refine c_isInside hG T1 C1 (fun ad => ⟨_, rfl, in_nI (by omega) (by omega), bI_nb _, fun ρ2 e2 => ?_⟩)
      refine ih (s + 1) ρ2 (by omega) (Ag_tr hag (by rw [e2]; exact Ag_pI rfl)) (by rw [e2]; exact hn) (fun u hu => ?_)
      rw [e2, iR_pI]
      by_cases e : u = s
      · subst e; rw [if_pos ⟨rfl, rfl⟩]
      · rw [if_neg (fun z => e z.2)]; exact hv u (by omega)
  refine T_Co_findInside_0 hG hM ρ ⟨nS σ, h1, h4, fun ρ1 e1 => ?_⟩
  exact key (nS σ) 0 ρ1 (by omega) (by rw [e1]; exact Ag_rowR rfl) (by rw [e1]; exact rowR_ge h4) (fun u hu => absurd hu (by omega))
theorem c_leavesFrom (hG : gok G) {σ : Wd} {s : Nat} (hR : RWr ρ σ) (hs : s < nS σ) (hin : insW σ s = true) (hn : nS σ ≤ nR ρ (31, 7, 0)) (hv : ∀ u, u < nS σ → iR ρ (31, 7, 0) u = bI (insW σ u))
    (k1 : ∀ ad a kk, lvW σ s a kk → (∀ b j, (b < a ∨ (b = a ∧ j < kk)) → ¬ lvW σ s b j) → K ad (some (.int 1)) (pI (pI (pI (pI ρ (3, 0, 0) 2 2) (3, 0, 0) 3 (nI s)) (3, 0, 0) 4 (nI a)) (3, 0, 0) 5 (nI kk)))
    (k0 : ∀ ad, (∀ a kk, ¬ lvW σ s a kk) → K ad (some (.int 0)) ρ) : semV G r_Co_leavesFrom [] (fun ad => [.ref (ad (3, 0, 0)), .ref (ad (1, 0, 0)), .int (nI s)]) ρ K := by
  have h12 := hR.2.1
  have h4 := hR.1.2.2.2.1
  refine semV_intro yk_Co_leavesFrom.2.2.2.2 (fun _ => Nat.le_of_ble_eq_true rfl) (fun M Q ad0 hM => ?_)
  have key : ∀ dd a, a + dd = dA σ → (∀ b j, b < a → ¬ lvW σ s b j) → Y G [] ad0 M Q 2 (fun ad => [(0, .ref (ad (3, 0, 0))), (1, .ref (ad (1, 0, 0))), (2, .int (nI s)), (3, .int (nI a))]) (fun ad => []) ρ := by
    intro dd
    induction dd with
    | zero =>
      intro a hdd hb
      have ea : a = dA σ := by omega
      subst ea
      exact T_Co_leavesFrom_2 hG hM _ _ ρ ⟨fun _ ad => k0 ad (fun b j h => hb b j h.1 h), fun z => absurd (by rw [hR.2.2.1]; exact (nI_leI (by omega) (by omega)).mpr (Nat.le_refl _)) z⟩
    | succ dd ih =>
      intro a hdd hb
      have ha : a < dA σ := by omega
      have hO := hR.2.2.2.1 a ha
      have hOx := hO.2.1
      have hOy := hO.2.2.1
      refine T_Co_leavesFrom_2 hG hM _ _ ρ ⟨fun z => absurd (by rw [hR.2.2.1] at z; exact (nI_leI (by omega) (by omega)).mp z) (by omega), fun _ => ⟨vp_in_nI (by omega) (by omega), ?_⟩⟩
      rw [nI_clamp (by omega)]
      have k21 : ∀ de kk, kk + de = dO σ a → (∀ j, j < kk → ¬ lvW σ s a j) → Y G [] ad0 M Q 21 (fun ad => [(0, .ref (ad (3, 0, 0))), (1, .ref (ad (1, 0, 0))), (2, .int (nI s)), (3, .int (nI a)), (4, .ref (ad (20, a, 0))), (5, .int (nI kk))]) (fun ad => []) ρ := by
        intro de
        induction de with
        | zero =>
          intro kk hde hj
          have ek : kk = dO σ a := by omega
          subst ek
          refine T_Co_leavesFrom_21 hG hM _ _ a (by omega) _ ρ ⟨fun _ => ?_, fun z => absurd (by rw [hO.1]; exact (nI_leI (by omega) (by omega)).mpr (Nat.le_refl _)) z⟩
          rw [nI_1]
          refine ih (a + 1) (by omega) (fun b j x1 h => ?_)
          by_cases e : b = a
          · subst e; exact hj j h.2.1 h
          · exact hb b j (by omega) h
        | succ de ih2 =>
          intro kk hde hj
          have hk : kk < dO σ a := by omega
          obtain ⟨rn, rv⟩ := RWr_to hR ha hk hs
          have nxt : ¬ lvW σ s a kk → Y G [] ad0 M Q 21 (fun ad => [(0, .ref (ad (3, 0, 0))), (1, .ref (ad (1, 0, 0))), (2, .int (nI s)), (3, .int (nI a)), (4, .ref (ad (20, a, 0))), (5, .int (nI (kk + 1)))]) (fun ad => []) ρ := fun h => ih2 (kk + 1) (by omega) (fun j x1 => by
            by_cases e : j = kk
            · rw [e]; exact h
            · exact hj j (by omega))
          have hm0 := oI_m1 (o := nxW σ s a kk) (fun m hm => by have := nx_lt (RWr_Es hR) ha hk hm; omega)
          refine T_Co_leavesFrom_21 hG hM _ _ a (by omega) _ ρ ⟨fun z => absurd (by rw [hO.1] at z; exact (nI_leI (by omega) (by omega)).mp z) (by omega), fun _ => ⟨vp_in_nI (by omega) (by omega), ?_⟩⟩
          rw [nI_clamp (by omega), nI_clamp (by omega), rv, nI_1]
          refine ⟨in_nI (by omega) (by omega), fun z => nxt (fun h => ?_), fun z => ?_⟩
          · obtain ⟨t, h1, -⟩ := h.2.2.2
            rw [hm0.mp z] at h1; cases h1
          · cases hx : nxW σ s a kk with
            | none => exact absurd (hm0.mpr hx) z
            | some t =>
              have htN := nx_lt (RWr_Es hR) ha hk hx
              rw [show oI (some t) = nI t from rfl, nI_clamp (by omega), hv t htN, bI_0]
              refine ⟨in_nI (by omega) (by omega), fun y => ?_, fun y => nxt (fun h => ?_)⟩
              · refine c_tell hG (fun ad => ⟨rfl, fun ρ7 e7 ad => ?_⟩)
                rw [e7]
                refine k1 ad a kk ⟨ha, hk, hin, t, hx, y⟩ (fun b j hbj => ?_)
                rcases hbj with x | ⟨x1, x2⟩
                · exact hb b j x
                · subst x1; exact hj j x2
              · obtain ⟨u, h1, h2⟩ := h.2.2.2
                rw [hx] at h1
                cases h1
                exact y h2
      exact k21 (dO σ a) 0 (by omega) (fun j h => absurd h (by omega))
  refine T_Co_leavesFrom_0 hG hM _ ρ ?_
  exact key (dA σ) 0 (by omega) (fun b j h => absurd h (by omega))
theorem c_judge (hG : gok G) {σ : Wd} (hR : RWr ρ σ) (hC : RCv ρ σ) (hB : dB σ < nS σ) (hM1 : nS σ ≤ nR ρ (33, 0, 0)) (hM2 : ∀ s, s < nS σ → iR ρ (33, 0, 0) s = bI (aimW σ s)) (k : ∀ ad ρ', RFl ρ' σ → iR ρ' (3, 0, 0) 0 = iR ρ (3, 0, 0) 0 → Ag PCo ρ ρ' → K ad none ρ') : semV G r_Co_judge [31] (fun ad => [.ref (ad (3, 0, 0)), .ref (ad (1, 0, 0)), .ref (ad (33, 0, 0)), .int (nI (dB σ))]) ρ K := by
  have h4 := hR.1.2.2.2.1
  refine semV_intro yk_Co_judge.2.2.2.2 (fun _ => Nat.le_of_ble_eq_true rfl) (fun M Q ad0 hM => ?_)
  refine T_Co_judge_0 hG hM _ ρ ?_
  refine c_findInside hG hR.1 hR.2.2.2.2.1 hC (fun ad ρ1 n1 v1 a1 => ⟨rfl, ?_⟩)
  refine c_tell hG (fun ad => ⟨rfl, fun ρ8 e8 => ?_⟩)
  have a8' : Ag (fun q => q = (3, 0, 0)) ρ1 ρ8 := by rw [e8]; exact Ag_tr (Ag_pI rfl) (Ag_tr (Ag_pI rfl) (Ag_tr (Ag_pI rfl) (Ag_pI rfl)))
  have a8 : Ag PCo ρ ρ8 := Ag_tr (Ag_mono a1 (fun q h => Or.inr h)) (Ag_mono a8' (fun q h => Or.inl h))
  have n8 : nS σ ≤ nR ρ8 (31, 7, 0) := by rw [(a8' (31, 7, 0) (by simp)).1]; exact n1
  have v8 : ∀ s, s < nS σ → iR ρ8 (31, 7, 0) s = bI (insW σ s) := by rw [(a8' (31, 7, 0) (by simp)).2.1]; exact v1
  have f8 : ∀ j, iR ρ8 (3, 0, 0) j = if j = 5 then -1 else if j = 4 then -1 else if j = 3 then -1 else if j = 2 then 0 else iR ρ (3, 0, 0) j := by
    intro j
    rw [e8, iR_pI, iR_pI, iR_pI, iR_pI, (a1 (3, 0, 0) (by simp)).2.1]
    simp
  have hR8 : RWr ρ8 σ := RWr_ag hR (Ag_mono a8 (fun _ => PCo_nW))
  have m81 : nS σ ≤ nR ρ8 (33, 0, 0) := by rw [(a8 (33, 0, 0) (by simp [PCo])).1]; exact hM1
  have m82 : ∀ s, s < nS σ → iR ρ8 (33, 0, 0) s = bI (aimW σ s) := by rw [(a8 (33, 0, 0) (by simp [PCo])).2.1]; exact hM2
  rw [nI_clamp (by omega), v8 _ hB, bI_0]
  refine ⟨in_nI (by omega) (by omega), fun z => ?_, fun z => ?_⟩
  · refine c_tell hG (fun ad => ⟨rfl, fun ad => ?_⟩)
    refine k ad _ ⟨1, none, none, none, Or.inl ⟨rfl, z, rfl, rfl, rfl⟩, ?_, ?_, ?_, ?_⟩ ?_ (Ag_tr a8 (Ag_tr (Ag_pI (Or.inl rfl)) (Ag_tr (Ag_pI (Or.inl rfl)) (Ag_pI (Or.inl rfl)))))
    · rw [iR_pI, if_neg (by simp), iR_pI, if_neg (by simp), iR_pI, if_pos ⟨rfl, rfl⟩]; rfl
    · rw [iR_pI, if_neg (by simp), iR_pI, if_pos ⟨rfl, rfl⟩]; rfl
    · rw [iR_pI, if_pos ⟨rfl, rfl⟩]; rfl
    · rw [iR_pI, if_neg (by simp), iR_pI, if_neg (by simp), iR_pI, if_neg (by simp), f8]; rfl
    · rw [iR_pI, if_neg (by simp), iR_pI, if_neg (by simp), iR_pI, if_neg (by simp), f8]; simp
  · have hinB : insW σ (dB σ) = true := by
      cases h : insW σ (dB σ) with
      | true => rfl
      | false => exact absurd h z
    -- the last loop: the aim inside
    have k76 : (∀ s a kk, s < nS σ → ¬ lvW σ s a kk) → ∀ dd s, s + dd = nS σ → (∀ u, u < s → ¬ (insW σ u = true ∧ aimW σ u = true)) → Y G [31] ad0 M Q 76 (fun ad => [(0, .ref (ad (3, 0, 0))), (1, .ref (ad (1, 0, 0))), (2, .ref (ad (33, 0, 0))), (4, .int (nI s))]) (fun ad => []) ρ8 := by
      intro hno dd
      induction dd with
      | zero =>
        intro s hdd hu
        have es : s = nS σ := by omega
        subst es
        refine T_Co_judge_76 hG hM _ ρ8 ⟨fun _ ad => k ad ρ8 ⟨0, none, none, none, Or.inr ⟨hinB, Or.inr ⟨hno, rfl, rfl, Or.inr ⟨rfl, rfl, hu⟩⟩⟩, ?_, ?_, ?_, ?_⟩ (by rw [f8]; simp) a8, fun y => absurd (by rw [hR8.1.2.1]; exact (nI_leI (by omega) (by omega)).mpr (Nat.le_refl _)) y⟩
        · rw [f8]; rfl
        · rw [f8]; rfl
        · rw [f8]; rfl
        · rw [f8]; rfl
      | succ dd ih =>
        intro s hdd hu
        have hs : s < nS σ := by omega
        have nxt : ¬ (insW σ s = true ∧ aimW σ s = true) → Y G [31] ad0 M Q 76 (fun ad => [(0, .ref (ad (3, 0, 0))), (1, .ref (ad (1, 0, 0))), (2, .ref (ad (33, 0, 0))), (4, .int (nI (s + 1)))]) (fun ad => []) ρ8 := fun h => ih (s + 1) (by omega) (fun u hu2 => by
          by_cases e : u = s
          · rw [e]; exact h
          · exact hu u (by omega))
        refine T_Co_judge_76 hG hM _ ρ8 ⟨fun y => absurd (by rw [hR8.1.2.1] at y; exact (nI_leI (by omega) (by omega)).mp y) (by omega), fun _ => ⟨in_nI (by omega) (by omega), ?_⟩⟩
        rw [nI_clamp (by omega), v8 s hs, m82 s hs, nI_1, bI_0, bI_0]
        refine ⟨fun y => nxt (fun h => by rw [h.1] at y; cases y), fun y => ⟨in_nI (by omega) (by omega), fun x => nxt (fun h => by rw [h.2] at x; cases x), fun x => ?_⟩⟩
        have y : insW σ s = true := by
          cases h : insW σ s with
          | true => rfl
          | false => exact absurd h y
        have x : aimW σ s = true := by
          cases h : aimW σ s with
          | true => rfl
          | false => exact absurd h x
        refine c_tell hG (fun ad => ⟨rfl, fun ad => ?_⟩)
        refine k ad _ ⟨3, some s, none, none, Or.inr ⟨hinB, Or.inr ⟨hno, rfl, rfl, Or.inl ⟨s, rfl, rfl, hs, y, x, hu⟩⟩⟩, ?_, ?_, ?_, ?_⟩ ?_ (Ag_tr a8 (Ag_tr (Ag_pI (Or.inl rfl)) (Ag_tr (Ag_pI (Or.inl rfl)) (Ag_pI (Or.inl rfl)))))
        · rw [iR_pI, if_neg (by simp), iR_pI, if_neg (by simp), iR_pI, if_pos ⟨rfl, rfl⟩]; rfl
        · rw [iR_pI, if_neg (by simp), iR_pI, if_pos ⟨rfl, rfl⟩]; rfl
        · rw [iR_pI, if_pos ⟨rfl, rfl⟩]; rfl
        · rw [iR_pI, if_neg (by simp), iR_pI, if_neg (by simp), iR_pI, if_neg (by simp), f8]; rfl
        · rw [iR_pI, if_neg (by simp), iR_pI, if_neg (by simp), iR_pI, if_neg (by simp), f8]; simp
    have k37 : ∀ dd s, s + dd = nS σ → (∀ u a kk, u < s → ¬ lvW σ u a kk) → Y G [31] ad0 M Q 37 (fun ad => [(0, .ref (ad (3, 0, 0))), (1, .ref (ad (1, 0, 0))), (2, .ref (ad (33, 0, 0))), (4, .int (nI s))]) (fun ad => []) ρ8 := by
      intro dd
      induction dd with
      | zero =>
        intro s hdd hu
        have es : s = nS σ := by omega
        subst es
        refine T_Co_judge_37 hG hM _ ρ8 ⟨fun _ => ?_, fun y => absurd (by rw [hR8.1.2.1]; exact (nI_leI (by omega) (by omega)).mpr (Nat.le_refl _)) y⟩
        exact k76 (fun s a kk hs => hu s a kk hs) (nS σ) 0 (by omega) (fun u h => absurd h (by omega))
      | succ dd ih =>
        intro s hdd hu
        have hs : s < nS σ := by omega
        have nxt : (∀ a kk, ¬ lvW σ s a kk) → Y G [31] ad0 M Q 37 (fun ad => [(0, .ref (ad (3, 0, 0))), (1, .ref (ad (1, 0, 0))), (2, .ref (ad (33, 0, 0))), (4, .int (nI (s + 1)))]) (fun ad => []) ρ8 := fun h => ih (s + 1) (by omega) (fun u a kk hu2 => by
          by_cases e : u = s
          · rw [e]; exact h a kk
          · exact hu u a kk (by omega))
        refine T_Co_judge_37 hG hM _ ρ8 ⟨fun y => absurd (by rw [hR8.1.2.1] at y; exact (nI_leI (by omega) (by omega)).mp y) (by omega), fun _ => ⟨in_nI (by omega) (by omega), ?_⟩⟩
        rw [nI_clamp (by omega), v8 s hs, nI_1, bI_0]
        refine ⟨fun y => nxt (fun a kk h => by rw [h.2.2.1] at y; cases y), fun y => ?_⟩
        have y : insW σ s = true := by
          cases h : insW σ s with
          | true => rfl
          | false => exact absurd h y
        refine c_leavesFrom hG hR8 hs y n8 v8 (fun ad a kk hl hf => ⟨_, rfl, fun x => absurd x (by decide), fun _ ad => ?_⟩) (fun ad hno => ⟨_, rfl, fun _ => nxt hno, fun x => absurd rfl x⟩)
        refine k ad _ ⟨2, some s, some a, some kk, Or.inr ⟨hinB, Or.inl ⟨s, a, kk, rfl, rfl, rfl, rfl, hs, hl, fun s' a' k' hs' ho => ?_⟩⟩, ?_, ?_, ?_, ?_⟩ ?_ (Ag_tr a8 (Ag_tr (Ag_pI (Or.inl rfl)) (Ag_tr (Ag_pI (Or.inl rfl)) (Ag_tr (Ag_pI (Or.inl rfl)) (Ag_pI (Or.inl rfl))))))
        · rcases ho with o | ⟨o1, o2⟩
          · exact hu s' a' k' o
          · subst o1; exact hf a' k' o2
        · rw [iR_pI, if_neg (by simp), iR_pI, if_neg (by simp), iR_pI, if_neg (by simp), iR_pI, if_pos ⟨rfl, rfl⟩]; rfl
        · rw [iR_pI, if_neg (by simp), iR_pI, if_neg (by simp), iR_pI, if_pos ⟨rfl, rfl⟩]; rfl
        · rw [iR_pI, if_neg (by simp), iR_pI, if_pos ⟨rfl, rfl⟩]; rfl
        · rw [iR_pI, if_pos ⟨rfl, rfl⟩]; rfl
        · rw [iR_pI, if_neg (by simp), iR_pI, if_neg (by simp), iR_pI, if_neg (by simp), iR_pI, if_neg (by simp), f8]; simp
    exact k37 (nS σ) 0 (by omega) (fun u a kk h => absurd h (by omega))
end B28
