/-! THE REFERENCE ANSWERS: flaw -/
def PFl (q : Ro) : Prop := q = (40, 0, 0) ∨ q = (41, 10, 0) ∨ q = (41, 34, 0)
theorem PFl_Mo {q : Ro} (h : PFl q) : PMo q := by rcases h with h | h | h <;> rw [h] <;> (unfold PMo; decide)
/-- only the flaw's numbers, the open state and what is covered change -/
def FlS (ρ ρ' : Rs) : Prop := Ag PFl ρ ρ' ∧ ∀ j, j < 35 → iR ρ' (40, 0, 0) j = iR ρ (40, 0, 0) j
theorem FlS_tr {ρ ρ1 ρ2 : Rs} (h : FlS ρ ρ1) (h' : FlS ρ1 ρ2) : FlS ρ ρ2 := ⟨Ag_tr h.1 h'.1, fun j hj => (h'.2 j hj).trans (h.2 j hj)⟩
theorem FlS_ag {ρ ρ1 : Rs} {P : Ro → Prop} (h : Ag P ρ ρ1) (hp : ∀ q, P q → q = (41, 10, 0) ∨ q = (41, 34, 0)) : FlS ρ ρ1 := ⟨Ag_mono h (fun q hq => Or.inr (hp q hq)), fun j _ => by rw [(h (40, 0, 0) (fun z => by rcases hp _ z with y | y <;> exact absurd y (by decide))).2.1]⟩
theorem FlS_s {ρ ρ1 : Rs} {j : Nat} {x : Int32} (hj : 35 ≤ j) (e : ρ1 = pI ρ (40, 0, 0) j x) : FlS ρ ρ1 := ⟨by rw [e]; exact Ag_pI (Or.inl rfl), fun i hi => by rw [e, iR_pI, if_neg (fun z => by have := z.2; omega)]⟩
theorem RMo_fl {ρ ρ' : Rs} {σ : Wd} (h : RMo ρ σ) (hf : FlS ρ ρ') : RMo ρ' σ := by
  obtain ⟨hB, hl, hp⟩ := h
  obtain ⟨ha, hi⟩ := hf
  refine ⟨MB_ag hB ha (fun j hj => hi j (by omega)) (fun f hf => by simp [PFl]; omega), fun z => ?_, fun z => ?_⟩
  · rw [hi 12 (by omega)] at z
    exact ML_of (hl z) (hi 13 (by omega)) (fun f f1 f2 => (ha (41, f, 0) (by simp [PFl]; omega)).2.1)
  · rw [hi 26 (by omega)] at z
    exact MP_of (hp z) (hi 32 (by omega)) (ha (41, 27, 0) (by simp [PFl])).2.1
theorem ML_fl {ρ ρ' : Rs} {σ : Wd} (h : ML ρ σ) (hf : FlS ρ ρ') : ML ρ' σ := ML_of h (hf.2 13 (by omega)) (fun f f1 f2 => (hf.1 (41, f, 0) (by simp [PFl]; omega)).2.1)
/-- by the number x of an outcome -/
def lvX (σ : Wd) (s x : Nat) : Prop := x < 3 * dA σ ∧ insW σ s = true ∧ ∃ t, nxX σ s x = some t ∧ insW σ t = false
theorem lvX_of {σ : Wd} {s a k : Nat} (h3 : ∀ a, a < dA σ → dO σ a ≤ 3) (h : lvW σ s a k) : lvX σ s (3 * a + k) ∧ k < 3 := by
  obtain ⟨ha, hk, h1, t, h2, h4⟩ := h
  have := h3 a ha
  exact ⟨⟨by omega, h1, t, by rw [nxX_ak hk this]; exact h2, h4⟩, by omega⟩
theorem lvW_of {σ : Wd} {s x : Nat} (h : lvX σ s x) : lvW σ s (x / 3) (x % 3) := by
  obtain ⟨hx, h1, t, h2, h4⟩ := h
  unfold nxX at h2
  split at h2
  · exact ⟨by omega, by assumption, h1, t, h2, h4⟩
  · cases h2
section B62
variable {G : Gc} {ρ : Rs} {K : (Ro → Nat) → Option Value → Rs → Prop}
theorem c_isCovered (hG : gok G) {σ : Wd} {s : Nat} (h : MB ρ σ) (hW : Wok σ) (hs : s < 2 ^ 31) (k : ∀ ad ρ', Ag (fun q => q = (41, 10, 0)) ρ ρ' → K ad (some (.int (bI (insW σ s)))) ρ') : semV G r_Mo_isCovered [] (fun ad => [.ref (ad (40, 0, 0)), .int (nI s)]) ρ K := by
  have hP6 := hW.2.2.2.2.2.2.1
  refine semV_intro yk_Mo_isCovered.2.2.2.2 (fun _ => Nat.le_of_ble_eq_true rfl) (fun M Q ad0 hM => ?_)
  refine T_Mo_isCovered_0 hG hM _ ρ ?_
  refine c_Mo_open hG h.1 hs (fun ad ρ1 o1 o2 => ⟨rfl, ?_⟩)
  have h1 : MB ρ1 σ := MB_ag h o2 (fun j _ => by rw [(o2 (40, 0, 0) (by simp)).2.1]) (fun f hf => by simp; omega)
  have key : ∀ (dd p : Nat), p + dd = dP σ → (∀ p', p' < p → ¬ holdW σ (dC σ (13 + p')) s = true) → Y G [] ad0 M Q 7 (fun ad => [(0, .ref (ad (40, 0, 0))), (2, .int (nI p))]) (fun ad => []) ρ1 := by
    intro dd
    induction dd with
    | zero =>
      intro p hp hno
      refine T_Mo_isCovered_7 hG hM _ ρ1 ⟨fun _ ad => ?_, fun z => absurd (by rw [h1.2.2.2.2.2.2]; exact (nI_leI (by omega) (by omega)).mpr (by omega)) z⟩
      have hf : insW σ s = false := by
        cases hx : insW σ s with
        | false => rfl
        | true =>
          obtain ⟨p', q1, q2⟩ := insW_iff.mp hx
          exact absurd q2 (hno p' (by omega))
      have := k ad ρ1 o2
      rw [hf] at this
      exact this
    | succ dd ih =>
      intro p hp hno
      have e13 : (13 : Int32) + nI p = nI (13 + p) := nI_ad 13 p
      refine T_Mo_isCovered_7 hG hM _ ρ1 ⟨fun z => absurd (by rw [h1.2.2.2.2.2.2] at z; exact (nI_leI (by omega) (by omega)).mp z) (by omega), fun _ => ?_⟩
      rw [e13, nI_1 p]
      have hr : rwv σ (13 + p) := Or.inr (Or.inr ⟨by omega, by omega⟩)
      refine c_Mo_hold (s := s) hG h1.1 (by omega) (h1.2.2.2.2.1 (13 + p) hr) (hW.2.2.2.2.2.2.2.1 (13 + p) hr).2 o1 (fun ad => ⟨_, rfl, fun z => ?_, fun z ad => ?_⟩)
      · refine ih (p + 1) (by omega) (fun p' hp' hh => ?_)
        by_cases e : p' = p
        · rw [e] at hh; rw [if_pos hh] at z; exact absurd z (by decide)
        · exact hno p' (by omega) hh
      · have hh : holdW σ (dC σ (13 + p)) s = true := Classical.byContradiction (fun y => z (by rw [if_neg y]))
        have := k ad ρ1 o2
        rw [insW_iff.mpr ⟨p, by omega, hh⟩] at this
        exact this
  exact key (dP σ) 0 (by omega) (fun p' hp' => absurd hp' (by omega))
theorem c_findFlaw (hG : gok G) {σ : Wd} (h : RMo ρ σ) (hW : Wok σ) (k : ∀ ad ρ' n fs fx, RMo ρ' σ → isFl σ n fs (fx.map (· / 3)) (fx.map (· % 3)) → (∀ x, fx = some x → x < 36) → iR ρ' (40, 0, 0) 35 = oI fs → iR ρ' (40, 0, 0) 36 = oI fx → Ag PMo ρ ρ' → K ad (some (.int (nI n))) ρ') : semV G r_Mo_findFlaw [] (fun ad => [.ref (ad (40, 0, 0))]) ρ K := by
  have hN := hW.2.2.1
  have hB := hW.2.2.2.1
  have h12 := hW.2.2.2.2.1
  have h3 : ∀ a, a < dA σ → dO σ a ≤ 3 := fun a ha => (hW.2.2.2.2.2.1 a ha).2
  refine semV_intro yk_Mo_findFlaw.2.2.2.2 (fun _ => Nat.le_of_ble_eq_true rfl) (fun M Q ad0 hM => ?_)
  refine T_Mo_findFlaw_0 hG hM ρ ?_
  refine c_Mo_lay hG h hW (fun ad ρ1 hr hl hag => ⟨rfl, fun ρ4 e4 ρ5 e5 => ?_⟩)
  have f5 : FlS ρ1 ρ5 := FlS_tr (FlS_s (by omega) e4) (FlS_s (by omega) e5)
  have r5 := RMo_fl hr f5
  have x35 : iR ρ5 (40, 0, 0) 35 = -1 := by rw [e5, iR_pI, if_neg (by simp), e4, iR_pI, if_pos ⟨rfl, rfl⟩]
  have x36 : iR ρ5 (40, 0, 0) 36 = -1 := by rw [e5, iR_pI, if_pos ⟨rfl, rfl⟩]
  have endK : ∀ ρ', FlS ρ1 ρ' → Ag PMo ρ ρ' := fun ρ' hf => Ag_tr hag (Ag_mono hf.1 (fun _ => PFl_Mo))
  rw [r5.1.2.1]
  refine c_isCovered hG r5.1 hW (by omega) (fun ad ρ6 b6 => ⟨_, rfl, fun z ad => ?_, fun z => ?_⟩)
  · have f6 := FlS_tr f5 (FlS_ag b6 (fun q e => Or.inl e))
    have i6 := (b6 (40, 0, 0) (by simp)).2.1
    exact k ad ρ6 1 none none (RMo_fl hr f6) (Or.inl ⟨rfl, bI_0.mp z, rfl, rfl, rfl⟩) (fun x hx => by cases hx) (by rw [i6]; exact x35) (by rw [i6]; exact x36) (endK ρ6 f6)
  · have hin : insW σ (dB σ) = true := bnf (fun y => z (bI_0.mpr y))
    have f6 := FlS_tr f5 (FlS_ag b6 (fun q e => Or.inl e))
    have y35 : iR ρ6 (40, 0, 0) 35 = -1 := by rw [(b6 (40, 0, 0) (by simp)).2.1]; exact x35
    have y36 : iR ρ6 (40, 0, 0) 36 = -1 := by rw [(b6 (40, 0, 0) (by simp)).2.1]; exact x36
    -- an aim's state within
    have k137 : ∀ (ρ2 : Rs), FlS ρ1 ρ2 → iR ρ2 (40, 0, 0) 35 = -1 → iR ρ2 (40, 0, 0) 36 = -1 → (∀ s, s < nS σ → iR ρ2 (41, 34, 0) s = bI (insW σ s)) → (∀ s a kk, s < nS σ → ¬ lvW σ s a kk) → ∀ (dd s : Nat), s + dd = nS σ → (∀ s', s' < s → ¬ (insW σ s' = true ∧ aimW σ s' = true)) → Y G [] ad0 M Q 137 (fun ad => [(0, .ref (ad (40, 0, 0))), (1, .int (nI s))]) (fun ad => []) ρ2 := by
      intro ρ2 f2 w35 w36 w34 hlv dd
      have hl2 := ML_fl hl f2
      induction dd with
      | zero =>
        intro s hs hno
        refine T_Mo_findFlaw_137 hG hM _ ρ2 ⟨fun _ ad => ?_, fun z => absurd (by rw [hl2.1]; exact (nI_leI (by omega) (by omega)).mpr (by omega)) z⟩
        exact k ad ρ2 0 none none (RMo_fl hr f2) (Or.inr ⟨hin, Or.inr ⟨hlv, rfl, rfl, Or.inr ⟨rfl, rfl, fun s' hs' => hno s' (by omega)⟩⟩⟩) (fun x hx => by cases hx) w35 w36 (endK ρ2 f2)
      | succ dd ih =>
        intro s hs hno
        have hsN : s < nS σ := by omega
        have nx : ¬ (insW σ s = true ∧ aimW σ s = true) → Y G [] ad0 M Q 137 (fun ad => [(0, .ref (ad (40, 0, 0))), (1, .int (nI (s + 1)))]) (fun ad => []) ρ2 := fun hx => ih (s + 1) (by omega) (fun s' hs' => by
          by_cases e : s' = s
          · rw [e]; exact hx
          · exact hno s' (by omega))
        refine T_Mo_findFlaw_137 hG hM _ ρ2 ⟨fun z => absurd (by rw [hl2.1] at z; exact (nI_leI (by omega) (by omega)).mp z) (by omega), fun _ => ⟨vp_in_nI (by omega) (by omega), ?_⟩⟩
        rw [nI_clamp (n := s) (by omega), w34 s hsN, hl2.2.2.1 s hsN, bI_0, bI_0, nI_1 s]
        refine ⟨fun z => nx (fun y => by rw [z] at y; cases y.1), fun z => ⟨vp_in_nI (by omega) (by omega), fun y => nx (fun x => by rw [y] at x; cases x.2), fun y ρ3 e3 ad => ?_⟩⟩
        have f3 := FlS_tr f2 (FlS_s (by omega) e3)
        exact k ad ρ3 3 (some s) none (RMo_fl hr f3) (Or.inr ⟨hin, Or.inr ⟨hlv, rfl, rfl, Or.inl ⟨s, rfl, rfl, hsN, bnf z, bnf y, hno⟩⟩⟩) (fun x hx => by cases hx) (by rw [e3, iR_pI, if_pos ⟨rfl, rfl⟩]; rfl) (by rw [e3, iR_pI, if_neg (by simp)]; exact w36) (endK ρ3 f3)
    -- a step out
    have k56 : ∀ (ρ2 : Rs), FlS ρ1 ρ2 → iR ρ2 (40, 0, 0) 35 = -1 → iR ρ2 (40, 0, 0) 36 = -1 → (∀ s, s < nS σ → iR ρ2 (41, 34, 0) s = bI (insW σ s)) → ∀ (dd s : Nat), s + dd = nS σ → (∀ s' a kk, s' < s → ¬ lvW σ s' a kk) → Y G [] ad0 M Q 56 (fun ad => [(0, .ref (ad (40, 0, 0))), (1, .int (nI s))]) (fun ad => []) ρ2 := by
      intro ρ2 f2 w35 w36 w34 dd
      have hl2 := ML_fl hl f2
      have r2 := RMo_fl hr f2
      induction dd with
      | zero =>
        intro s hs hno
        refine T_Mo_findFlaw_56 hG hM _ ρ2 ⟨fun _ => ?_, fun z => absurd (by rw [hl2.1]; exact (nI_leI (by omega) (by omega)).mpr (by omega)) z⟩
        exact k137 ρ2 f2 w35 w36 w34 (fun s' a kk hs' => hno s' a kk (by omega)) (nS σ) 0 (by omega) (fun s' hs' => absurd hs' (by omega))
      | succ dd ih =>
        intro s hs hno
        have hsN : s < nS σ := by omega
        refine T_Mo_findFlaw_56 hG hM _ ρ2 ⟨fun z => absurd (by rw [hl2.1] at z; exact (nI_leI (by omega) (by omega)).mp z) (by omega), fun _ => ?_⟩
        have nx : (∀ x, ¬ lvX σ s x) → Y G [] ad0 M Q 56 (fun ad => [(0, .ref (ad (40, 0, 0))), (1, .int (nI (s + 1)))]) (fun ad => []) ρ2 := fun hx => ih (s + 1) (by omega) (fun s' a kk hs' hlv => by
          by_cases e : s' = s
          · rw [e] at hlv; exact hx _ (lvX_of h3 hlv).1
          · exact hno s' a kk (by omega) hlv)
        have k66 : ∀ (dx x : Nat), x + dx = 3 * dA σ → (∀ y, y < x → ¬ lvX σ s y) → Y G [] ad0 M Q 66 (fun ad => [(0, .ref (ad (40, 0, 0))), (1, .int (nI s)), (2, .int (nI x))]) (fun ad => []) ρ2 := by
          intro dx
          induction dx with
          | zero =>
            intro x hx hy
            refine T_Mo_findFlaw_66 hG hM _ _ ρ2 ⟨fun _ => ?_, fun z => absurd (by rw [r2.1.2.2.1, mul3]; exact (nI_leI (by omega) (by omega)).mpr (by omega)) z⟩
            rw [nI_1 s]
            exact nx (fun y hlv => hy y (by have := hlv.1; omega) hlv)
          | succ dx ih2 =>
            intro x hx hy
            have hxA : x < 3 * dA σ := by omega
            have st : ¬ lvX σ s x → Y G [] ad0 M Q 66 (fun ad => [(0, .ref (ad (40, 0, 0))), (1, .int (nI s)), (2, .int (nI (x + 1)))]) (fun ad => []) ρ2 := fun hno2 => ih2 (x + 1) (by omega) (fun y hy2 => by
              by_cases e : y = x
              · rw [e]; exact hno2
              · exact hy y (by omega))
            refine T_Mo_findFlaw_66 hG hM _ _ ρ2 ⟨fun z => absurd (by rw [r2.1.2.2.1, mul3] at z; exact (nI_leI (by omega) (by omega)).mp z) (by omega), fun _ => ⟨vp_in_nI (by omega) (by omega), ?_⟩⟩
            rw [nI_clamp (n := s) (by omega), w34 s hsN, bI_0, mul36, nI_clamp (n := 36 * s + x) (by omega), hl2.2.1 s x hsN hxA, nI_1 s, nI_1 x]
            refine ⟨fun z => nx (fun y hlv => by have := hlv.2.1; rw [z] at this; cases this), fun z => ⟨vp_in_nI (by omega) (by omega), ?_⟩⟩
            cases ht : nxX σ s x with
            | none => exact ⟨fun _ => st (fun ⟨_, _, t, y, _⟩ => by rw [ht] at y; cases y), fun z => absurd rfl z⟩
            | some t =>
              have htN := nxX_lt hW hxA ht
              refine ⟨fun z => absurd z (nI_m1 (by omega)), fun _ => ⟨vp_in_nI (n := t) (by omega) (by omega), ?_⟩⟩
              show (iR ρ2 (41, 34, 0) (Int32.toNatClampNeg (nI t)) = 0 → _) ∧ (¬ iR ρ2 (41, 34, 0) (Int32.toNatClampNeg (nI t)) = 0 → _)
              rw [nI_clamp (n := t) (by omega), w34 t htN, bI_0]
              refine ⟨fun y ρ3 e3 ρ7 e7 ad => ?_, fun y => st (fun ⟨_, _, u, hu, hu2⟩ => ?_)⟩
              · have f7 := FlS_tr (FlS_tr f2 (FlS_s (by omega) e3)) (FlS_s (by omega) e7)
                have hlx : lvX σ s x := ⟨hxA, bnf z, t, ht, y⟩
                refine k ad ρ7 2 (some s) (some x) (RMo_fl hr f7) (Or.inr ⟨hin, Or.inl ⟨s, x / 3, x % 3, rfl, rfl, rfl, rfl, hsN, lvW_of hlx, fun s' a' k' hs' hlt hlv => ?_⟩⟩) (fun x' hx' => by cases hx'; omega) (by rw [e7, iR_pI, if_neg (by simp), e3, iR_pI, if_pos ⟨rfl, rfl⟩]; rfl) (by rw [e7, iR_pI, if_pos ⟨rfl, rfl⟩]; rfl) (endK ρ7 f7)
                rcases hlt with q | ⟨q, q2⟩
                · exact hno s' a' k' q hlv
                · obtain ⟨g1, g2⟩ := lvX_of h3 hlv
                  rw [q] at g1
                  exact hy _ (by omega) g1
              · rw [ht] at hu
                cases hu
                exact y hu2
        exact k66 (3 * dA σ) 0 (by omega) (fun y hy => absurd hy (by omega))
    -- what is covered
    have k29 : ∀ (dd s : Nat) (ρ2 : Rs), s + dd = nS σ → FlS ρ1 ρ2 → iR ρ2 (40, 0, 0) 35 = -1 → iR ρ2 (40, 0, 0) 36 = -1 → (∀ u, u < s → iR ρ2 (41, 34, 0) u = bI (insW σ u)) → Y G [] ad0 M Q 29 (fun ad => [(0, .ref (ad (40, 0, 0))), (1, .int (nI s))]) (fun ad => []) ρ2 := by
      intro dd
      induction dd with
      | zero =>
        intro s ρ2 hs f2 w35 w36 w34
        have hl2 := ML_fl hl f2
        refine T_Mo_findFlaw_29 hG hM _ ρ2 ⟨fun _ => ?_, fun z => absurd (by rw [hl2.1]; exact (nI_leI (by omega) (by omega)).mpr (by omega)) z⟩
        exact k56 ρ2 f2 w35 w36 (fun u hu => w34 u (by omega)) (nS σ) 0 (by omega) (fun s' a kk hs' => absurd hs' (by omega))
      | succ dd ih =>
        intro s ρ2 hs f2 w35 w36 w34
        have hl2 := ML_fl hl f2
        have r2 := RMo_fl hr f2
        refine T_Mo_findFlaw_29 hG hM _ ρ2 ⟨fun z => absurd (by rw [hl2.1] at z; exact (nI_leI (by omega) (by omega)).mp z) (by omega), fun _ => ?_⟩
        refine c_isCovered hG r2.1 hW (by omega) (fun ad ρ3 b3 => ⟨_, rfl, vp_in_nI (by omega) (by omega), bI_nb _, ?_⟩)
        rw [nI_clamp (n := s) (by omega), nI_1 s]
        intro ρ7 e7
        have b7 : Ag (fun q => q = (41, 10, 0) ∨ q = (41, 34, 0)) ρ2 ρ7 := Ag_tr (Ag_mono b3 (fun q e => Or.inl e)) (by rw [e7]; exact Ag_pI (Or.inr rfl))
        refine ih (s + 1) ρ7 (by omega) (FlS_tr f2 (FlS_ag b7 (fun q e => e))) (by rw [(b7 (40, 0, 0) (by simp)).2.1]; exact w35) (by rw [(b7 (40, 0, 0) (by simp)).2.1]; exact w36) (fun u hu => ?_)
        rw [e7, iR_pI]
        by_cases e : u = s
        · rw [if_pos ⟨rfl, e⟩, e]
        · rw [if_neg (fun z => e z.2), (b3 (41, 34, 0) (by simp)).2.1]; exact w34 u (by omega)
    exact k29 (nS σ) 0 ρ6 (by omega) f6 y35 y36 (fun u hu => absurd hu (by omega))
theorem cM_flaw (hG : gok G) {σ : Wd} {w : Int32} (h : RMo ρ σ) (hW : Wok σ) (k : ∀ ad ρ' r, RMo ρ' σ → anFl σ w r → Ag PMo ρ ρ' → K ad (some (.int r)) ρ') : semV G r_Mo_flaw [] (fun ad => [.ref (ad (40, 0, 0)), .int w]) ρ K := by
  refine semV_intro yk_Mo_flaw.2.2.2.2 (fun _ => Nat.le_of_ble_eq_true rfl) (fun M Q ad0 hM => ?_)
  refine T_Mo_flaw_0 hG hM _ ρ ?_
  refine c_isIn hG (fun hw ad => ⟨_, rfl, fun z => absurd z (by decide), fun _ => ?_⟩) (fun hw ad => ⟨_, rfl, fun _ ad => k ad ρ _ h (Or.inl ⟨fun z => hw (in_4.mpr z), rfl⟩) Ag_rf, fun z => absurd rfl z⟩)
  refine c_findFlaw hG h hW (fun ad ρ1 n fs fx hr hf hx x35 x36 hag => ⟨_, rfl, fun z9 e9 ad => ?_⟩)
  refine k ad ρ1 _ hr (Or.inr ⟨n, fs, _, _, hf, ?_⟩) hag
  rw [x35, x36] at e9
  obtain ⟨z, hz, ez⟩ := vp_in_of (in_4.mp hw) (by omega)
  have hz4 : z = 0 ∨ z = 1 ∨ z = 2 ∨ z = 3 := by omega
  rcases hz4 with y | y | y | y <;> subst y
  · left; exact ⟨ez, by rw [e9, if_pos (show w = 0 from ez)]⟩
  · right; left; exact ⟨ez, by rw [e9, if_neg (by rw [ez]; decide), if_pos (show w = 1 from ez)]⟩
  · right; right; left
    refine ⟨ez, ?_⟩
    rw [e9, if_neg (by rw [ez]; decide), if_neg (by rw [ez]; decide)]
    cases fx with
    | none => rw [if_pos (by rfl)]; rfl
    | some x =>
      have := hx x rfl
      show (if nI x = -1 then (-1 : Int32) else if w = 2 then nI x / 3 else _) = nI (x / 3)
      rw [if_neg (nI_m1 (by omega)), if_pos (show w = 2 from ez), div3 (by omega)]
  · right; right; right
    refine ⟨ez, ?_⟩
    rw [e9, if_neg (by rw [ez]; decide), if_neg (by rw [ez]; decide)]
    cases fx with
    | none => rw [if_pos (by rfl)]; rfl
    | some x =>
      have := hx x rfl
      show (if nI x = -1 then (-1 : Int32) else if w = 2 then nI x / 3 else nI x - nI x / 3 * 3) = nI (x % 3)
      rw [if_neg (nI_m1 (by omega)), if_neg (by rw [ez]; decide), rem3 (by omega)]
end B62
