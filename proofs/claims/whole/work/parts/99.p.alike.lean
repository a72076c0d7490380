/-! THE REFERENCE: are two states alike, as the pieces stand; signs -/
/-- x is among the first n of f -/
def bef (f : Nat → Nat) (x : Nat) : Nat → Bool
  | 0 => false
  | n + 1 => bef f x n || (f n == x)
theorem bef_iff {f : Nat → Nat} {x : Nat} : ∀ {n : Nat}, bef f x n = true ↔ ∃ j, j < n ∧ f j = x
  | 0 => ⟨fun z => (by cases z), fun ⟨j, hj, _⟩ => absurd hj (by omega)⟩
  | n + 1 => by
    show (bef f x n || (f n == x)) = true ↔ _
    rw [Bool.or_eq_true, bef_iff (n := n), beq_iff_eq]
    constructor
    · rintro (⟨j, hj, e⟩ | e)
      · exact ⟨j, by omega, e⟩
      · exact ⟨n, by omega, e⟩
    · rintro ⟨j, hj, e⟩
      by_cases ej : j = n
      · subst ej; exact Or.inr e
      · exact Or.inl ⟨j, by omega, e⟩
def dsN (f : Nat → Nat) (n : Nat) : Nat := sm (fun k => if bef f (f k) k = true then 0 else (f k + 3) * 1099511628211) n
theorem dsN_eq {f : Nat → Nat} : ∀ {n : Nat}, (∀ k, k < n → f k < 4096) → dsN f n = sm (fun v => if bef f v n = true then (v + 3) * 1099511628211 else 0) 4096
  | 0, _ => (sm_zero (fun v _ => if_neg (by simp [bef]))).symm
  | n + 1, h => by
    have ih := dsN_eq (f := f) (n := n) (fun k hk => h k (by omega))
    show dsN f n + (if bef f (f n) n = true then 0 else (f n + 3) * 1099511628211) = _
    rw [ih]
    by_cases hb : bef f (f n) n = true
    · rw [if_pos hb, Nat.add_zero]
      refine sm_congr (fun v _ => ?_)
      have : bef f v (n + 1) = bef f v n := by
        show (bef f v n || (f n == v)) = bef f v n
        by_cases ev : f n = v
        · subst ev; rw [hb]; rfl
        · rw [beq_false_of_ne ev, Bool.or_false]
      rw [this]
    · rw [if_neg hb]
      refine (sm_one (x := f n) (h n (by omega)) (fun j _ hj => ?_) ?_).symm
      · have : bef f j (n + 1) = bef f j n := by
          show (bef f j n || (f n == j)) = bef f j n
          rw [beq_false_of_ne (fun z => hj z.symm), Bool.or_false]
        rw [this]
      · have : bef f (f n) (n + 1) = true := bef_iff.mpr ⟨n, by omega, rfl⟩
        rw [this, if_neg hb]; simp
theorem dsN_same {f f' : Nat → Nat} {n : Nat} (h : ∀ k, k < n → f k < 4096) (h' : ∀ k, k < n → f' k < 4096) (h1 : ∀ k, k < n → ∃ j, j < n ∧ f k = f' j) (h2 : ∀ j, j < n → ∃ k, k < n ∧ f k = f' j) : dsN f n = dsN f' n := by
  rw [dsN_eq h, dsN_eq h']
  refine sm_congr (fun v _ => ?_)
  have : bef f v n = bef f' v n := by
    rw [Bool.eq_iff_iff, bef_iff, bef_iff]
    constructor
    · rintro ⟨k, hk, e⟩
      obtain ⟨j, hj, e2⟩ := h1 k hk
      exact ⟨j, hj, by rw [← e2]; exact e⟩
    · rintro ⟨j, hj, e⟩
      obtain ⟨k, hk, e2⟩ := h2 j hj
      exact ⟨k, hk, by rw [e2]; exact e⟩
  rw [this]
def sgD (σ : Wd) (p : Nat → Nat) (s a : Nat) : Nat := if holdW σ (dC σ a) s = true then dsN (fun k => p (goA σ s a k)) (dO σ a) else 0
def mxL (v2 v5 : Int64) : Int64 := (((v2 * 31) + v5) * 1000003) ^^^ ((Int64.toUInt64 (((v2 * 31) + v5) * 1000003) >>> ((Int32.toInt64 29).toUInt64 &&& Int64.toUInt64 63)).toInt64)
def sgn (σ : Wd) (p : Nat → Nat) (s : Nat) : Nat → Int64
  | 0 => lN (p s + 1)
  | a + 1 => mxL (sgn σ p s a) (lN (1 + sgD σ p s a))
theorem goA_lt {σ : Wd} {s a k : Nat} (hW : Wok σ) (ha : a < dA σ) (hk : k < dO σ a) : goA σ s a k < nS σ := goW_lt hW.2.1 (hW.2.2.2.2.2.2.2.2 a k ha hk).2
/-- alike states have one sign -/
theorem sgn_same {σ : Wd} {p : Nat → Nat} {s q : Nat} (hW : Wok σ) (hp : ∀ u, u < nS σ → p u < 4096) (he : p s = p q) (hm : ∀ a, a < dA σ → mch σ (fun x y => p x = p y) s q a) : ∀ a, a ≤ dA σ → sgn σ p s a = sgn σ p q a
  | 0, _ => by
    show lN (p s + 1) = lN (p q + 1)
    rw [he]
  | a + 1, ha => by
    show mxL (sgn σ p s a) (lN (1 + sgD σ p s a)) = mxL (sgn σ p q a) (lN (1 + sgD σ p q a))
    rw [sgn_same hW hp he hm a (by omega)]
    obtain ⟨m1, m2⟩ := hm a (by omega)
    have : sgD σ p s a = sgD σ p q a := by
      unfold sgD
      by_cases hc : holdW σ (dC σ a) s = true
      · have hc' : holdW σ (dC σ a) q = true := m1.mp hc
        rw [if_pos hc, if_pos hc']
        obtain ⟨m3, m4⟩ := m2 hc
        exact dsN_same (fun k hk => hp _ (goA_lt hW (by omega) hk)) (fun k hk => hp _ (goA_lt hW (by omega) hk)) m3 m4
      · rw [if_neg hc, if_neg (show ¬ holdW σ (dC σ a) q = true from fun z => hc (m1.mpr z))]
    rw [this]
theorem bnf {b : Bool} (h : ¬ b = false) : b = true := by cases b <;> simp_all
theorem bI_oe (b : Bool) (c : Prop) [Decidable c] : (if bI b = 0 then (if c then (1 : Int32) else 0) else 1) = bI (b || decide c) := by
  cases b <;> by_cases h : c <;> simp [bI, h]
/-- the pieces' row -/
def MPr (ρ : Rs) (σ : Wd) (p : Nat → Nat) : Prop := ∀ s, s < nS σ → iR ρ (41, 27, 0) s = nI (p s) ∧ p s < 4096
section B57
variable {G : Gc} {ρ : Rs} {K : (Ro → Nat) → Option Value → Rs → Prop}
/-- where an outcome leads, by the row -/
theorem MR_to {σ : Wd} {s a k : Nat} (hR : MR ρ σ) (hW : Wok σ) (hs : s < nS σ) (ha : a < dA σ) (hk : k < dO σ a) : iR ρ (41, 14, 0) (36 * s + (3 * a + k)) = oI (nxW σ s a k) := by
  have ho := (hW.2.2.2.2.2.1 a ha).2
  rw [hR.2.1 s (3 * a + k) hs (by omega), nxX_ak hk ho]
theorem MR_go {σ : Wd} {s a k : Nat} (hR : MR ρ σ) (hW : Wok σ) (hs : s < nS σ) (ha : a < dA σ) (hk : k < dO σ a) (hc : canW σ s a) : iR ρ (41, 14, 0) (36 * s + (3 * a + k)) = nI (goA σ s a k) := by
  rw [MR_to hR hW hs ha hk, nx_some hc]; rfl
theorem MR_no {σ : Wd} {s a k : Nat} (hR : MR ρ σ) (hW : Wok σ) (hs : s < nS σ) (ha : a < dA σ) (hk : k < dO σ a) (hc : ¬ canW σ s a) : iR ρ (41, 14, 0) (36 * s + (3 * a + k)) = -1 := by
  rw [MR_to hR hW hs ha hk, nx_can.mpr hc]; rfl
theorem c_isOneWay (hG : gok G) {σ : Wd} {p : Nat → Nat} {s q a : Nat} (hO : ∀ a, a < dA σ → iR ρ (41, 4, 0) a = nI (dO σ a)) (hR : MR ρ σ) (hW : Wok σ) (hp : MPr ρ σ p) (hs : s < nS σ) (hq : q < nS σ) (ha : a < dA σ) (k1 : mch σ (fun x y => p x = p y) s q a → ∀ ad, K ad (some (.int 1)) ρ) (k0 : ¬ mch σ (fun x y => p x = p y) s q a → ∀ ad, K ad (some (.int 0)) ρ) : semV G r_Mo_isOneWay [] (fun ad => [.ref (ad (40, 0, 0)), .int (nI s), .int (nI q), .int (nI a)]) ρ K := by
  have hN := hW.2.2.1
  have h12 := hW.2.2.2.2.1
  have ho := hW.2.2.2.2.2.1 a ha
  refine semV_intro yk_Mo_isOneWay.2.2.2.2 (fun _ => Nat.le_of_ble_eq_true rfl) (fun M Q ad0 hM => ?_)
  refine T_Mo_isOneWay_0 hG hM _ _ _ ρ ?_
  have go : ∀ u k, k < dO σ a → goA σ u a k < nS σ := fun u k hk => goA_lt hW ha hk
  -- where one of the two can't
  have no : ¬ (canW σ s a ∧ canW σ q a) → Y G [] ad0 M Q 3 (fun ad => [(0, .ref (ad (40, 0, 0))), (1, .int (nI s)), (2, .int (nI q)), (3, .int (nI a)), (4, .int (nI 0))]) (fun ad => []) ρ := fun hno => by
    refine T_Mo_isOneWay_3 hG hM _ _ _ _ ρ ⟨vp_in_nI (by omega) (by omega), ?_⟩
    rw [nI_clamp (n := a) (by omega), hO a ha, mul363, mul363, nI_clamp (n := 36 * s + (3 * a + 0)) (by omega), nI_clamp (n := 36 * q + (3 * a + 0)) (by omega)]
    refine ⟨fun z => absurd ((nI_leI (by omega) (by omega)).mp z) (by omega), fun _ => ⟨vp_in_nI (by omega) (by omega), vp_in_nI (by omega) (by omega), ?_⟩⟩
    by_cases hc : canW σ s a
    · have hc' : ¬ canW σ q a := fun z => hno ⟨hc, z⟩
      have g1 := go s 0 (by omega)
      rw [MR_go hR hW hs ha (by omega) hc, MR_no hR hW hq ha (by omega) hc', if_neg (nI_m1 (by omega))]
      refine ⟨fun z => absurd z (nI_m1 (by omega)), fun _ => ⟨fun _ z6 e6 => ?_, fun z => absurd rfl z⟩⟩
      rw [e6]
      exact ⟨bI_nb false, k0 (fun z => hc' (z.1.mp hc))⟩
    · rw [MR_no hR hW hs ha (by omega) hc]
      refine ⟨fun _ z4 e4 => ?_, fun z => absurd rfl z⟩
      by_cases hc' : canW σ q a
      · have g1 := go q 0 (by omega)
        rw [MR_go hR hW hq ha (by omega) hc', if_neg (fun z => nI_m1 (by omega) z.symm)] at e4
        rw [e4]
        exact ⟨bI_nb false, k0 (fun z => hc (z.1.mpr hc'))⟩
      · rw [MR_no hR hW hq ha (by omega) hc', if_pos rfl] at e4
        rw [e4]
        exact ⟨bI_nb true, k1 ⟨⟨fun z => absurd z hc, fun z => absurd z hc'⟩, fun z => absurd z hc⟩⟩
  by_cases hcc : canW σ s a ∧ canW σ q a
  · obtain ⟨hc, hc'⟩ := hcc
    have key : ∀ (dd kk : Nat), kk + dd = dO σ a → (∀ j, j < kk → (∃ i, i < dO σ a ∧ p (goA σ s a j) = p (goA σ q a i)) ∧ ∃ i, i < dO σ a ∧ p (goA σ s a i) = p (goA σ q a j)) → Y G [] ad0 M Q 3 (fun ad => [(0, .ref (ad (40, 0, 0))), (1, .int (nI s)), (2, .int (nI q)), (3, .int (nI a)), (4, .int (nI kk))]) (fun ad => []) ρ := by
      intro dd
      induction dd with
      | zero =>
        intro kk hd hj
        have ek : kk = dO σ a := by omega
        subst ek
        refine T_Mo_isOneWay_3 hG hM _ _ _ _ ρ ⟨vp_in_nI (by omega) (by omega), ?_⟩
        rw [nI_clamp (n := a) (by omega), hO a ha]
        exact ⟨fun _ => k1 ⟨⟨fun _ => hc', fun _ => hc⟩, fun _ => ⟨fun k hk => (hj k hk).1, fun j hk => (hj j hk).2⟩⟩, fun z => absurd ((nI_leI (by omega) (by omega)).mpr (Nat.le_refl _)) z⟩
      | succ dd ih =>
        intro kk hd hj
        have hk : kk < dO σ a := by omega
        have gs := go s kk hk
        have gq := go q kk hk
        refine T_Mo_isOneWay_3 hG hM _ _ _ _ ρ ⟨vp_in_nI (by omega) (by omega), ?_⟩
        rw [nI_clamp (n := a) (by omega), hO a ha, mul363, mul363, nI_clamp (n := 36 * s + (3 * a + kk)) (by omega), nI_clamp (n := 36 * q + (3 * a + kk)) (by omega), MR_go hR hW hs ha hk hc, MR_go hR hW hq ha hk hc']
        refine ⟨fun z => absurd ((nI_leI (by omega) (by omega)).mp z) (by omega), fun _ => ⟨vp_in_nI (by omega) (by omega), vp_in_nI (by omega) (by omega), fun z => absurd z (nI_m1 (by omega)), fun _ => ⟨fun z => absurd z (nI_m1 (by omega)), fun _ => ?_⟩⟩⟩
        have k84 : ∀ (dj j : Nat), j + dj = dO σ a → Y G [] ad0 M Q 84 (fun ad => [(0, .ref (ad (40, 0, 0))), (1, .int (nI s)), (2, .int (nI q)), (3, .int (nI a)), (4, .int (nI kk)), (5, .int (nI (goA σ s a kk))), (6, .int (nI (goA σ q a kk))), (7, .int (bI (bef (fun i => p (goA σ q a i)) (p (goA σ s a kk)) j))), (8, .int (bI (bef (fun i => p (goA σ s a i)) (p (goA σ q a kk)) j))), (9, .int (nI j))]) (fun ad => []) ρ := by
          intro dj
          induction dj with
          | zero =>
            intro j hdj
            have ej : j = dO σ a := by omega
            subst ej
            refine T_Mo_isOneWay_84 hG hM _ _ _ _ _ _ _ _ _ ρ ⟨vp_in_nI (by omega) (by omega), ?_⟩
            rw [nI_clamp (n := a) (by omega), hO a ha, nI_1 kk]
            refine ⟨fun _ => ⟨fun z => k0 (fun hm => ?_), fun z => ⟨fun y => k0 (fun hm => ?_), fun y => ?_⟩⟩, fun z => absurd ((nI_leI (by omega) (by omega)).mpr (Nat.le_refl _)) z⟩
            · obtain ⟨i, hi, e⟩ := (hm.2 hc).1 kk hk
              have := bef_iff (f := fun i => p (goA σ q a i)) (x := p (goA σ s a kk)) (n := dO σ a) |>.mpr ⟨i, hi, e.symm⟩
              rw [bI_0.mp z] at this; cases this
            · obtain ⟨i, hi, e⟩ := (hm.2 hc).2 kk hk
              have := bef_iff (f := fun i => p (goA σ s a i)) (x := p (goA σ q a kk)) (n := dO σ a) |>.mpr ⟨i, hi, e⟩
              rw [bI_0.mp y] at this; cases this
            · refine ih (kk + 1) (by omega) (fun j hj2 => ?_)
              by_cases ej : j = kk
              · subst ej
                obtain ⟨i, hi, e⟩ := bef_iff.mp (bnf (fun x => z (bI_0.mpr x)))
                obtain ⟨i2, hi2, e2⟩ := bef_iff.mp (bnf (fun x => y (bI_0.mpr x)))
                exact ⟨⟨i, hi, e.symm⟩, i2, hi2, e2⟩
              · exact hj j (by omega)
          | succ dj ih2 =>
            intro j hdj
            have hj : j < dO σ a := by omega
            have gsj := go s j hj
            have gqj := go q j hj
            obtain ⟨p1, b1⟩ := hp _ gs
            obtain ⟨p2, b2⟩ := hp _ gq
            obtain ⟨p3, b3⟩ := hp _ gsj
            obtain ⟨p4, b4⟩ := hp _ gqj
            have q1 : (nI (p (goA σ s a kk)) = nI (p (goA σ q a j))) ↔ p (goA σ s a kk) = p (goA σ q a j) := nI_eq (by omega) (by omega)
            have q2 : (nI (p (goA σ q a kk)) = nI (p (goA σ s a j))) ↔ p (goA σ q a kk) = p (goA σ s a j) := nI_eq (by omega) (by omega)
            refine T_Mo_isOneWay_84 hG hM _ _ _ _ _ _ _ _ _ ρ ⟨vp_in_nI (by omega) (by omega), ?_⟩
            rw [nI_clamp (n := a) (by omega), hO a ha, mul363, mul363, nI_clamp (n := 36 * s + (3 * a + j)) (by omega), nI_clamp (n := 36 * q + (3 * a + j)) (by omega), MR_go hR hW hs ha hj hc, MR_go hR hW hq ha hj hc', nI_clamp (n := goA σ s a kk) (by omega), nI_clamp (n := goA σ q a kk) (by omega), nI_clamp (n := goA σ s a j) (by omega), nI_clamp (n := goA σ q a j) (by omega), p1, p2, p3, p4, nI_1 j]
            refine ⟨fun z => absurd ((nI_leI (by omega) (by omega)).mp z) (by omega), fun _ => ⟨fun _ => ⟨vp_in_nI (by omega) (by omega), vp_in_nI (by omega) (by omega), vp_in_nI (by omega) (by omega)⟩, fun z7 e7 => ⟨fun _ => ⟨vp_in_nI (by omega) (by omega), vp_in_nI (by omega) (by omega), vp_in_nI (by omega) (by omega)⟩, fun z11 e11 => ?_⟩⟩⟩
            have e7 : z7 = bI (bef (fun i => p (goA σ q a i)) (p (goA σ s a kk)) (j + 1)) := by
              rw [e7, bI_oe]
              show bI (_ || _) = bI (_ || (p (goA σ q a j) == p (goA σ s a kk)))
              congr 2
              rw [Bool.eq_iff_iff, decide_eq_true_iff, beq_iff_eq, q1]
              exact eq_comm
            have e11 : z11 = bI (bef (fun i => p (goA σ s a i)) (p (goA σ q a kk)) (j + 1)) := by
              rw [e11, bI_oe]
              show bI (_ || _) = bI (_ || (p (goA σ s a j) == p (goA σ q a kk)))
              congr 2
              rw [Bool.eq_iff_iff, decide_eq_true_iff, beq_iff_eq, q2]
              exact eq_comm
            rw [e7, e11]
            exact ih2 (j + 1) (by omega)
        exact k84 (dO σ a) 0 (by omega)
    exact key (dO σ a) 0 (by omega) (fun j hj => absurd hj (by omega))
  · exact no hcc
theorem c_areAlike (hG : gok G) {σ : Wd} {p : Nat → Nat} {s q : Nat} (hA : iR ρ (40, 0, 0) 3 = nI (dA σ)) (hO : ∀ a, a < dA σ → iR ρ (41, 4, 0) a = nI (dO σ a)) (hR : MR ρ σ) (hW : Wok σ) (hp : MPr ρ σ p) (hs : s < nS σ) (hq : q < nS σ) (k1 : p s = p q → (∀ a, a < dA σ → mch σ (fun x y => p x = p y) s q a) → ∀ ad, K ad (some (.int 1)) ρ) (k0 : ¬ (p s = p q ∧ ∀ a, a < dA σ → mch σ (fun x y => p x = p y) s q a) → ∀ ad, K ad (some (.int 0)) ρ) : semV G r_Mo_areAlike [] (fun ad => [.ref (ad (40, 0, 0)), .int (nI s), .int (nI q)]) ρ K := by
  have hN := hW.2.2.1
  have h12 := hW.2.2.2.2.1
  refine semV_intro yk_Mo_areAlike.2.2.2.2 (fun _ => Nat.le_of_ble_eq_true rfl) (fun M Q ad0 hM => ?_)
  have key : ∀ (da a : Nat) (b : Bool), a + da = dA σ → (b = true ↔ p s = p q ∧ ∀ x, x < a → mch σ (fun x y => p x = p y) s q x) → Y G [] ad0 M Q 24 (fun ad => [(0, .ref (ad (40, 0, 0))), (1, .int (nI s)), (2, .int (nI q)), (3, .int (bI b)), (4, .int (nI a))]) (fun ad => []) ρ := by
    intro da
    induction da with
    | zero =>
      intro a b hd hb
      have ea : a = dA σ := by omega
      subst ea
      refine T_Mo_areAlike_24 hG hM _ _ _ _ ρ ⟨fun _ => ⟨bI_nb _, ?_⟩, fun z => absurd (by rw [hA]; exact (nI_leI (by omega) (by omega)).mpr (Nat.le_refl _)) z⟩
      cases b with
      | true => exact k1 (hb.mp rfl).1 (hb.mp rfl).2
      | false => exact k0 (fun z => by have := hb.mpr z; cases this)
    | succ da ih =>
      intro a b hd hb
      refine T_Mo_areAlike_24 hG hM _ _ _ _ ρ ⟨fun z => absurd (by rw [hA] at z; exact (nI_leI (by omega) (by omega)).mp z) (by omega), fun _ => ?_⟩
      rw [bI_0, nI_1 a]
      refine ⟨fun z => ⟨bI_nb _, ?_⟩, fun z => ?_⟩
      · subst z
        exact k0 (fun z => by have := hb.mpr ⟨z.1, fun x hx => z.2 x (by omega)⟩; cases this)
      · have hb1 := hb.mp (bnf z)
        refine c_isOneWay hG hO hR hW hp hs hq (by omega) (fun hm ad => ⟨_, rfl, ?_⟩) (fun hm ad => ⟨_, rfl, ?_⟩)
        · refine ih (a + 1) true (by omega) ⟨fun _ => ⟨hb1.1, fun x hx => ?_⟩, fun _ => rfl⟩
          by_cases e : x = a
          · rw [e]; exact hm
          · exact hb1.2 x (by omega)
        · exact ih (a + 1) false (by omega) ⟨fun z => (by cases z), fun z => absurd (z.2 a (by omega)) hm⟩
  have b1 := (hp s hs)
  have b2 := (hp q hq)
  refine T_Mo_areAlike_0 hG hM _ _ ρ ⟨vp_in_nI (by omega) (by omega), vp_in_nI (by omega) (by omega), ?_⟩
  rw [nI_clamp (n := s) (by omega), nI_clamp (n := q) (by omega), b1.1, b2.1]
  have q1 : (nI (p s) = nI (p q)) ↔ p s = p q := nI_eq (by omega) (by omega)
  intro z3 e3
  have e3 : z3 = bI (decide (p s = p q)) := by
    rw [e3]
    by_cases e : p s = p q
    · rw [if_pos (q1.mpr e)]; simp [e, bI]
    · rw [if_neg (fun z => e (q1.mp z))]; simp [e, bI]
  rw [e3]
  exact key (dA σ) 0 _ (by omega) (by rw [decide_eq_true_iff]; exact ⟨fun z => ⟨z, fun x hx => absurd hx (by omega)⟩, fun z => z.1⟩)
theorem c_signOf (hG : gok G) {σ : Wd} {p : Nat → Nat} {s : Nat} (hA : iR ρ (40, 0, 0) 3 = nI (dA σ)) (hO : ∀ a, a < dA σ → iR ρ (41, 4, 0) a = nI (dO σ a)) (hR : MR ρ σ) (hW : Wok σ) (hp : MPr ρ σ p) (hs : s < nS σ) (k : ∀ ad, K ad (some (.long (sgn σ p s (dA σ)))) ρ) : semV G r_Mo_signOf [] (fun ad => [.ref (ad (40, 0, 0)), .int (nI s)]) ρ K := by
  have hN := hW.2.2.1
  have h12 := hW.2.2.2.2.1
  refine semV_intro yk_Mo_signOf.2.2.2.2 (fun _ => Nat.le_of_ble_eq_true rfl) (fun M Q ad0 hM => ?_)
  have key : ∀ (da a : Nat), a + da = dA σ → Y G [] ad0 M Q 13 (fun ad => [(0, .ref (ad (40, 0, 0))), (1, .int (nI s)), (2, .long (sgn σ p s a)), (4, .int (nI a))]) (fun ad => []) ρ := by
    intro da
    induction da with
    | zero =>
      intro a hd
      have ea : a = dA σ := by omega
      subst ea
      exact T_Mo_signOf_13 hG hM _ _ _ ρ ⟨fun _ => k, fun z => absurd (by rw [hA]; exact (nI_leI (by omega) (by omega)).mpr (Nat.le_refl _)) z⟩
    | succ da ih =>
      intro a hd
      have ha : a < dA σ := by omega
      have ho := hW.2.2.2.2.2.1 a ha
      refine T_Mo_signOf_13 hG hM _ _ _ ρ ⟨fun z => absurd (by rw [hA] at z; exact (nI_leI (by omega) (by omega)).mp z) (by omega), fun _ => ?_⟩
      have k28 : ∀ (dk kk : Nat), kk + dk = dO σ a → Y G [] ad0 M Q 28 (fun ad => [(0, .ref (ad (40, 0, 0))), (1, .int (nI s)), (2, .long (sgn σ p s a)), (4, .int (nI a)), (5, .long (lN (1 + if holdW σ (dC σ a) s = true then dsN (fun k => p (goA σ s a k)) kk else 0))), (7, .int (nI kk))]) (fun ad => []) ρ := by
        intro dk
        induction dk with
        | zero =>
          intro kk hk
          have ek : kk = dO σ a := by omega
          subst ek
          refine T_Mo_signOf_28 hG hM _ _ _ _ _ ρ ⟨vp_in_nI (by omega) (by omega), ?_⟩
          rw [nI_clamp (n := a) (by omega), hO a ha, nI_1 a]
          exact ⟨fun _ => ih (a + 1) (by omega), fun z => absurd ((nI_leI (by omega) (by omega)).mpr (Nat.le_refl _)) z⟩
        | succ dk ih2 =>
          intro kk hk
          have hkk : kk < dO σ a := by omega
          have gt := goA_lt (s := s) hW ha hkk
          refine T_Mo_signOf_28 hG hM _ _ _ _ _ ρ ⟨vp_in_nI (by omega) (by omega), ?_⟩
          rw [nI_clamp (n := a) (by omega), hO a ha, mul363, nI_clamp (n := 36 * s + (3 * a + kk)) (by omega)]
          refine ⟨fun z => absurd ((nI_leI (by omega) (by omega)).mp z) (by omega), fun _ => ⟨vp_in_nI (by omega) (by omega), ?_⟩⟩
          by_cases hc : canW σ s a
          · have hh : holdW σ (dC σ a) s = true := hc
            rw [MR_go hR hW hs ha hkk hc, if_pos hh]
            obtain ⟨p1, b1⟩ := hp _ gt
            -- behind the look for an earlier one
            have k128 : Y G [] ad0 M Q 128 (fun ad => [(0, .ref (ad (40, 0, 0))), (1, .int (nI s)), (2, .long (sgn σ p s a)), (4, .int (nI a)), (5, .long (lN (1 + dsN (fun k => p (goA σ s a k)) kk))), (7, .int (nI kk)), (8, .int (nI (goA σ s a kk))), (9, .int (bI (bef (fun k => p (goA σ s a k)) (p (goA σ s a kk)) kk)))]) (fun ad => []) ρ := by
              refine T_Mo_signOf_128 hG hM _ _ _ _ _ _ _ ρ ⟨fun _ _ => vp_in_nI (by omega) (by omega), ?_⟩
              rw [nI_clamp (n := goA σ s a kk) (by omega), p1, if_neg (nI_m1 (by omega)), nI_1 kk, nI_l (by omega)]
              intro z2 e2
              have e2 : lN (1 + dsN (fun k => p (goA σ s a k)) kk) + z2 = lN (1 + dsN (fun k => p (goA σ s a k)) (kk + 1)) := by
                have x3 : lN (p (goA σ s a kk)) + 3 = lN (p (goA σ s a kk) + 3) := lN_add _ 3
                have x4 : lN (p (goA σ s a kk) + 3) * 1099511628211 = lN ((p (goA σ s a kk) + 3) * 1099511628211) := lN_mul _ 1099511628211
                have xs : dsN (fun k => p (goA σ s a k)) (kk + 1) = dsN (fun k => p (goA σ s a k)) kk + (if bef (fun k => p (goA σ s a k)) (p (goA σ s a kk)) kk = true then 0 else (p (goA σ s a kk) + 3) * 1099511628211) := rfl
                rw [e2, x3, x4, xs]
                cases hb : bef (fun k => p (goA σ s a k)) (p (goA σ s a kk)) kk with
                | true =>
                  rw [if_neg (by decide), if_pos rfl]
                  exact lN_add _ 0
                | false =>
                  rw [if_pos (by rfl), if_neg (by decide), lN_add, Nat.add_assoc]
              rw [e2]
              have := ih2 (kk + 1) (by omega)
              rw [if_pos hh] at this
              exact this
            have k65 : ∀ (dj j : Nat), j + dj = kk → Y G [] ad0 M Q 65 (fun ad => [(0, .ref (ad (40, 0, 0))), (1, .int (nI s)), (2, .long (sgn σ p s a)), (4, .int (nI a)), (5, .long (lN (1 + dsN (fun k => p (goA σ s a k)) kk))), (7, .int (nI kk)), (8, .int (nI (goA σ s a kk))), (9, .int (bI (bef (fun k => p (goA σ s a k)) (p (goA σ s a kk)) j))), (10, .int (nI j))]) (fun ad => []) ρ := by
              intro dj
              induction dj with
              | zero =>
                intro j hj
                have ej : j = kk := by omega
                subst ej
                exact T_Mo_signOf_65 hG hM _ _ _ _ _ _ _ _ ρ ⟨fun _ => k128, fun z => absurd ((nI_leI (by omega) (by omega)).mpr (Nat.le_refl _)) z⟩
              | succ dj ih3 =>
                intro j hj
                have gtj := goA_lt (s := s) (k := j) hW ha (by omega)
                obtain ⟨p2, b2⟩ := hp _ gtj
                refine T_Mo_signOf_65 hG hM _ _ _ _ _ _ _ _ ρ ⟨fun z => absurd ((nI_leI (by omega) (by omega)).mp z) (by omega), fun _ => ⟨fun z => absurd z (nI_m1 (by omega)), fun _ => ?_⟩⟩
                rw [mul363, nI_clamp (n := 36 * s + (3 * a + j)) (by omega), MR_go hR hW hs ha (by omega) hc, nI_clamp (n := goA σ s a j) (by omega), nI_clamp (n := goA σ s a kk) (by omega), p1, p2, nI_1 j]
                refine ⟨fun _ => ⟨vp_in_nI (by omega) (by omega), vp_in_nI (by omega) (by omega), vp_in_nI (by omega) (by omega)⟩, fun z4 e4 => ?_⟩
                have q1 : (nI (p (goA σ s a j)) = nI (p (goA σ s a kk))) ↔ p (goA σ s a j) = p (goA σ s a kk) := nI_eq (by omega) (by omega)
                have e4 : z4 = bI (bef (fun k => p (goA σ s a k)) (p (goA σ s a kk)) (j + 1)) := by
                  rw [e4, bI_oe]
                  show bI (_ || _) = bI (_ || (p (goA σ s a j) == p (goA σ s a kk)))
                  congr 2
                  rw [Bool.eq_iff_iff, decide_eq_true_iff, beq_iff_eq, q1]
                rw [e4]
                exact ih3 (j + 1) (by omega)
            exact k65 kk 0 (by omega)
          · have hh : ¬ holdW σ (dC σ a) s = true := hc
            rw [MR_no hR hW hs ha hkk hc, if_neg hh]
            have k128 : Y G [] ad0 M Q 128 (fun ad => [(0, .ref (ad (40, 0, 0))), (1, .int (nI s)), (2, .long (sgn σ p s a)), (4, .int (nI a)), (5, .long (lN (1 + 0))), (7, .int (nI kk)), (8, .int (-1)), (9, .int 0)]) (fun ad => []) ρ := by
              refine T_Mo_signOf_128 hG hM _ _ _ _ _ _ _ ρ ⟨fun z => absurd rfl z, fun z2 e2 => ?_⟩
              rw [if_pos rfl] at e2
              rw [e2, nI_1 kk]
              have := ih2 (kk + 1) (by omega)
              rw [if_neg hh] at this
              exact this
            exact T_Mo_signOf_65 hG hM _ _ _ _ _ _ _ _ ρ ⟨fun _ => k128, fun _ => ⟨fun _ => k128, fun z => absurd rfl z⟩⟩
      have := k28 (dO σ a) 0 (by omega)
      have e1 : lN (1 + if holdW σ (dC σ a) s = true then dsN (fun k => p (goA σ s a k)) 0 else 0) = 1 := by
        split <;> rfl
      rw [e1] at this
      exact this
  refine T_Mo_signOf_0 hG hM _ ρ ⟨vp_in_nI (by omega) (by omega), ?_⟩
  obtain ⟨p1, b1⟩ := hp s hs
  rw [nI_clamp (n := s) (by omega), p1, nI_l (by omega), lN_1]
  exact key (dA σ) 0 (by omega)
end B57
