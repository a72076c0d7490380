/-! THE LEAST ACT THAT HELPS, THE FIRST STEP -/
def nrB (d : Nat → Option Nat) (n t : Nat) : Bool := match d t with
  | some m => decide (m < n)
  | none => false
theorem nrB_iff {d : Nat → Option Nat} {n t : Nat} : nrB d n t = true ↔ ∃ m, d t = some m ∧ m < n := by
  unfold nrB
  cases h : d t with
  | none => simp
  | some m => simp
def sfB (d : Nat → Option Nat) (w n t : Nat) : Bool := if w = 2 then nrB d n t else (d t).isSome
/-- act a gives, in s with number n -/
def bst (σ : Wd) (w : Nat) (d : Nat → Option Nat) (s n a : Nat) : Prop := canW σ s a ∧ (∃ k t, k < dO σ a ∧ nxW σ s a k = some t ∧ nrB d n t = true) ∧ (w = 1 ∨ ∀ k t, k < dO σ a → nxW σ s a k = some t → sfB d w n t = true)
/-- what best answers -/
def isBs (σ : Wd) (w : Nat) (d : Nat → Option Nat) (s : Nat) (v : Option Nat) : Prop := (∀ a, v = some a → ∃ n, d s = some (n + 1) ∧ a < dA σ ∧ bst σ w d s (n + 1) a ∧ ∀ b, b < a → ¬ bst σ w d s (n + 1) b) ∧ (v = none → ∀ n a, d s = some (n + 1) → a < dA σ → ¬ bst σ w d s (n + 1) a)
theorem isBs_uni {σ : Wd} {w : Nat} {d : Nat → Option Nat} {s : Nat} {v v' : Option Nat} (h : isBs σ w d s v) (h' : isBs σ w d s v') : v = v' := by
  cases v with
  | none =>
    cases v' with
    | none => rfl
    | some a =>
      obtain ⟨n, h1, h2, h3, _⟩ := h'.1 a rfl
      exact absurd h3 (h.2 rfl n a h1 h2)
  | some a =>
    obtain ⟨n, h1, h2, h3, h4⟩ := h.1 a rfl
    cases v' with
    | none => exact absurd h3 (h'.2 rfl n a h1 h2)
    | some b =>
      obtain ⟨m, g1, g2, g3, g4⟩ := h'.1 b rfl
      rw [h1] at g1
      cases g1
      rcases Nat.lt_trichotomy a b with q | q | q
      · exact absurd h3 (g4 a q)
      · rw [q]
      · exact absurd g3 (h4 b q)
theorem bI_or {a b : Bool} : bI a ||| bI b = bI (a || b) := by cases a <;> cases b <;> rfl
theorem bI_and {a b : Bool} : bI a &&& bI b = bI (a && b) := by cases a <;> cases b <;> rfl
section B26
variable {G : Gc} {ρ : Rs} {K : (Ro → Nat) → Option Value → Rs → Prop}
theorem c_gives (hG : gok G) {σ : Wd} {w s n a : Nat} {g : Ro} {d : Nat → Option Nat} (og : okR g = true) (tg : tgR g = 50) (hw : w < 2 ^ 31) (hR : RWr ρ σ) (hs : s < nS σ) (ha : a < dA σ) (hc : canW σ s a) (hg : nS σ ≤ nR ρ g) (hd : ∀ u, u < nS σ → iR ρ g u = oI (d u)) (hN : ∀ u m, d u = some m → m < nS σ) (hn : d s = some n) (k1 : bst σ w d s n a → ∀ ad, K ad (some (.int 1)) ρ) (k0 : ¬ bst σ w d s n a → ∀ ad, K ad (some (.int 0)) ρ) : semV G r_Wi_gives [] (fun ad => [.ref (ad (6, 0, 0)), .ref (ad (20, a, 0)), .ref (ad g), .int (nI s), .int (nI w)]) ρ K := by
  have h12 := hR.2.1
  have h4 := hR.1.2.2.2.1
  have hO := hR.2.2.2.1 a ha
  have hOx := hO.2.1
  have hOy := hO.2.2.1
  refine semV_intro yk_Wi_gives.2.2.2.2 (fun _ => Nat.le_of_ble_eq_true rfl) (fun M Q ad0 hM => ?_)
  have key : ∀ dd kk (c5 c6 : Bool), kk + dd = dO σ a → (c5 = true ↔ ∃ j t, j < kk ∧ nxW σ s a j = some t ∧ nrB d n t = true) → (c6 = true ↔ ∀ j t, j < kk → nxW σ s a j = some t → sfB d w n t = true) → Y G [] ad0 M Q 9 (fun ad => [(1, .ref (ad (20, a, 0))), (2, .ref (ad g)), (3, .int (nI s)), (4, .int (nI w)), (5, .int (bI c5)), (6, .int (bI c6)), (7, .int (nI kk))]) (fun ad => []) ρ := by
    intro dd
    induction dd with
    | zero =>
      intro kk c5 c6 hdd h5 h6
      have ek : kk = dO σ a := by omega
      subst ek
      refine T_Wi_gives_9 hG hM a (by omega) g og tg _ _ _ _ _ ρ ⟨fun _ z4 ez => ?_, fun z => absurd (by rw [hO.1]; exact (nI_leI (by omega) (by omega)).mpr (Nat.le_refl _)) z⟩
      have e1 : (nI w = 1) ↔ w = 1 := nI_eq (b := 1) hw (by decide)
      have res : z4 = bI (c5 && (c6 || decide (w = 1))) := by
        rw [ez]
        by_cases hw1 : w = 1
        · rw [if_pos (e1.mpr hw1)]; simp only [hw1]
          cases c5 <;> cases c6 <;> rfl
        · rw [if_neg (fun y => hw1 (e1.mp y))]; simp only [hw1]
          cases c5 <;> cases c6 <;> rfl
      have bi : bst σ w d s n a ↔ (c5 && (c6 || decide (w = 1))) = true := by
        rw [Bool.and_eq_true, Bool.or_eq_true, h5, h6, decide_eq_true_iff]
        unfold bst
        constructor
        · rintro ⟨-, x1, x2 | x2⟩
          · exact ⟨x1, Or.inr x2⟩
          · exact ⟨x1, Or.inl x2⟩
        · rintro ⟨x1, x2 | x2⟩
          · exact ⟨hc, x1, Or.inr x2⟩
          · exact ⟨hc, x1, Or.inl x2⟩
      refine ⟨by rw [res]; exact bI_nb _, ?_⟩
      rw [res]
      cases hb : (c5 && (c6 || decide (w = 1))) with
      | true => exact k1 (bi.mpr hb)
      | false => exact k0 (fun y => by rw [bi.mp y] at hb; cases hb)
    | succ dd ih =>
      intro kk c5 c6 hdd h5 h6
      have hk : kk < dO σ a := by omega
      obtain ⟨t, ht⟩ : ∃ t, nxW σ s a kk = some t := ⟨_, nx_some hc⟩
      have htN := nx_lt (RWr_Es hR) ha hk ht
      obtain ⟨rn, rv⟩ := RWr_to hR ha hk hs
      rw [ht] at rv
      have rv : iR ρ (23, a, kk) s = nI t := rv
      have hnN := hN s n hn
      have hm1 := oI_m1 (o := d t) (fun m hm => by have := hN t m hm; omega)
      refine T_Wi_gives_9 hG hM a (by omega) g og tg _ _ _ _ _ ρ ⟨fun z => absurd (by rw [hO.1] at z; exact (nI_leI (by omega) (by omega)).mp z) (by omega), fun _ => ⟨vp_in_nI (by omega) (by omega), ?_⟩⟩
      rw [nI_clamp (by omega), nI_clamp (by omega), rv, nI_clamp (by omega), hd t htN, hd s hs, hn, nI_1]
      refine ⟨in_nI (by omega) (by omega), in_nI (by omega) (by omega), fun _ => in_nI (by omega) (by omega), fun z12 e12 z13 e13 => ?_⟩
      have e12 : z12 = bI (nrB d n t) := by
        rw [e12]
        unfold nrB
        cases hx : d t with
        | none => rfl
        | some m =>
          have hmN := hN t m hx
          rw [hx] at hm1
          rw [if_neg (fun y => by have := hm1.mp y; cases this)]
          show (if nI n ≤ nI m then (0 : Int32) else 1) = bI (decide (m < n))
          by_cases hmn : m < n
          · rw [if_neg (fun y => by have := (nI_leI (by omega) (by omega)).mp y; omega), decide_eq_true hmn]; rfl
          · rw [if_pos ((nI_leI (by omega) (by omega)).mpr (by omega)), decide_eq_false hmn]; rfl
      have e13 : z13 = bI (sfB d w n t) := by
        rw [e13]
        unfold sfB
        have e2 : (nI w = 2) ↔ w = 2 := nI_eq (b := 2) hw (by decide)
        by_cases hw2 : w = 2
        · rw [if_pos (e2.mpr hw2), if_pos hw2]; exact e12
        · rw [if_neg (fun y => hw2 (e2.mp y)), if_neg hw2]
          cases hx : d t with
          | none => rfl
          | some m =>
            rw [hx] at hm1
            rw [if_neg (fun y => by have := hm1.mp y; cases this)]; rfl
      rw [e12, e13, bI_or, bI_and]
      refine ih (kk + 1) (c5 || nrB d n t) (c6 && sfB d w n t) (by omega) ?_ ?_
      · rw [Bool.or_eq_true, h5]
        constructor
        · rintro (⟨j, u, x1, x2, x3⟩ | x)
          · exact ⟨j, u, by omega, x2, x3⟩
          · exact ⟨kk, t, by omega, ht, x⟩
        · rintro ⟨j, u, x1, x2, x3⟩
          by_cases e : j = kk
          · subst e
            rw [ht] at x2
            cases x2
            exact Or.inr x3
          · exact Or.inl ⟨j, u, by omega, x2, x3⟩
      · rw [Bool.and_eq_true, h6]
        constructor
        · rintro ⟨x1, x2⟩ j u hj hu
          by_cases e : j = kk
          · subst e
            rw [ht] at hu
            cases hu
            exact x2
          · exact x1 j u (by omega) hu
        · intro x
          exact ⟨fun j u hj hu => x j u (by omega) hu, x kk t (by omega) ht⟩
  refine T_Wi_gives_0 hG hM a (by omega) g og tg _ _ ρ ?_
  exact key (dO σ a) 0 false true (by omega) ⟨fun h => (by cases h), fun ⟨j, t, h, _⟩ => absurd h (by omega)⟩ ⟨fun _ j t h => absurd h (by omega), fun _ => rfl⟩
theorem c_leastAct (hG : gok G) {σ : Wd} {w s : Nat} {g : Ro} {d : Nat → Option Nat} (og : okR g = true) (tg : tgR g = 50) (hw : w < 2 ^ 31) (hR : RWr ρ σ) (hs : s < nS σ) (hg : nS σ ≤ nR ρ g) (hd : ∀ u, u < nS σ → iR ρ g u = oI (d u)) (hN : ∀ u m, d u = some m → m < nS σ) (k : ∀ ad v, isBs σ w d s v → (∀ a, v = some a → a < dA σ) → K ad (some (.int (oI v))) ρ) : semV G r_Wi_leastAct [] (fun ad => [.ref (ad (6, 0, 0)), .ref (ad (1, 0, 0)), .ref (ad g), .int (nI s), .int (nI w)]) ρ K := by
  have h12 := hR.2.1
  have h4 := hR.1.2.2.2.1
  refine semV_intro yk_Wi_leastAct.2.2.2.2 (fun _ => Nat.le_of_ble_eq_true rfl) (fun M Q ad0 hM => ?_)
  refine T_Wi_leastAct_0 hG hM g og tg _ _ ρ ⟨in_nI (by omega) (by omega), ?_⟩
  rw [nI_clamp (by omega), hd s hs]
  have key : ∀ n, d s = some (n + 1) → ∀ dd a, a + dd = dA σ → (∀ b, b < a → ¬ bst σ w d s (n + 1) b) → Y G [] ad0 M Q 11 (fun ad => [(0, .ref (ad (6, 0, 0))), (1, .ref (ad (1, 0, 0))), (2, .ref (ad g)), (3, .int (nI s)), (4, .int (nI w)), (5, .int (nI a))]) (fun ad => []) ρ := by
    intro n hn dd
    induction dd with
    | zero =>
      intro a hdd hb
      have ea : a = dA σ := by omega
      subst ea
      refine T_Wi_leastAct_11 hG hM g og tg _ _ _ ρ ⟨fun _ ad => k ad none ⟨fun a h => (by cases h), fun _ m a hm ha => ?_⟩ (fun a h => by cases h), fun z => absurd (by rw [hR.2.2.1]; exact (nI_leI (by omega) (by omega)).mpr (Nat.le_refl _)) z⟩
      rw [hn] at hm
      cases hm
      exact hb a ha
    | succ dd ih =>
      intro a hdd hb
      have ha : a < dA σ := by omega
      have hO := hR.2.2.2.1 a ha
      have hOx := hO.2.1
      have hOy := hO.2.2.1
      refine T_Wi_leastAct_11 hG hM g og tg _ _ _ ρ ⟨fun z => absurd (by rw [hR.2.2.1] at z; exact (nI_leI (by omega) (by omega)).mp z) (by omega), fun _ => ⟨vp_in_nI (by omega) (by omega), ?_⟩⟩
      rw [nI_clamp (by omega), nI_1]
      have nxt : ¬ bst σ w d s (n + 1) a → Y G [] ad0 M Q 11 (fun ad => [(0, .ref (ad (6, 0, 0))), (1, .ref (ad (1, 0, 0))), (2, .ref (ad g)), (3, .int (nI s)), (4, .int (nI w)), (5, .int (nI (a + 1)))]) (fun ad => []) ρ := fun hno => ih (a + 1) (by omega) (fun b hb2 => by
        by_cases e : b = a
        · rw [e]; exact hno
        · exact hb b (by omega))
      refine c_canBeDone hG (RWr_Es hR) (by omega) ha hO.2.1 (hR.2.2.2.2.2.1 a ha) hs (fun hc ad => ⟨_, rfl, fun z => absurd z (by decide), fun _ => ⟨vp_in_nI (by omega) (by omega), ?_⟩⟩) (fun hc ad => ⟨_, rfl, fun _ => nxt (fun h => hc h.1), fun z => absurd rfl z⟩)
      refine c_gives hG og tg hw hR hs ha hc hg hd hN hn (fun hy ad => ⟨_, rfl, fun z => absurd z (by decide), fun _ ad => ?_⟩) (fun hy ad => ⟨_, rfl, fun _ => nxt hy, fun z => absurd rfl z⟩)
      exact k ad (some a) ⟨fun b hb2 => by cases hb2; exact ⟨n, hn, ha, hy, hb⟩, fun h => by cases h⟩ (fun b hb2 => by cases hb2; exact ha)
  cases hx : d s with
  | none =>
    refine ⟨fun z => absurd z (by decide), fun _ ad => k ad none ⟨fun a h => (by cases h), fun _ m a hm => ?_⟩ (fun a h => by cases h)⟩
    rw [hx] at hm; cases hm
  | some n =>
    have hnN := hN s n hx
    have e0 : (0 < nI n) ↔ 0 < n := nI_ltI (a := 0) (by decide) (by omega)
    refine ⟨fun z => ?_, fun z ad => k ad none ⟨fun a h => (by cases h), fun _ m a hm => ?_⟩ (fun a h => by cases h)⟩
    · have z := e0.mp z
      exact key (n - 1) (by rw [hx, show n - 1 + 1 = n by omega]) (dA σ) 0 (by omega) (fun b hb => absurd hb (by omega))
    · rw [hx] at hm
      cases hm
      exact absurd (e0.mpr (by omega)) z
theorem c_firstStep (hG : gok G) {σ : Wd} {s n : Nat} {d : Nat → Option Nat} (hR : RWr ρ σ) (hs : s < nS σ) (hg : nS σ ≤ nR ρ (33, 3, 0)) (hd : ∀ u, u < nS σ → iR ρ (33, 3, 0) u = oI (d u)) (hN : ∀ u m, d u = some m → m < nS σ) (hn : d s = some (n + 1)) (hlo : ∀ t m, stp σ s t → d t = some m → n ≤ m) (hex : ∃ t, stp σ s t ∧ d t = some n)
    (k : ∀ ad a kk t, a < dA σ → kk < dO σ a → nxW σ s a kk = some t → d t = some n → (∀ b j u, b < dA σ → j < dO σ b → (b < a ∨ (b = a ∧ j < kk)) → nxW σ s b j = some u → d u ≠ some n) → K ad (some (.int (nI (a * 16384 + kk * 4096 + s)))) ρ) : semV G r_Wi_firstStep [] (fun ad => [.ref (ad (6, 0, 0)), .ref (ad (1, 0, 0)), .int (nI s)]) ρ K := by
  have h12 := hR.2.1
  have h4 := hR.1.2.2.2.1
  refine semV_intro yk_Wi_firstStep.2.2.2.2 (fun _ => Nat.le_of_ble_eq_true rfl) (fun M Q ad0 hM => ?_)
  have key : ∀ dd a, a + dd = dA σ → (∀ b j u, b < dA σ → j < dO σ b → b < a → nxW σ s b j = some u → d u ≠ some n) → Y G [] ad0 M Q 2 (fun ad => [(0, .ref (ad (6, 0, 0))), (1, .ref (ad (1, 0, 0))), (2, .int (nI s)), (3, .int (nI a))]) (fun ad => []) ρ := by
    intro dd
    induction dd with
    | zero =>
      intro a hdd hb
      exfalso
      obtain ⟨t, ⟨b, j, x1, x2, x3⟩, x4⟩ := hex
      exact hb b j t x1 x2 (by omega) x3 x4
    | succ dd ih =>
      intro a hdd hb
      have ha : a < dA σ := by omega
      have hO := hR.2.2.2.1 a ha
      have hOx := hO.2.1
      have hOy := hO.2.2.1
      refine T_Wi_firstStep_2 hG hM _ _ ρ ⟨fun z => absurd (by rw [hR.2.2.1] at z; exact (nI_leI (by omega) (by omega)).mp z) (by omega), fun _ => ⟨vp_in_nI (by omega) (by omega), ?_⟩⟩
      rw [nI_clamp (by omega)]
      have k21 : ∀ de kk, kk + de = dO σ a → (∀ j u, j < kk → nxW σ s a j = some u → d u ≠ some n) → Y G [] ad0 M Q 21 (fun ad => [(0, .ref (ad (6, 0, 0))), (1, .ref (ad (1, 0, 0))), (2, .int (nI s)), (3, .int (nI a)), (4, .ref (ad (20, a, 0))), (5, .int (nI kk))]) (fun ad => []) ρ := by
        intro de
        induction de with
        | zero =>
          intro kk hde hj
          have ek : kk = dO σ a := by omega
          subst ek
          refine T_Wi_firstStep_21 hG hM _ _ a (by omega) _ ρ ⟨fun _ => ?_, fun z => absurd (by rw [hO.1]; exact (nI_leI (by omega) (by omega)).mpr (Nat.le_refl _)) z⟩
          rw [nI_1]
          refine ih (a + 1) (by omega) (fun b j u x1 x2 x3 x4 => ?_)
          by_cases e : b = a
          · subst e; exact hj j u x2 x4
          · exact hb b j u x1 x2 (by omega) x4
        | succ de ih2 =>
          intro kk hde hj
          have hk : kk < dO σ a := by omega
          obtain ⟨rn, rv⟩ := RWr_to hR ha hk hs
          have nxt : (∀ u, nxW σ s a kk = some u → d u ≠ some n) → Y G [] ad0 M Q 21 (fun ad => [(0, .ref (ad (6, 0, 0))), (1, .ref (ad (1, 0, 0))), (2, .int (nI s)), (3, .int (nI a)), (4, .ref (ad (20, a, 0))), (5, .int (nI (kk + 1)))]) (fun ad => []) ρ := fun h => ih2 (kk + 1) (by omega) (fun j u x1 x2 => by
            by_cases e : j = kk
            · subst e; exact h u x2
            · exact hj j u (by omega) x2)
          refine T_Wi_firstStep_21 hG hM _ _ a (by omega) _ ρ ⟨fun z => absurd (by rw [hO.1] at z; exact (nI_leI (by omega) (by omega)).mp z) (by omega), fun _ => ⟨vp_in_nI (by omega) (by omega), ?_⟩⟩
          rw [nI_clamp (by omega), nI_clamp (by omega), rv, nI_1]
          have hm0 := oI_m1 (o := nxW σ s a kk) (fun m hm => by have := nx_lt (RWr_Es hR) ha hk hm; omega)
          refine ⟨in_nI (by omega) (by omega), fun z => nxt (fun u hu => ?_), fun z => ?_⟩
          · rw [hm0.mp z] at hu; cases hu
          · cases hx : nxW σ s a kk with
            | none => exact absurd (hm0.mpr hx) z
            | some t =>
              have htN := nx_lt (RWr_Es hR) ha hk hx
              show vp_in (nI t) _ ∧ _
              rw [show oI (some t) = nI t from rfl, nI_clamp (by omega), hd t htN, hd s hs, hn]
              have hm1 := oI_m1 (o := d t) (fun m hm => by have := hN t m hm; omega)
              refine ⟨in_nI (by omega) (by omega), fun y => nxt (fun u hu => ?_), fun y => ⟨in_nI (by omega) (by omega), in_nI (by omega) (by omega), ?_⟩⟩
              · rw [hx] at hu
                cases hu
                rw [hm1.mp y]; simp
              · cases hy : d t with
                | none => exact absurd (hm1.mpr hy) y
                | some m =>
                  have hmN := hN t m hy
                  have hnN := hN s _ hn
                  have hlo1 := hlo t m ⟨a, kk, ha, hk, hx⟩ hy
                  show (nI (n + 1) ≤ nI m → _) ∧ (¬ nI (n + 1) ≤ nI m → _)
                  rw [nI_leI (by omega) (by omega)]
                  refine ⟨fun x => nxt (fun u hu => ?_), fun x => ?_⟩
                  · rw [hx] at hu
                    cases hu
                    rw [hy]
                    intro q
                    cases q
                    omega
                  · have hmn : m = n := by omega
                    subst hmn
                    refine c_edgeOf hG (by omega) (by omega) (by omega) (fun ad => ⟨_, rfl, fun ad => ?_⟩)
                    refine k ad a kk t ha hk hx hy (fun b j u x1 x2 x3 x4 => ?_)
                    rcases x3 with x3 | ⟨x3, x5⟩
                    · exact hb b j u x1 x2 x3 x4
                    · subst x3; exact hj j u x5 x4
      exact k21 (dO σ a) 0 (by omega) (fun j u h => absurd h (by omega))
  refine T_Wi_firstStep_0 hG hM _ ρ ?_
  exact key (dA σ) 0 (by omega) (fun b j u _ _ h => absurd h (by omega))
end B26
