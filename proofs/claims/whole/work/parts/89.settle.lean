/-! KINDS: a class that waits is settled -/
theorem PT_sz {N m : Nat} {od pl kd fr un : Nat → Nat} {b : Nat} (h : PT N m od pl kd fr un) (hb : b < m) : m + (un b - fr b) ≤ N + 1 := by
  obtain ⟨h1, h2, h3, h4, h5⟩ := h
  have hub := h3 b hb
  have a1 : m ≤ cnt (fun i => decide (i = fr (kd (od i)))) N := by
    refine inj_cnt (f := fr) (fun c hc => ⟨by have := h3 c hc; omega, ?_⟩) (fun j l hj hl he => ?_)
    · have := h5 c (fr c) hc (Nat.le_refl _) (h3 c hc).1
      exact decide_eq_true (by rw [this])
    · have e1 := h5 j (fr j) (by omega) (Nat.le_refl _) (h3 j (by omega)).1
      have e2 := h5 l (fr l) hl (Nat.le_refl _) (h3 l hl).1
      rw [he] at e1
      omega
  have a2 : un b - fr b - 1 ≤ cnt (fun i => decide (fr b < i ∧ i < un b)) N := by
    refine inj_cnt (f := fun j => fr b + 1 + j) (fun j hj => ⟨by omega, decide_eq_true (by omega)⟩) (fun j l hj hl he => ?_)
    have he : fr b + 1 + j = fr b + 1 + l := he
    omega
  have a3 := cnt_two (p := fun i => decide (i = fr (kd (od i)))) (p' := fun i => decide (fr b < i ∧ i < un b)) (n := N) (fun j _ hj => by
    have hj := of_decide_eq_true hj
    refine decide_eq_false (fun z => ?_)
    have := h5 b j hb (by omega) z.2
    rw [this] at hj
    omega)
  omega
theorem tlf_pos {h : Nat → Nat} {at0 n g y : Nat} (hy : y < n) (e : h (at0 + y) = g) : 0 < tlf h at0 n g := by
  have := inj_cnt (f := fun _ => y) (N := n) (e := 1) (p := fun y => decide (h (at0 + y) = g)) (fun j _ => ⟨hy, decide_eq_true e⟩) (fun j l h1 h2 => by omega)
  unfold tlf
  omega
theorem bitt : ∀ a, a < 12 → ((nI a &&& 31).toBitVec.smod 32).toNat = a := by decide
theorem bit_0 {A a : Nat} (hA : A < 4096) (ha : a < 12) : (nI A >>> (nI a &&& 31)) &&& 1 = 0 ↔ A.testBit a = false := by
  rw [pk_shrN (by omega) _ a (bitt a ha), pk_andN (Nat.lt_of_le_of_lt (Nat.div_le_self _ _) (by omega)) 1 (by decide), Nat.testBit_eq_decide_div_mod_eq]
  have : A / 2 ^ a % 2 ^ 1 = A / 2 ^ a % 2 := rfl
  rw [this, show (0 : Int32) = nI 0 from rfl, nI_eq (by omega) (by omega)]
  have h2 : A / 2 ^ a % 2 < 2 := Nat.mod_lt _ (by omega)
  constructor
  · intro h; rw [h]; rfl
  · intro h
    have := of_decide_eq_false h
    omega
/-- which of the states from a0 on, e of them, has a mark -/
def orF (f : Nat → Nat) (a0 : Nat) : Nat → Nat
  | 0 => 0
  | n + 1 => orF f a0 n ||| f (a0 + n)
theorem orF_bit {f : Nat → Nat} {a0 a : Nat} : ∀ {n : Nat}, (orF f a0 n).testBit a = true ↔ ∃ y, y < n ∧ (f (a0 + y)).testBit a = true
  | 0 => by
    constructor
    · intro h
      have h : (0 : Nat).testBit a = true := h
      rw [Nat.zero_testBit] at h; cases h
    · rintro ⟨y, h, -⟩; omega
  | n + 1 => by
    show (orF f a0 n ||| f (a0 + n)).testBit a = true ↔ _
    rw [Nat.testBit_or, Bool.or_eq_true, orF_bit (n := n)]
    constructor
    · rintro (⟨y, h1, h2⟩ | h)
      · exact ⟨y, by omega, h2⟩
      · exact ⟨n, by omega, h⟩
    · rintro ⟨y, h1, h2⟩
      by_cases e : y = n
      · rw [e] at h2; exact Or.inr h2
      · exact Or.inl ⟨y, by omega, h2⟩
theorem orF_lt {f : Nat → Nat} {a0 k : Nat} : ∀ {n : Nat}, (∀ y, y < n → f (a0 + y) < 2 ^ k) → orF f a0 n < 2 ^ k
  | 0, _ => Nat.pow_pos (by omega)
  | n + 1, h => Nat.or_lt_two_pow (orF_lt (fun y hy => h y (by omega))) (h n (by omega))
/-- the waiting classes when b was taken from them -/
def PQb (m : Nat) (cc wt : Nat → Nat) (wc b : Nat) : Prop :=
  (∀ j, j < wc → wt j < m ∧ 0 < cc (wt j) ∧ wt j ≠ b) ∧ (∀ j l, j < l → l < wc → wt j ≠ wt l) ∧ (∀ c, c < m → c ≠ b → 0 < cc c → ∃ j, j < wc ∧ wt j = c)
section B35
variable {G : Gc} {ρ : Rs} {K : (Ro → Nat) → Option Value → Rs → Prop}
theorem c_settle (hG : gok G) {σ : Wd} {m wc b : Nat} {od pl kd fr un cc cm wt : Nat → Nat} (hR : RWr ρ σ) (hL : KLn (nR ρ) (nS σ)) (hn13 : nR ρ (34, 13, 0) < 2 ^ 31) (hW : KRw ρ (nS σ) m wc od pl kd fr un cc cm wt) (hP : PT (nS σ) m od pl kd fr un) (hC : PK m od fr un cc cm (dA σ = 0)) (hQ : PQb m cc wt wc b) (hcm : ∀ s, s < nS σ → cm s < 2 ^ dA σ) (hS : PS σ kd (fun s a => (cm s).testBit a = true)) (hb : b < m)
    (k : ∀ ad ρ' m' wc' (od' pl' kd' fr' un' cc' cm' wt' : Nat → Nat), MKs ρ' σ m' wc' od' pl' kd' fr' un' cc' cm' wt' → PS σ kd' (fun s a => (cm' s).testBit a = true) → wc' + pot (nS σ) m' ≤ wc + pot (nS σ) m → Ag PKi ρ ρ' → nR ρ' = nR ρ → K ad none ρ') :
    semV G r_Ki_settle [] (fun ad => [.ref (ad (7, 0, 0)), .ref (ad (1, 0, 0)), .int (nI b)]) ρ K := by
  have h12 := hR.2.1
  have h4 := hR.1.2.2.2.1
  have hmN := PT_m hP
  have hL0 := hL
  obtain ⟨l1, -⟩ := hL
  have l4 := l1 4 (by omega); have l6 := l1 6 (by omega); have l7 := l1 7 (by omega); have l8 := l1 8 (by omega); have l9 := l1 9 (by omega); have l12 := l1 12 (by omega)
  obtain ⟨r4, r5, r2, r6, r7, r8, r9, r10, q0, q11⟩ := hW
  obtain ⟨hf1, hf2⟩ := hP.2.2.1 b hb
  have hcb := hC.1 b hb
  obtain ⟨cE, ecE⟩ : ∃ cE, cE = fr b + cc b := ⟨_, rfl⟩
  obtain ⟨en, een⟩ : ∃ en, en = min (un b) (cE + 1) := ⟨_, rfl⟩
  have hen : fr b < en ∧ en ≤ un b ∧ en ≤ cE + 1 ∧ (cE < en ∨ cE = un b ∧ en = un b) := by omega
  have hoN : ∀ i, i < nS σ → od i < nS σ := fun i hi => (hP.1 i hi).1
  have hoi : ∀ i j, i < nS σ → j < nS σ → od i = od j → i = j := fun i j hi hj e => by rw [← (hP.1 i hi).2, e]; exact (hP.1 j hj).2
  have hRw : ∀ {ρ1 : Rs}, Ag PKi ρ ρ1 → RWr ρ1 σ := fun hag => RWr_ag hR (Ag_mono hag (fun _ h => PKi_nW h))
  have hgo : ∀ s a k, s < nS σ → a < dA σ → k < dO σ a → goA σ s a k < nS σ := fun s a k hs ha hk => goW_lt hR.1.2.2.2.2.1 ((hR.2.2.2.1 a ha).2.2.2.2.2 k hk).2
  have hkb : ∀ u, u < nS σ → kd u < 4096 := fun u hu => by have := (hP.2.2.2.1 u hu).1; omega
  obtain ⟨A, eA⟩ : ∃ A, A = orF (fun i => cm (od i)) (fr b) (en - fr b) := ⟨_, rfl⟩
  have hA : A < 2 ^ dA σ := by rw [eA]; exact orF_lt (fun y hy => hcm _ (hoN _ (by omega)))
  have hp12 : 2 ^ dA σ ≤ 2 ^ 12 := Nat.pow_le_pow_right (by omega) h12
  have hAb : ∀ a, A.testBit a = true ↔ ∃ i, fr b ≤ i ∧ i < en ∧ (cm (od i)).testBit a = true := by
    intro a
    rw [eA, orF_bit]
    constructor
    · rintro ⟨y, h1, h2⟩; exact ⟨fr b + y, by omega, by omega, h2⟩
    · rintro ⟨i, h1, h2, h3⟩; exact ⟨i - fr b, by omega, by rw [show fr b + (i - fr b) = i by omega]; exact h3⟩
  -- marks of class b behind the first loop
  have mkP : ∀ s t a, s < nS σ → t < nS σ → a < dA σ → (kbN σ kd s a (holdW σ (dC σ a) s) = kbN σ kd t a (holdW σ (dC σ a) t) ↔ mch σ (fun x y => kd x = kd y) s t a) := by
    intro s t a hs ht ha
    have hO := hR.2.2.2.1 a ha
    have hOx := hO.2.1
    have hOy := hO.2.2.1
    exact kbN_mch hO.2.1 hO.2.2.1 (fun k hk => hkb _ (hgo s a k hs ha hk)) (fun k hk => hkb _ (hgo t a k ht ha hk)) Iff.rfl Iff.rfl
  have clsb : ∀ s, s < nS σ → kd s = b → fr b ≤ pl s ∧ pl s < un b ∧ od (pl s) = s := by
    intro s hs e
    have h1 := hP.2.2.2.1 s hs
    rw [e] at h1
    exact ⟨h1.2.1, h1.2.2, (hP.2.1 s hs).2⟩
  have unm : ∀ s, s < nS σ → kd s = b → cE ≤ pl s → cm s = 0 := by
    intro s hs e h
    obtain ⟨c1, c2, c3⟩ := clsb s hs e
    have := hC.2.2 b (pl s) hb (by omega) c2
    rw [c3] at this; exact this
  have noA : ∀ a, A.testBit a = false → ∀ s, s < nS σ → kd s = b → (cm s).testBit a = false := by
    intro a hAa s hs e
    obtain ⟨c1, c2, c3⟩ := clsb s hs e
    by_cases h : pl s < en
    · cases hx : (cm s).testBit a with
      | false => rfl
      | true => rw [(hAb a).mpr ⟨pl s, c1, h, by rw [c3]; exact hx⟩] at hAa; cases hAa
    · rw [unm s hs e (by omega), Nat.zero_testBit]
  -- what groups mean
  have prop : ∀ (gr : Nat → Nat), (∀ i j, fr b ≤ i → i < en → fr b ≤ j → j < en → (gr (od i) = gr (od j) ↔ ∀ a, a < dA σ → A.testBit a = true → kbN σ kd (od i) a (holdW σ (dC σ a) (od i)) = kbN σ kd (od j) a (holdW σ (dC σ a) (od j)))) → gr (od (en - 1)) = 0 → ∀ s t, s < nS σ → t < nS σ → kd s = b → kd t = b → ((if pl s < cE then gr s else 0) = (if pl t < cE then gr t else 0) ↔ ∀ a, a < dA σ → mch σ (fun x y => kd x = kd y) s t a) := by
    intro gr hgr h0 s t hs ht es et
    have pick : ∀ u, u < nS σ → kd u = b → ∃ i, fr b ≤ i ∧ i < en ∧ gr (od i) = (if pl u < cE then gr u else 0) ∧ kd (od i) = b ∧ ∀ a, a < dA σ → mch σ (fun x y => kd x = kd y) u (od i) a := by
      intro u hu eu
      obtain ⟨c1, c2, c3⟩ := clsb u hu eu
      by_cases h : pl u < cE
      · refine ⟨pl u, c1, by omega, by rw [if_pos h, c3], by rw [c3]; exact eu, fun a _ => ?_⟩
        rw [c3]
        exact mch_refl (E := fun x y => kd x = kd y) (fun _ => rfl)
      · have hbe : kd (od (en - 1)) = b := hP.2.2.2.2 b (en - 1) hb (by omega) (by omega)
        have hN1 : en - 1 < nS σ := by omega
        refine ⟨en - 1, by omega, by omega, by rw [if_neg h]; exact h0, hbe, fun a ha => ?_⟩
        refine hS.2.2 u (od (en - 1)) a hu (hoN _ hN1) ha (by rw [eu, hbe]) (fun z => ?_) (fun z => ?_)
        · have z : (cm u).testBit a = true := z
          rw [unm u hu eu (by omega), Nat.zero_testBit] at z; cases z
        · have : cm (od (en - 1)) = 0 := unm _ (hoN _ hN1) hbe (by rw [(hP.1 _ hN1).2]; omega)
          have z : (cm (od (en - 1))).testBit a = true := z
          rw [this, Nat.zero_testBit] at z; cases z
    obtain ⟨i, i1, i2, i3, i4, i5⟩ := pick s hs es
    obtain ⟨j, j1, j2, j3, j4, j5⟩ := pick t ht et
    rw [← i3, ← j3, hgr i j i1 i2 j1 j2]
    have hiN : od i < nS σ := hoN i (by omega)
    have hjN : od j < nS σ := hoN j (by omega)
    have sy : ∀ {x y : Nat} {a : Nat}, mch σ (fun x y => kd x = kd y) x y a → mch σ (fun x y => kd x = kd y) y x a := fun h => mch_symm (E := fun x y => kd x = kd y) (fun _ _ h => h.symm) h
    have tr : ∀ {x y z : Nat} {a : Nat}, mch σ (fun x y => kd x = kd y) x y a → mch σ (fun x y => kd x = kd y) y z a → mch σ (fun x y => kd x = kd y) x z a := fun h1 h2 => mch_trans (E := fun x y => kd x = kd y) (fun _ _ _ h1 h2 => h1.trans h2) h1 h2
    constructor
    · intro h a ha
      have hm : mch σ (fun x y => kd x = kd y) (od i) (od j) a := by
        cases hAa : A.testBit a with
        | true => exact (mkP _ _ a hiN hjN ha).mp (h a ha hAa)
        | false => exact hS.2.2 _ _ a hiN hjN ha (by rw [i4, j4]) (fun (z : (cm (od i)).testBit a = true) => by rw [noA a hAa _ hiN i4] at z; cases z) (fun (z : (cm (od j)).testBit a = true) => by rw [noA a hAa _ hjN j4] at z; cases z)
      exact tr (i5 a ha) (tr hm (sy (j5 a ha)))
    · intro h a ha hAa
      exact (mkP _ _ a hiN hjN ha).mpr (tr (sy (i5 a ha)) (tr (h a ha) (j5 a ha)))
  refine semV_intro yk_Ki_settle.2.2.2.2 (fun _ => Nat.le_of_ble_eq_true rfl) (fun M Q ad0 hM => ?_)
  -- grouping by act after act
  have k108 : ∀ (cm1 : Nat → Nat), (∀ s, s < nS σ → kd s = b → cm1 s = 0) → (∀ s, s < nS σ → kd s ≠ b → cm1 s = cm s) → ∀ da a gs ρ1 (gr : Nat → Nat), a + da = dA σ → Ag PKi ρ ρ1 → nR ρ1 = nR ρ → KRw ρ1 (nS σ) m wc od pl kd fr un (va_up cc b 0) cm1 wt → Hv ρ1 (34, 12, 0) (nS σ) gr → (∀ i j, fr b ≤ i → i < en → fr b ≤ j → j < en → (gr (od i) = gr (od j) ↔ ∀ a', a' < a → A.testBit a' = true → kbN σ kd (od i) a' (holdW σ (dC σ a') (od i)) = kbN σ kd (od j) a' (holdW σ (dC σ a') (od j)))) → gr (od (en - 1)) = 0 → (∀ i, fr b ≤ i → i < en → gr (od i) < gs) → (∀ g, g < gs → ∃ i, fr b ≤ i ∧ i < en ∧ gr (od i) = g) → gs ≤ en - fr b → 1 ≤ gs → Y G [] ad0 M Q 108 (fun ad => [(0, .ref (ad (7, 0, 0))), (1, .ref (ad (1, 0, 0))), (2, .int (nI b)), (3, .int (nI cE)), (4, .int (nI en)), (5, .int (nI A)), (6, .int (nI gs)), (7, .int (nI a))]) (fun ad => []) ρ1 := by
    intro cm1 hz1 hz2 da
    have hC1 : PK m od fr un (va_up cc b 0) cm1 (dA σ = 0) := by
      refine ⟨fun c hc => ?_, fun c i hc h1 h2 => ?_, fun c i hc h1 h2 => ?_⟩
      · by_cases e : c = b
        · rw [e, ups]; omega
        · rw [upn e]; exact hC.1 c hc
      · by_cases e : c = b
        · rw [e, ups] at h2; rw [e] at h1; omega
        · rw [upn e] at h2
          have hiu : i < un c := by have := hC.1 c hc; omega
          have hki := hP.2.2.2.2 c i hc h1 hiu
          have hiN : i < nS σ := by have := (hP.2.2.1 c hc).2; omega
          rw [hz2 _ (hoN i hiN) (by rw [hki]; exact e)]
          exact hC.2.1 c i hc h1 h2
      · have hiN : i < nS σ := by have := (hP.2.2.1 c hc).2; omega
        by_cases e : c = b
        · rw [e] at h1 h2
          exact hz1 _ (hoN i hiN) (hP.2.2.2.2 b i hb (by omega) h2)
        · rw [upn e] at h1
          have hki := hP.2.2.2.2 c i hc (by omega) h2
          rw [hz2 _ (hoN i hiN) (by rw [hki]; exact e)]
          exact hC.2.2 c i hc h1 h2
    have hQ1 : PQ m (va_up cc b 0) wt wc := by
      refine ⟨fun j hj => ⟨(hQ.1 j hj).1, by rw [upn (hQ.1 j hj).2.2]; exact (hQ.1 j hj).2.1⟩, hQ.2.1, fun c hc hp => ?_⟩
      by_cases e : c = b
      · rw [e, ups] at hp; omega
      · rw [upn e] at hp; exact hQ.2.2 c hc e hp
    have hcm1 : ∀ s, s < nS σ → cm1 s < 2 ^ dA σ := by
      intro s hs
      by_cases e : kd s = b
      · rw [hz1 s hs e]; exact Nat.pow_pos (by omega)
      · rw [hz2 s hs e]; exact hcm s hs
    induction da with
    | zero =>
      intro a gs ρ1 gr hda hag hnr hW1 hg1 x1 x2 x3 x4 x5 x6
      have ea : a = dA σ := by omega
      subst ea
      have hpr := prop gr x1 x2
      refine T_Ki_settle_108 hG hM _ _ _ _ _ _ ρ1 ⟨fun _ => ⟨fun z ad => ?_, fun z => ⟨in_nI (by rw [hnr]; omega) (by omega), ?_⟩⟩, fun z => absurd (by rw [(hRw hag).2.2.1]; exact (nI_leI (by omega) (by omega)).mpr (Nat.le_refl _)) z⟩
      · have z : gs ≤ 1 := (nI_leI (b := 1) (by omega) (by decide)).mp z
        refine k ad ρ1 m wc od pl kd fr un (va_up cc b 0) cm1 wt ⟨hW1, hP, hC1, hQ1, hcm1⟩ ?_ (Nat.le_refl _) hag hnr
        refine PS_div (b := b) (G := fun s => if pl s < cE then gr s else 0) hgo hS hpr (fun s t hs ht => ⟨fun e => ⟨e, fun eb => ?_⟩, fun e => e.1⟩) (fun s a' kk hs ha hkk hc hne => absurd rfl hne) (fun s a' hs hne h => by rw [hz2 s hs hne]; exact h)
        have g0 : ∀ u, u < nS σ → kd u = b → (if pl u < cE then gr u else 0) = 0 := by
          intro u hu eu
          by_cases h : pl u < cE
          · rw [if_pos h]
            obtain ⟨c1, c2, c3⟩ := clsb u hu eu
            have := x3 (pl u) c1 (by omega)
            rw [c3] at this
            omega
          · rw [if_neg h]
        show (if pl s < cE then gr s else 0) = if pl t < cE then gr t else 0
        rw [g0 s hs eb, g0 t ht (e ▸ eb)]
      · have z : ¬ gs ≤ 1 := fun y => z ((nI_leI (b := 1) (by omega) (by decide)).mpr y)
        obtain ⟨t4, t5, t2, t6, t7, t8, t9, t10, u0, u11⟩ := hW1
        rw [nI_clamp (n := b) (by omega), t6 b hb]
        have hsz := PT_sz hP hb
        have hTe : fr b + (cE - fr b) = cE := by omega
        have := @c_sort G ρ1
        refine (show semV G r_Ki_sortByGroup [] (fun ad => [.ref (ad (7, 0, 0)), .int (nI (fr b)), .int (nI (fr b + (cE - fr b))), .int (nI gs)]) ρ1 _ → semV G r_Ki_sortByGroup [] (fun ad => [.ref (ad (7, 0, 0)), .int (nI (fr b)), .int (nI cE), .int (nI gs)]) ρ1 _ by rw [hTe]; exact fun h => h) ?_
        refine c_sort (T := cE - fr b) hG h4 (by rw [hnr]; exact hL0) (by rw [hnr]; exact hn13) t4 t5 hP hb (by omega) hg1 (fun i h1 h2 => x3 i h1 (by omega)) x6 (by omega) (fun ad ρ2 od2 pl2 s1 s2 s3 s4 s5 s6 s7 s8 s9 s10 => ⟨rfl, ?_⟩)
        obtain ⟨tl, etl⟩ : ∃ tl : Nat → Nat, tl = fun g => tlf (fun i => gr (od i)) (fr b) (cE - fr b) g := ⟨_, rfl⟩
        rw [← etl] at s4 s5 s7
        have etl' : ∀ g, tlf (fun i => gr (od i)) (fr b) (cE - fr b) g = tl g := fun g => by rw [etl]
        have s5' : Hv ρ2 (34, 14, 0) gs (fun g => stf tl (fr b) gs g + tl g) := by
          intro g hg
          rw [s5 g hg]
          show nI (stf tl (fr b) gs g + tlf (fun i => gr (od i)) (fr b) (cE - fr b) g) = nI (stf tl (fr b) gs g + tl g)
          rw [etl' g]
        have hsum : sm tl gs = cE - fr b := by rw [etl]; exact tlf_sum (fun y hy => x3 (fr b + y) (by omega) (by omega))
        have h0T : stf tl (fr b) gs 0 + tl 0 = cE := by
          have := st_end (tl := tl) (at0 := fr b) (gs := gs) (by omega)
          rw [hsum] at this; omega
        have same : ∀ s, s < nS σ → (pl2 s < cE ∧ fr b ≤ pl2 s ↔ pl s < cE ∧ fr b ≤ pl s) := by
          intro s hs
          have p1 := hP.2.1 s hs
          have p2 := s3.2.1 s hs
          constructor
          · intro h
            apply Classical.byContradiction
            intro hno
            have := s8 (pl s) (by omega)
            rw [p1.2] at this
            have h3 := (s3.1 (pl s) p1.1).2
            rw [this] at h3
            omega
          · intro h
            apply Classical.byContradiction
            intro hno
            have := s8 (pl2 s) (by omega)
            rw [p2.2] at this
            have h3 := (hP.1 (pl2 s) p2.1).2
            rw [← this] at h3
            omega
        refine (show semV G r_Ki_divide [] (fun ad => [.ref (ad (7, 0, 0)), .ref (ad (1, 0, 0)), .int (nI b), .int (nI (fr b + (cE - fr b))), .int (nI gs)]) ρ2 _ → semV G r_Ki_divide [] (fun ad => [.ref (ad (7, 0, 0)), .ref (ad (1, 0, 0)), .int (nI b), .int (nI cE), .int (nI gs)]) ρ2 _ by rw [hTe]; exact fun h => h) ?_
        have a2 : Ag PKi ρ1 ρ2 := Ag_mono s9 (fun q h => by rcases h with h | h | h | h | h <;> rw [h] <;> exact Or.inr rfl)
        have hC2 : PK m od2 fr un (va_up cc b 0) cm1 (dA σ = 0) := by
          refine ⟨hC1.1, fun c i hc h1 h2 => ?_, fun c i hc h1 h2 => ?_⟩
          · by_cases e : c = b
            · rw [e, ups] at h2; rw [e] at h1; omega
            · have hiu : i < un c := by have := hC1.1 c hc; omega
              have hki := hP.2.2.2.2 c i hc h1 hiu
              have : od2 i = od i := s8 i (fun h => e (by
                have := hP.2.2.2.2 b i hb h.1 (by omega)
                omega))
              rw [this]; exact hC1.2.1 c i hc h1 h2
          · have hiN : i < nS σ := by have := (hP.2.2.1 c hc).2; omega
            by_cases e : c = b
            · rw [e] at h1 h2
              exact hz1 _ (s3.1 i hiN).1 (s3.2.2.2.2 b i hb (by omega) h2)
            · have hki := hP.2.2.2.2 c i hc (by omega) h2
              have : od2 i = od i := s8 i (fun h => e (by
                have := hP.2.2.2.2 b i hb h.1 (by omega)
                omega))
              rw [this]; exact hC1.2.2 c i hc h1 h2
        refine c_divide (T := cE - fr b) (tl := tl) (st := stf tl (fr b) gs) (gp := fun s => if pl s < cE then gr s else 0) hG (hRw (Ag_tr hag a2)) (by rw [s10, hnr]; exact hL0) ⟨⟨s1, s2, Hv_ag t2 s9 (by simp [PSo]), Hv_ag t6 s9 (by simp [PSo]), Hv_ag t7 s9 (by simp [PSo]), Hv_ag t8 s9 (by simp [PSo]), Hv_ag t9 s9 (by simp [PSo]), Hv_ag t10 s9 (by simp [PSo]), by rw [(s9 (7, 0, 0) (by simp [PSo])).2.1]; exact u0, by rw [(s9 (7, 0, 0) (by simp [PSo])).2.1]; exact u11⟩, s3, hC2, hQ1, hcm1⟩ hb ups (by omega) (by omega) (by omega) rfl hsum s4 s5' (fun p h1 h2 => s6 p h1 h2) (fun g hg => ?_) (fun s hs e => ?_) (by omega) (fun ad ρ3 wc3 od3 pl3 kd3 fr3 un3 cc3 cm3 wt3 d1 d2 d3 d4 d5 d6 => ⟨rfl, fun ad => ?_⟩)
        · by_cases e : g = 0
          · rw [e, ups]
            by_cases h : cE < un b
            · omega
            · have hcu : cE = un b := by omega
              have : 0 < tl 0 := by
                rw [etl]
                exact tlf_pos (y := en - 1 - fr b) (by omega) (by
                  show gr (od (fr b + (en - 1 - fr b))) = 0
                  rw [show fr b + (en - 1 - fr b) = en - 1 by omega]; exact x2)
              omega
          · rw [upn e]
            obtain ⟨i, i1, i2, i3⟩ := x4 g hg
            have hic : i < cE := by
              rcases Nat.lt_or_ge i cE with h | h
              · exact h
              · exfalso
                rw [show i = en - 1 by omega, x2] at i3
                exact e i3.symm
            rw [etl]
            exact tlf_pos (y := i - fr b) (by omega) (by
              show gr (od (fr b + (i - fr b))) = g
              rw [show fr b + (i - fr b) = i by omega]; exact i3)
        · have p2 := s3.2.2.2.1 s hs
          rw [e] at p2
          have p3 := s3.2.1 s hs
          have hsm := same s hs
          have p1 := clsb s hs e
          by_cases h : pl s < cE
          · have h2 := hsm.mpr ⟨h, p1.1⟩
            obtain ⟨g, g1, g2, g3, g4⟩ := s7 (pl2 s) h2.2 (by omega)
            rw [p3.2] at g4
            rw [etl' g] at g3
            show (if pl s < cE then gr s else 0) < gs ∧ stf tl (fr b) gs (if pl s < cE then gr s else 0) ≤ pl2 s ∧ pl2 s < stf tl (fr b) gs (if pl s < cE then gr s else 0) + va_up tl 0 _ (if pl s < cE then gr s else 0)
            rw [if_pos h, g4]
            refine ⟨g1, g2, ?_⟩
            by_cases e0 : g = 0
            · rw [e0, ups]; rw [e0] at g3; omega
            · rw [upn e0]; exact g3
          · have h2 : ¬ pl2 s < cE := fun y => h (hsm.mp ⟨y, p2.2.1⟩).1
            show (if pl s < cE then gr s else 0) < gs ∧ stf tl (fr b) gs (if pl s < cE then gr s else 0) ≤ pl2 s ∧ pl2 s < stf tl (fr b) gs (if pl s < cE then gr s else 0) + va_up tl 0 _ (if pl s < cE then gr s else 0)
            rw [if_neg h, ups]
            exact ⟨by omega, by omega, by omega⟩
        · have hP3 := d1.2.1
          have hm3 := PT_m hP3
          have htwo := PT_two (w := fun j => wt3 (wc + j)) (e := wc3 - wc) hP3 (fun j hj => ⟨(d1.2.2.2.1.1 (wc + j) (by omega)).1, d3.2.2.1 (wc + j) (by omega) (by omega)⟩) (fun j l hj hl => d1.2.2.2.1.2.1 (wc + j) (wc + l) (by omega) (by omega))
          have hpd := pot_dn (N := nS σ) (m := m) (m' := m + gs - 1) (e := wc3 - wc) (by omega) hm3 htwo.1 htwo.2
          have hwc := d3.1
          refine k ad ρ3 (m + gs - 1) wc3 od3 pl3 kd3 fr3 un3 cc3 cm3 wt3 d1 ?_ (by omega) (Ag_tr hag (Ag_tr a2 (Ag_mono d5 (fun q h => PDv_Ki h)))) (by rw [d6, s10]; exact hnr)
          refine PS_div (b := b) (G := fun s => if pl s < cE then gr s else 0) hgo hS hpr d2 (fun s a' kk hs ha hkk hc hne => ?_) (fun s a' hs hne h => d3.2.2.2 s a' hs (by rw [hz2 s hs hne]; exact h))
          rcases d4 s a' kk _ hs ha hkk (hgo s a' kk hs ha hkk) (nx_some hc) hne with y | y
          · exact Or.inl y
          · right
            intro t ht et
            have q1 := hP3.2.2.2.1 s hs
            have q2 := hP3.2.2.2.1 t ht
            rw [et] at q2
            have : pl3 t = pl3 s := by omega
            rw [← (hP3.2.1 t ht).2, this]; exact (hP3.2.1 s hs).2
    | succ da ih =>
      intro a gs ρ1 gr hda hag hnr hW1 hg1 x1 x2 x3 x4 x5 x6
      have ha : a < dA σ := by omega
      have hR1 := hRw hag
      obtain ⟨t4, t5, t2, t6, t7, t8, t9, t10, u0, u11⟩ := hW1
      have hW1 : KRw ρ1 (nS σ) m wc od pl kd fr un (va_up cc b 0) cm1 wt := ⟨t4, t5, t2, t6, t7, t8, t9, t10, u0, u11⟩
      refine T_Ki_settle_108 hG hM _ _ _ _ _ _ ρ1 ⟨fun z => absurd (by rw [hR1.2.2.1] at z; exact (nI_leI (by omega) (by omega)).mp z) (by omega), fun _ => ?_⟩
      rw [bit_0 (by omega) (by omega), nI_clamp (n := a) (by omega), nI_clamp (n := b) (by omega), t6 b hb, nI_1]
      refine ⟨fun z => ?_, fun z => ⟨vp_in_nI (by omega) (by omega), in_nI (by rw [hnr]; omega) (by omega), ?_⟩⟩
      · refine ih (a + 1) gs ρ1 gr (by omega) hag hnr hW1 hg1 (fun i j h1 h2 h3 h5 => ?_) x2 x3 x4 x5 x6
        rw [x1 i j h1 h2 h3 h5]
        constructor
        · intro h a' ha' hA'
          by_cases e : a' = a
          · rw [e, z] at hA'; cases hA'
          · exact h a' (by omega) hA'
        · intro h a' ha' hA'; exact h a' (by omega) hA'
      · have z : A.testBit a = true := by
          cases h : A.testBit a with
          | true => rfl
          | false => exact absurd h z
        refine c_regroup hG hR1 (by rw [hnr]; exact hL0) ha t4 hoN hoi t2 hkb hg1 hen.1 (by omega) (fun i h1 h2 => by have := x3 i h1 h2; omega) (fun ad ρ2 gs2 gr2 g1 g2 g3 g4 g5 g6 g7 g8 g9 => ⟨_, rfl, ?_⟩)
        refine ih (a + 1) gs2 ρ2 gr2 (by omega) (Ag_tr hag (Ag_mono g8 (fun q h => PRg_Ki h))) (by rw [g9]; exact hnr) ⟨Hv_ag t4 g8 (by simp [PRg]), Hv_ag t5 g8 (by simp [PRg]), Hv_ag t2 g8 (by simp [PRg]), Hv_ag t6 g8 (by simp [PRg]), Hv_ag t7 g8 (by simp [PRg]), Hv_ag t8 g8 (by simp [PRg]), Hv_ag t9 g8 (by simp [PRg]), Hv_ag t10 g8 (by simp [PRg]), by rw [(g8 (7, 0, 0) (by simp [PRg])).2.1]; exact u0, by rw [(g8 (7, 0, 0) (by simp [PRg])).2.1]; exact u11⟩ g1 (fun i j h1 h2 h3 h5 => ?_) g3 g4 g5 g6 g7
        rw [g2 i j h1 h2 h3 h5, x1 i j h1 h2 h3 h5]
        constructor
        · rintro ⟨h, h'⟩ a' ha' hA'
          by_cases e : a' = a
          · rw [e]; exact h'
          · exact h a' (by omega) hA'
        · intro h
          exact ⟨fun a' ha' hA' => h a' (by omega) hA', h a (by omega) z⟩
  -- gathering the marks
  have k39 : ∀ dn n ρ1 (cm1 gr : Nat → Nat), n + dn = en - fr b → Ag PKi ρ ρ1 → nR ρ1 = nR ρ → KRw ρ1 (nS σ) m wc od pl kd fr un cc cm1 wt → (∀ i, fr b ≤ i → i < fr b + n → cm1 (od i) = 0) → (∀ s, (∀ i, fr b ≤ i → i < fr b + n → od i ≠ s) → cm1 s = cm s) → (∀ i, fr b ≤ i → i < fr b + n → iR ρ1 (34, 12, 0) (od i) = 0) → Y G [] ad0 M Q 39 (fun ad => [(0, .ref (ad (7, 0, 0))), (1, .ref (ad (1, 0, 0))), (2, .int (nI b)), (3, .int (nI cE)), (4, .int (nI en)), (5, .int (nI (orF (fun i => cm (od i)) (fr b) n))), (6, .int (nI (fr b + n)))]) (fun ad => []) ρ1 := by
    intro dn
    induction dn with
    | zero =>
      intro n ρ1 cm1 gr hdn hag hnr hW1 x1 x2 x3
      have en' : fr b + n = en := by omega
      have en2 : n = en - fr b := by omega
      rw [en'] at x1 x2 x3 ⊢
      obtain ⟨t4, t5, t2, t6, t7, t8, t9, t10, u0, u11⟩ := hW1
      refine T_Ki_settle_39 hG hM _ _ _ _ _ ρ1 ⟨fun _ => ⟨in_nI (by rw [hnr]; omega) (by omega), ?_⟩, fun z => absurd ((nI_leI (by omega) (by omega)).mpr (Nat.le_refl _)) z⟩
      rw [nI_clamp (n := b) (by omega), en2, ← eA]
      intro ρ4 e4
      have a4 : Ag (fun q => q = (34, 8, 0)) ρ1 ρ4 := by rw [e4]; exact Ag_pI rfl
      have hz1 : ∀ s, s < nS σ → kd s = b → cm1 s = 0 := by
        intro s hs e
        obtain ⟨c1, c2, c3⟩ := clsb s hs e
        by_cases h : pl s < en
        · have := x1 (pl s) c1 h
          rw [c3] at this; exact this
        · rw [x2 s (fun i i1 i2 z => h ?_)]
          · exact unm s hs e (by omega)
          · have := (hP.1 i (by omega)).2
            rw [z] at this; omega
      have hz2 : ∀ s, s < nS σ → kd s ≠ b → cm1 s = cm s := by
        intro s hs e
        refine x2 s (fun i i1 i2 z => e ?_)
        rw [← z]
        exact hP.2.2.2.2 b i hb i1 (by omega)
      have g0 : ∀ i, fr b ≤ i → i < en → iR ρ4 (34, 12, 0) (od i) = 0 := fun i i1 i2 => by rw [(a4 (34, 12, 0) (by simp)).2.1]; exact x3 i i1 i2
      -- the groups' row: only what is in hand counts
      have fin := fun (gr0 : Nat → Nat) (hg0 : Hv ρ4 (34, 12, 0) (nS σ) gr0) (hz : ∀ i, fr b ≤ i → i < en → gr0 (od i) = 0) => k108 cm1 hz1 hz2 (dA σ) 0 1 ρ4 gr0 (by omega) (Ag_tr hag (Ag_mono a4 (fun q h => Or.inr (by rw [h])))) (by rw [e4]; exact hnr) ⟨Hv_ag t4 a4 (by simp), Hv_ag t5 a4 (by simp), Hv_ag t2 a4 (by simp), Hv_ag t6 a4 (by simp), Hv_ag t7 a4 (by simp), by rw [e4]; exact Hv_s (y := 0) t8, Hv_ag t9 a4 (by simp), Hv_ag t10 a4 (by simp), by rw [(a4 (7, 0, 0) (by simp)).2.1]; exact u0, by rw [(a4 (7, 0, 0) (by simp)).2.1]; exact u11⟩ hg0 (fun i j h1 h2 h3 h5 => ⟨fun _ a' ha' => absurd ha' (by omega), fun _ => by rw [hz i h1 h2, hz j h3 h5]⟩) (hz _ (by omega) (by omega)) (fun i h1 h2 => by rw [hz i h1 h2]; omega) (fun g hg => ⟨fr b, Nat.le_refl _, hen.1, by rw [hz _ (Nat.le_refl _) hen.1]; omega⟩) (by omega) (Nat.le_refl _)
      refine fin (fun s => (iR ρ4 (34, 12, 0) s).toBitVec.toNat) (fun i hi => ?_) (fun i i1 i2 => ?_)
      · show iR ρ4 (34, 12, 0) i = Int32.ofNat (iR ρ4 (34, 12, 0) i).toBitVec.toNat
        apply Int32.toBitVec_inj.1
        show _ = BitVec.ofNat 32 _
        rw [BitVec.ofNat_toNat, BitVec.setWidth_eq]
      · show (iR ρ4 (34, 12, 0) (od i)).toBitVec.toNat = 0
        rw [g0 i i1 i2]; rfl
    | succ dn ih =>
      intro n ρ1 cm1 gr hdn hag hnr hW1 x1 x2 x3
      have hiN : fr b + n < nS σ := by omega
      have hso := hoN _ hiN
      obtain ⟨t4, t5, t2, t6, t7, t8, t9, t10, u0, u11⟩ := hW1
      have hcmn : cm1 (od (fr b + n)) = cm (od (fr b + n)) := x2 _ (fun i i1 i2 z => by have := hoi _ _ (by omega) hiN z; omega)
      refine T_Ki_settle_39 hG hM _ _ _ _ _ ρ1 ⟨fun z => absurd ((nI_leI (by omega) (by omega)).mp z) (by omega), fun _ => ⟨in_nI (by rw [hnr]; omega) (by omega), ?_⟩⟩
      rw [nI_clamp (n := fr b + n) (by omega), t4 _ hiN, nI_clamp (n := od (fr b + n)) (by omega), t9 _ hso, hcmn, nI_or, nI_1]
      refine ⟨in_nI (by rw [hnr]; omega) (by omega), in_nI (by rw [hnr]; omega) (by omega), in_nI (by rw [hnr]; omega) (by omega), fun ρ9 e9 => ?_⟩
      have g4 : iR ρ9 (34, 4, 0) (fr b + n) = nI (od (fr b + n)) := by rw [e9, iR_pI, if_neg (by simp)]; exact t4 _ hiN
      rw [g4, nI_clamp (n := od (fr b + n)) (by omega)]
      refine ⟨in_nI (by rw [e9, nR_pI, hnr]; omega) (by omega), in_nI (by rw [e9, nR_pI, hnr]; omega) (by omega), fun ρ11 e11 => ?_⟩
      have a11 : Ag (fun q => q = (34, 9, 0) ∨ q = (34, 12, 0)) ρ1 ρ11 := by rw [e11, e9]; exact Ag_tr (Ag_pI (Or.inl rfl)) (Ag_pI (Or.inr rfl))
      refine ih (n + 1) ρ11 (va_up cm1 (od (fr b + n)) 0) gr (by omega) (Ag_tr hag (Ag_mono a11 (fun q h => by rcases h with h | h <;> rw [h] <;> exact Or.inr rfl))) (by rw [e11, e9]; exact hnr) ⟨Hv_ag t4 a11 (by simp), Hv_ag t5 a11 (by simp), Hv_ag t2 a11 (by simp), Hv_ag t6 a11 (by simp), Hv_ag t7 a11 (by simp), Hv_ag t8 a11 (by simp), by rw [e11, e9]; exact Hv_o (by decide) (Hv_s (y := 0) t9), Hv_ag t10 a11 (by simp), by rw [(a11 (7, 0, 0) (by simp)).2.1]; exact u0, by rw [(a11 (7, 0, 0) (by simp)).2.1]; exact u11⟩ (fun i i1 i2 => ?_) (fun s hs => ?_) (fun i i1 i2 => ?_)
      · by_cases e : od i = od (fr b + n)
        · rw [e, ups]
        · rw [upn e]
          exact x1 i i1 (by
            by_cases ei : i = fr b + n
            · rw [ei] at e; exact absurd rfl e
            · omega)
      · rw [upn (fun z => hs (fr b + n) (by omega) (by omega) z.symm)]
        exact x2 s (fun i i1 i2 => hs i i1 (by omega))
      · rw [e11, iR_pI]
        by_cases e : od i = od (fr b + n)
        · rw [if_pos ⟨rfl, e⟩]
        · rw [if_neg (fun z => e z.2), e9, iR_pI, if_neg (by simp)]
          exact x3 i i1 (by
            by_cases ei : i = fr b + n
            · rw [ei] at e; exact absurd rfl e
            · omega)
  refine T_Ki_settle_0 hG hM _ ρ ⟨in_nI (by omega) (by omega), in_nI (by omega) (by omega), in_nI (by omega) (by omega), ?_⟩
  rw [nI_clamp (n := b) (by omega), r6 b hb, r7 b hb, r8 b hb, nI_ad, ← ecE, nI_1]
  intro z4 e4
  have e4 : z4 = nI en := by
    rw [e4, een]
    by_cases h : un b < cE + 1
    · rw [if_pos ((nI_ltI (by omega) (by omega)).mpr h), Nat.min_eq_left (by omega)]
    · rw [if_neg (fun y => h ((nI_ltI (by omega) (by omega)).mp y)), Nat.min_eq_right (by omega)]
  rw [e4]
  refine ⟨in_nI (by omega) (by omega), ?_⟩
  exact k39 (en - fr b) 0 ρ cm (fun _ => 0) (by omega) Ag_rf rfl ⟨r4, r5, r2, r6, r7, r8, r9, r10, q0, q11⟩ (fun i i1 i2 => absurd i2 (by omega)) (fun _ _ => rfl) (fun i i1 i2 => absurd i2 (by omega))
end B35
