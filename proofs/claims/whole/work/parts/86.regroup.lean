/-! KINDS: the table of keys; new groups -/
def hsF (S key : Nat) : Nat := (Int64.toInt32 ((Int64.toUInt64 (lN key * (-7046029254386353131)) >>> ((Int32.toInt64 40).toUInt64 &&& Int64.toUInt64 63)).toInt64) &&& nI (S - 1)).toNatClampNeg
theorem msk_bv {e : Nat} (he : e ≤ 30) : (nI (2 ^ e - 1)).toBitVec.toNat = 2 ^ e - 1 := by
  show (BitVec.ofNat 32 (2 ^ e - 1)).toNat = _
  have : 2 ^ e ≤ 2 ^ 30 := Nat.pow_le_pow_right (by omega) he
  rw [BitVec.toNat_ofNat, Nat.mod_eq_of_lt (by omega)]
theorem hsF_eq {e key : Nat} (he : e ≤ 30) : (Int64.toInt32 ((Int64.toUInt64 (lN key * (-7046029254386353131)) >>> ((Int32.toInt64 40).toUInt64 &&& Int64.toUInt64 63)).toInt64) &&& nI (2 ^ e - 1)) = nI (hsF (2 ^ e) key) ∧ hsF (2 ^ e) key < 2 ^ e := by
  have hp : 2 ^ e ≤ 2 ^ 30 := Nat.pow_le_pow_right (by omega) he
  obtain ⟨j, h1, h2⟩ := pk_andE (Int64.toInt32 ((Int64.toUInt64 (lN key * (-7046029254386353131)) >>> ((Int32.toInt64 40).toUInt64 &&& Int64.toUInt64 63)).toInt64)) (m := nI (2 ^ e - 1)) e (msk_bv he)
  have h3 : hsF (2 ^ e) key = j := by
    unfold hsF
    rw [h2, nI_clamp (by omega)]
  rw [h3]
  exact ⟨h2, h1⟩
/-- the table's rows -/
def TbR (ρ : Rs) (S : Nat) (tb : Nat → Option Nat) (ky : Nat → Nat) : Prop := (∀ p, p < S → iR ρ (34, 16, 0) p = oI (tb p)) ∧ ∀ p, p < S → tb p ≠ none → lR ρ (34, 17, 0) p = lN (ky p) ∧ ky p < 2 ^ 63
section B32
variable {G : Gc} {ρ : Rs} {K : (Ro → Nat) → Option Value → Rs → Prop}
theorem c_slotOf (hG : gok G) {e key gs : Nat} {tb : Nat → Option Nat} {ky : Nat → Nat} (he : e ≤ 13) (l16 : 2 ^ e ≤ nR ρ (34, 16, 0)) (l17 : 2 ^ e ≤ nR ρ (34, 17, 0)) (hr : TbR ρ (2 ^ e) tb ky) (hT : HT (2 ^ e) (hsF (2 ^ e)) tb ky gs) (hgs : gs < 2 ^ e) (hkey : key < 2 ^ 63)
    (k : ∀ ad n, n < 2 ^ e → (∀ j, j < n → tb ((hsF (2 ^ e) key + j) % 2 ^ e) ≠ none ∧ ky ((hsF (2 ^ e) key + j) % 2 ^ e) ≠ key) → (tb ((hsF (2 ^ e) key + n) % 2 ^ e) = none ∨ ky ((hsF (2 ^ e) key + n) % 2 ^ e) = key) → K ad (some (.int (nI ((hsF (2 ^ e) key + n) % 2 ^ e)))) ρ) :
    semV G r_Ki_slotOf [] (fun ad => [.ref (ad (7, 0, 0)), .long (lN key), .int (nI (2 ^ e - 1))]) ρ K := by
  have hp : 2 ^ e ≤ 2 ^ 13 := Nat.pow_le_pow_right (by omega) he
  have hp0 : 0 < 2 ^ e := Nat.pow_pos (by omega)
  obtain ⟨hq1, hq2⟩ := hsF_eq (e := e) (key := key) (by omega)
  obtain ⟨r1, r2⟩ := hr
  refine semV_intro yk_Ki_slotOf.2.2.2.2 (fun _ => Nat.le_of_ble_eq_true rfl) (fun M Q ad0 hM => ?_)
  refine T_Ki_slotOf_0 hG hM _ _ ρ ?_
  rw [hq1]
  have key : ∀ dd n, n + dd = 2 ^ e - 1 → (∀ j, j < n → tb ((hsF (2 ^ e) key + j) % 2 ^ e) ≠ none ∧ ky ((hsF (2 ^ e) key + j) % 2 ^ e) ≠ key) → Y G [] ad0 M Q 16 (fun ad => [(0, .ref (ad (7, 0, 0))), (1, .long (lN key)), (3, .int (nI (2 ^ e - 1))), (4, .int (nI ((hsF (2 ^ e) key + n) % 2 ^ e))), (5, .int (nI n))]) (fun ad => []) ρ := by
    intro dd
    induction dd with
    | zero =>
      intro n hdd hb
      exact T_Ki_slotOf_16 hG hM _ _ _ _ ρ ⟨fun _ ad => k ad n (by omega) hb (HT_stop hT hgs (by omega) hb (Or.inr (Or.inr (by omega)))), fun z => absurd ((nI_leI (by omega) (by omega)).mpr (by omega)) z⟩
    | succ dd ih =>
      intro n hdd hb
      have hsl : (hsF (2 ^ e) key + n) % 2 ^ e < 2 ^ e := Nat.mod_lt _ hp0
      refine T_Ki_slotOf_16 hG hM _ _ _ _ ρ ⟨fun z => absurd ((nI_leI (by omega) (by omega)).mp z) (by omega), fun _ => ⟨in_nI (by omega) (by omega), ?_⟩⟩
      rw [nI_clamp (by omega), r1 _ hsl]
      have hm1 := oI_m1 (o := tb ((hsF (2 ^ e) key + n) % 2 ^ e)) (fun g hg => by have := hT.2.2.2.1 _ g hsl hg; omega)
      refine ⟨fun z ad => k ad n (by omega) hb (Or.inl (hm1.mp z)), fun z => ⟨in_nI (by omega) (by omega), ?_⟩⟩
      have hne : tb ((hsF (2 ^ e) key + n) % 2 ^ e) ≠ none := fun y => z (hm1.mpr y)
      obtain ⟨c1, c2⟩ := r2 _ hsl hne
      rw [c1, lg_cmp_eq, nI_1, pk_andN (by omega) e (msk_bv (by omega)), Nat.mod_add_mod, nI_1]
      refine ⟨fun y ad => k ad n (by omega) hb (Or.inr (lN_inj c2 hkey y)), fun y => ?_⟩
      rw [show hsF (2 ^ e) key + n + 1 = hsF (2 ^ e) key + (n + 1) by omega]
      refine ih (n + 1) (by omega) (fun j hj => ?_)
      by_cases ej : j = n
      · rw [ej]; exact ⟨hne, fun x => y (by rw [x])⟩
      · exact hb j (by omega)
  have := key (2 ^ e - 1) 0 (by omega) (fun j hj => absurd hj (by omega))
  rw [Nat.add_zero, Nat.mod_eq_of_lt hq2] at this
  exact this
theorem m1_lt {n : Nat} (h : n < 2 ^ 31) : nI n - 1 < nI n := by
  cases n with
  | zero => decide
  | succ n => rw [nI_pred]; exact nI_lt (by omega) h
theorem add_m1 (x : Int32) : x + (-1) = x - 1 := by rw [Int32.sub_eq_add_neg]
/-- the key of a state: its group, and the classes behind it -/
def kfN (σ : Wd) (kd gr : Nat → Nat) (a s : Nat) : Nat := gr s * 2 ^ 37 + kbN σ kd s a (holdW σ (dC σ a) s)
theorem kbN_lt {σ : Wd} {kd : Nat → Nat} {s a : Nat} {c : Bool} (hb : ∀ j, kbW σ kd s a j < 4096) : kbN σ kd s a c < 2 ^ 37 := by
  unfold kbN
  split
  · have := kb_lt ⟨hb 0, hb 1, hb 2⟩
    omega
  · omega
def PRg (q : Ro) : Prop := q = (34, 12, 0) ∨ q = (34, 16, 0) ∨ q = (34, 17, 0)
theorem PRg_Ki {q : Ro} (h : PRg q) : PKi q := by
  rcases h with h | h | h <;> rw [h] <;> exact Or.inr rfl
theorem c_regroup (hG : gok G) {σ : Wd} {a a0 e0 : Nat} {od kd gr : Nat → Nat} (hR : RWr ρ σ) (hL : KLn (nR ρ) (nS σ)) (ha : a < dA σ) (hod : Hv ρ (34, 4, 0) (nS σ) od) (hoN : ∀ i, i < nS σ → od i < nS σ) (hoi : ∀ i j, i < nS σ → j < nS σ → od i = od j → i = j) (hkd : Hv ρ (34, 2, 0) (nS σ) kd) (hkb : ∀ u, u < nS σ → kd u < 4096) (hgr : Hv ρ (34, 12, 0) (nS σ) gr) (hae : a0 < e0) (he : e0 ≤ nS σ) (hgb : ∀ i, a0 ≤ i → i < e0 → gr (od i) < 4096)
    (k : ∀ ad ρ' gs (gr' : Nat → Nat), Hv ρ' (34, 12, 0) (nS σ) gr' → (∀ i j, a0 ≤ i → i < e0 → a0 ≤ j → j < e0 → (gr' (od i) = gr' (od j) ↔ gr (od i) = gr (od j) ∧ kbN σ kd (od i) a (holdW σ (dC σ a) (od i)) = kbN σ kd (od j) a (holdW σ (dC σ a) (od j)))) → gr' (od (e0 - 1)) = 0 → (∀ i, a0 ≤ i → i < e0 → gr' (od i) < gs) → (∀ g, g < gs → ∃ i, a0 ≤ i ∧ i < e0 ∧ gr' (od i) = g) → gs ≤ e0 - a0 → 1 ≤ gs → Ag PRg ρ ρ' → nR ρ' = nR ρ → K ad (some (.int (nI gs))) ρ') :
    semV G r_Ki_regroup [] (fun ad => [.ref (ad (7, 0, 0)), .ref (ad (20, a, 0)), .int (nI a0), .int (nI e0)]) ρ K := by
  have h12 := hR.2.1
  have h4 := hR.1.2.2.2.1
  obtain ⟨l1, r, hr, hNr, l16, l17⟩ := hL
  have l2 := l1 2 (by omega); have l4 := l1 4 (by omega); have l12 := l1 12 (by omega)
  obtain ⟨q, eq, hq13⟩ : ∃ q, 2 * r = 2 ^ (q + 1) ∧ q ≤ 12 := by
    rcases hr with h | h | h | h
    · exact ⟨3, by rw [h], by omega⟩
    · exact ⟨6, by rw [h], by omega⟩
    · exact ⟨9, by rw [h], by omega⟩
    · exact ⟨12, by rw [h], by omega⟩
  refine semV_intro yk_Ki_regroup.2.2.2.2 (fun _ => Nat.le_of_ble_eq_true rfl) (fun M Q ad0 hM => ?_)
  have hRw : ∀ {ρ1 : Rs}, Ag PRg ρ ρ1 → RWr ρ1 σ := fun hag => RWr_ag hR (Ag_mono hag (fun _ h => PKi_nW (PRg_Ki h)))
  have kf63 : ∀ i, a0 ≤ i → i < e0 → kfN σ kd gr a (od i) < 2 ^ 63 ∧ kbN σ kd (od i) a (holdW σ (dC σ a) (od i)) < 2 ^ 37 := by
    intro i h1 h2
    have hO := hR.2.2.2.1 a ha
    have hOx := hO.2.1
    have hOy := hO.2.2.1
    have hs := hoN i (by omega)
    have := hgb i h1 h2
    by_cases hc : canW σ (od i) a
    · have hb : ∀ j, kbW σ kd (od i) a j < 4096 := fun j => hkb _ (nx_lt (RWr_Es hR) ha (k := if j < dO σ a then j else 0) (by split <;> omega) (nx_some hc))
      have h3 := kbN_lt (c := holdW σ (dC σ a) (od i)) hb
      unfold kfN
      exact ⟨by omega, h3⟩
    · have h3 : kbN σ kd (od i) a (holdW σ (dC σ a) (od i)) = 0 := by unfold kbN; exact if_neg (show ¬ holdW σ (dC σ a) (od i) = true from hc)
      unfold kfN
      rw [h3]
      exact ⟨by omega, by omega⟩
  -- the second loop
  have k54 : ∀ e, e ≤ 13 → 2 * (e0 - a0) ≤ 2 ^ e → 2 ^ e ≤ 2 * r → ∀ d gs ρ1 (tb : Nat → Option Nat) (ky gr1 : Nat → Nat), d ≤ e0 - a0 → gs + d ≤ e0 - a0 → Ag PRg ρ ρ1 → nR ρ1 = nR ρ → TbR ρ1 (2 ^ e) tb ky → HT (2 ^ e) (hsF (2 ^ e)) tb ky gs → Hv ρ1 (34, 12, 0) (nS σ) gr1 → (∀ i, a0 ≤ i → i < a0 + d → gr1 (od i) = gr (od i)) → (∀ i, a0 + d ≤ i → i < e0 → ∃ p, p < 2 ^ e ∧ tb p = some (gr1 (od i)) ∧ ky p = kfN σ kd gr a (od i)) → (∀ p, p < 2 ^ e → tb p ≠ none → ∃ i, a0 + d ≤ i ∧ i < e0 ∧ ky p = kfN σ kd gr a (od i)) → (d < e0 - a0 → gr1 (od (e0 - 1)) = 0 ∧ 1 ≤ gs) → Y G [] ad0 M Q 54 (fun ad => [(0, .ref (ad (7, 0, 0))), (1, .ref (ad (20, a, 0))), (2, .int (nI a0)), (4, .int (nI (2 ^ e))), (5, .int (nI gs)), (6, .int (nI (a0 + d) - 1))]) (fun ad => []) ρ1 := by
    intro e he13 hS1 hS2 d
    have hp : 2 ^ e ≤ 2 ^ 13 := Nat.pow_le_pow_right (by omega) he13
    induction d with
    | zero =>
      intro gs ρ1 tb ky gr1 hd hgd hag hnr hTb hT hg1 x1 x2 x3 x4
      refine T_Ki_regroup_54 hG hM a (by omega) _ _ _ _ ρ1 ⟨fun _ ad => ?_, fun z => absurd (m1_lt (by omega)) z⟩
      have hfin : ∀ i, a0 ≤ i → i < e0 → ∃ p, p < 2 ^ e ∧ tb p = some (gr1 (od i)) ∧ ky p = kfN σ kd gr a (od i) := fun i h1 h2 => x2 i (by omega) h2
      obtain ⟨y1, y2⟩ := x4 (by omega)
      refine k ad ρ1 gs gr1 hg1 (fun i j h1 h2 h3 h5 => ?_) y1 (fun i h1 h2 => ?_) (fun g hg => ?_) (by omega) y2 hag hnr
      · obtain ⟨p, p1, p2, p3⟩ := hfin i h1 h2
        obtain ⟨p', p1', p2', p3'⟩ := hfin j h3 h5
        have kk := (kf63 i h1 h2).2
        have kk' := (kf63 j h3 h5).2
        constructor
        · intro y
          rw [← y] at p2'
          have ep := hT.2.2.2.2.1 p p' _ p1 p1' p2 p2'
          subst ep
          rw [p3] at p3'
          unfold kfN at p3'
          exact dig2 kk kk' p3'
        · rintro ⟨y1, y2⟩
          have : ky p = ky p' := by rw [p3, p3']; unfold kfN; rw [y1, y2]
          have ep := hT.1 p p' p1 p1' (by rw [p2]; simp) (by rw [p2']; simp) this
          subst ep
          rw [p2] at p2'
          exact Option.some.inj p2'
      · obtain ⟨p, p1, p2, p3⟩ := hfin i h1 h2
        exact hT.2.2.2.1 p _ p1 p2
      · obtain ⟨p, p1, p2⟩ := hT.2.2.2.2.2 g hg
        obtain ⟨i, i1, i2, i3⟩ := x3 p p1 (by rw [p2]; simp)
        obtain ⟨p', p1', p2', p3'⟩ := hfin i (by omega) i2
        have ep := hT.1 p p' p1 p1' (by rw [p2]; simp) (by rw [p2']; simp) (by rw [i3, p3'])
        subst ep
        rw [p2] at p2'
        cases p2'
        exact ⟨i, by omega, i2, rfl⟩
    | succ d ih =>
      intro gs ρ1 tb ky gr1 hd hgd hag hnr hTb hT hg1 x1 x2 x3 x4
      obtain ⟨i, ei⟩ : ∃ i, i = a0 + d := ⟨_, rfl⟩
      have hi1 : a0 ≤ i := by omega
      have hi2 : i < e0 := by omega
      have hiN : i < nS σ := by omega
      have hso := hoN i hiN
      have hR1 := hRw hag
      obtain ⟨kf1, kf2⟩ := kf63 i hi1 hi2
      have hgs2 : gs < 2 ^ e := by omega
      have o1 : Hv ρ1 (34, 4, 0) (nS σ) od := Hv_ag hod hag (by simp [PRg])
      have d1 : Hv ρ1 (34, 2, 0) (nS σ) kd := Hv_ag hkd hag (by simp [PRg])
      rw [show a0 + (d + 1) = i + 1 by omega, nI_pred]
      refine T_Ki_regroup_54 hG hM a (by omega) _ _ _ _ ρ1 ⟨fun z => absurd ((nI_ltI (by omega) (by omega)).mp z) (by omega), fun _ => ⟨in_nI (by rw [hnr]; omega) (by omega), ?_⟩⟩
      rw [nI_clamp (n := i) (by omega), o1 i hiN, nI_clamp (n := od i) (by omega), hg1 _ hso, x1 i hi1 (by omega)]
      refine ⟨in_nI (by rw [hnr]; omega) (by omega), ?_⟩
      refine c_kindsBehind hG hR1 ha hso (by rw [hnr]; exact l2) d1 hkb (fun ad => ⟨_, rfl, ?_⟩)
      have ek : (Int32.toInt64 (nI (gr (od i)))) <<< (Int32.toInt64 37 &&& 63) ||| lN (kbN σ kd (od i) a (holdW σ (dC σ a) (od i))) = lN (kfN σ kd gr a (od i)) := by
        have := hgb i hi1 hi2
        rw [nI_l (by omega), lN_shl sh37 (by omega), lN_or2, Nat.or_comm, or_add kf2, Nat.add_comm]
        rfl
      have em : nI (2 ^ e) - 1 = nI (2 ^ e - 1) := nI_sb (b := 1) (Nat.one_le_two_pow)
      rw [ek, em]
      refine c_slotOf hG he13 (by rw [hnr]; omega) (by rw [hnr]; omega) hTb hT hgs2 kf1 (fun ad n hn hbf hst => ⟨_, rfl, ?_⟩)
      have hsl : (hsF (2 ^ e) (kfN σ kd gr a (od i)) + n) % 2 ^ e < 2 ^ e := Nat.mod_lt _ (by omega)
      obtain ⟨sl, esl⟩ : ∃ sl, sl = (hsF (2 ^ e) (kfN σ kd gr a (od i)) + n) % 2 ^ e := ⟨_, rfl⟩
      rw [← esl] at hsl hst ⊢
      have hm1 := oI_m1 (o := tb sl) (fun g hg => by have := hT.2.2.2.1 _ g hsl hg; omega)
      rw [nI_clamp (n := sl) (by omega), hTb.1 sl hsl, add_m1, nI_1]
      refine ⟨in_nI (by rw [hnr]; omega) (by omega), fun z => ⟨in_nI (by rw [hnr]; omega) (by omega), fun ρ17 e17 => ⟨in_nI (by rw [e17, nR_pI, hnr]; omega) (by omega), fun ρ18 e18 => ?_⟩⟩, fun z => ?_⟩
      · have z := hm1.mp z
        obtain ⟨hnew, hT2⟩ := HT_new hT hn hbf (by rw [← esl]; exact z)
        rw [← esl] at hT2
        have g16 : iR ρ18 (34, 16, 0) sl = nI gs := by rw [e18, iR_pL, e17, iR_pI, if_pos ⟨rfl, rfl⟩]
        rw [g16]
        refine ⟨in_nI (by rw [e18, nR_pL, e17, nR_pI, hnr]; omega) (by omega), in_nI (by rw [e18, nR_pL, e17, nR_pI, hnr]; omega) (by omega), fun ρ20 e20 => ?_⟩
        have hne : ∀ j, j < nS σ → j ≠ i → od j ≠ od i := fun j hj hji z => hji (hoi j i hj hiN z)
        have hup : ∀ p, p < 2 ^ e → p ≠ sl → va_up tb sl (some gs) p = tb p := fun p _ h => upn h
        rw [ei]
        refine ih (gs + 1) ρ20 (va_up tb sl (some gs)) (va_up ky sl (kfN σ kd gr a (od i))) (va_up gr1 (od i) gs) (by omega) (by omega) (Ag_tr hag (by rw [e20, e18, e17]; exact Ag_tr (Ag_pI (Or.inr (Or.inl rfl))) (Ag_tr (Ag_pL (Or.inr (Or.inr rfl))) (Ag_pI (Or.inl rfl))))) (by rw [e20, e18, e17]; exact hnr) ⟨fun p hp => ?_, fun p hp ht => ?_⟩ hT2 ?_ (fun j h1 h2 => ?_) (fun j h1 h2 => ?_) (fun p hp ht => ?_) (fun _ => ?_)
        · rw [e20, iR_pI, if_neg (by simp), e18, iR_pL, e17, iR_pI]
          by_cases ep : p = sl
          · rw [if_pos ⟨rfl, ep⟩, ep, ups]; rfl
          · rw [if_neg (fun y => ep y.2), upn ep]; exact hTb.1 p hp
        · rw [e20, lR_pI, e18, lR_pL]
          by_cases ep : p = sl
          · rw [if_pos ⟨rfl, ep⟩, ep, ups]; exact ⟨rfl, kf1⟩
          · rw [if_neg (fun y => ep y.2), upn ep, e17, lR_pI]
            rw [upn ep] at ht
            exact hTb.2 p hp ht
        · rw [e20]
          refine Hv_s ?_
          rw [e18]
          intro j hj
          rw [iR_pL, e17, iR_pI, if_neg (by simp)]
          exact hg1 j hj
        · rw [upn (hne j (by omega) (by omega))]; exact x1 j h1 (by omega)
        · by_cases ej : j = i
          · subst ej
            exact ⟨sl, hsl, by rw [ups, ups], by rw [ups]⟩
          · obtain ⟨p, p1, p2, p3⟩ := x2 j (by omega) h2
            have ep : p ≠ sl := fun y => by rw [y, z] at p2; cases p2
            exact ⟨p, p1, by rw [upn ep, upn (hne j (by omega) ej)]; exact p2, by rw [upn ep]; exact p3⟩
        · by_cases ep : p = sl
          · exact ⟨i, by omega, hi2, by rw [ep, ups]⟩
          · rw [upn ep] at ht
            obtain ⟨j, j1, j2, j3⟩ := x3 p hp ht
            exact ⟨j, by omega, j2, by rw [upn ep]; exact j3⟩
        · by_cases el : d + 1 < e0 - a0
          · obtain ⟨y1, y2⟩ := x4 el
            refine ⟨?_, by omega⟩
            rw [upn (hne (e0 - 1) (by omega) (by omega))]; exact y1
          · refine ⟨?_, by omega⟩
            rw [show e0 - 1 = i by omega, ups]; omega
      · have hne0 : tb sl ≠ none := fun y => z (hm1.mpr y)
        have hk2 : ky sl = kfN σ kd gr a (od i) := by
          rcases hst with y | y
          · exact absurd y hne0
          · exact y
        obtain ⟨g, hg⟩ : ∃ g, tb sl = some g := by
          cases hx : tb sl with
          | none => exact absurd hx hne0
          | some g => exact ⟨g, rfl⟩
        have hg2 := hT.2.2.2.1 sl g hsl hg
        rw [hg]
        refine ⟨in_nI (by rw [hnr]; omega) (by omega), in_nI (by rw [hnr]; omega) (by omega), fun ρ15 e15 => ?_⟩
        have e15 : ρ15 = pI ρ1 (34, 12, 0) (od i) (nI g) := e15
        have hne : ∀ j, j < nS σ → j ≠ i → od j ≠ od i := fun j hj hji z => hji (hoi j i hj hiN z)
        rw [ei]
        refine ih gs ρ15 tb ky (va_up gr1 (od i) g) (by omega) (by omega) (Ag_tr hag (by rw [e15]; exact Ag_pI (Or.inl rfl))) (by rw [e15]; exact hnr) ⟨fun p hp => ?_, fun p hp ht => ?_⟩ hT (by rw [e15]; exact Hv_s hg1) (fun j h1 h2 => ?_) (fun j h1 h2 => ?_) (fun p hp ht => ?_) (fun _ => ?_)
        · rw [e15, iR_pI, if_neg (by simp)]; exact hTb.1 p hp
        · rw [e15, lR_pI]; exact hTb.2 p hp ht
        · rw [upn (hne j (by omega) (by omega))]; exact x1 j h1 (by omega)
        · by_cases ej : j = i
          · subst ej
            exact ⟨sl, hsl, by rw [ups]; exact hg, hk2⟩
          · obtain ⟨p, p1, p2, p3⟩ := x2 j (by omega) h2
            exact ⟨p, p1, by rw [upn (hne j (by omega) ej)]; exact p2, p3⟩
        · obtain ⟨j, j1, j2, j3⟩ := x3 p hp ht
          exact ⟨j, by omega, j2, j3⟩
        · by_cases el : d + 1 < e0 - a0
          · obtain ⟨y1, y2⟩ := x4 el
            refine ⟨?_, y2⟩
            rw [upn (hne (e0 - 1) (by omega) (by omega))]; exact y1
          · exfalso
            obtain ⟨j, j1, j2, -⟩ := x3 sl hsl hne0
            omega
  -- how many slots
  have k6 : ∀ dd i, i + dd = 12 → 2 ^ (i + 1) ≤ 2 * r → Y G [] ad0 M Q 6 (fun ad => [(0, .ref (ad (7, 0, 0))), (1, .ref (ad (20, a, 0))), (2, .int (nI a0)), (3, .int (nI e0)), (4, .int (nI (2 ^ (i + 1)))), (5, .int (nI i))]) (fun ad => []) ρ := by
    intro dd
    have fin : ∀ i, i ≤ 12 → 2 ^ (i + 1) ≤ 2 * r → 2 * (e0 - a0) ≤ 2 ^ (i + 1) → semV G r_Ar_fill [] (fun ad => [.ref (ad (34, 16, 0)), .int 0, .int (nI (2 ^ (i + 1))), .int (-1)]) ρ (fun ad u2 ρ1 => u2 = none ∧ (Y G [] ad0 M Q 54 (fun ad => [(0, .ref (ad (7, 0, 0))), (1, .ref (ad (20, a, 0))), (2, .int (nI a0)), (4, .int (nI (2 ^ (i + 1)))), (5, .int 0), (6, .int (nI e0 - 1))]) (fun ad => []) ρ1)) := by
      intro i hi h1 h2
      refine c_fill (a := 0) (b := 2 ^ (i + 1)) hG rfl rfl (by omega) (by omega) (by omega) (fun ad => ⟨rfl, ?_⟩)
      have := k54 (i + 1) (by omega) h2 h1 (e0 - a0) 0 (uI ρ (34, 16, 0) (filR (iR ρ (34, 16, 0)) 0 (2 ^ (i + 1)) (-1))) (fun _ => none) (fun _ => 0) gr (Nat.le_refl _) (by omega) (Ag_uI (Or.inr (Or.inl rfl))) rfl ⟨fun p hp => ?_, fun p hp ht => absurd rfl ht⟩ HT_0 ?_ (fun _ _ _ => rfl) (fun i h1 h2 => absurd h2 (by omega)) (fun p hp ht => absurd rfl ht) (fun h => absurd h (by omega))
      · rw [show a0 + (e0 - a0) = e0 by omega] at this
        exact this
      · show upR (iR ρ) (34, 16, 0) _ (34, 16, 0) p = -1
        rw [uR_s]
        exact if_pos ⟨by omega, hp⟩
      · exact Hv_ag (P := fun q => q = (34, 16, 0)) hgr (Ag_uI rfl) (by simp)
    have dbl : ∀ i, i ≤ 12 → 2 ^ (i + 1) ≤ 2 ^ 13 := fun i hi => Nat.pow_le_pow_right (by omega) (by omega)
    induction dd with
    | zero =>
      intro i hdd hS
      have ei : i = 12 := by omega
      subst ei
      exact T_Ki_regroup_6 hG hM a (by omega) _ _ _ _ ρ ⟨fun _ => fin 12 (by omega) hS (by omega), fun z => absurd (by decide) z⟩
    | succ dd ih =>
      intro i hdd hS
      have hdb := dbl i (by omega)
      refine T_Ki_regroup_6 hG hM a (by omega) _ _ _ _ ρ ⟨fun z => absurd ((nI_leI (a := 12) (by decide) (by omega)).mp z) (by omega), fun _ => ?_⟩
      rw [nI_sb (by omega), show (2 : Int32) = nI 2 from rfl, pk_mul, pk_mul, nI_leI (by omega) (by omega), nI_1]
      refine ⟨fun z => fin i (by omega) hS z, fun z => ?_⟩
      have hlt : 2 ^ (i + 1) < 2 ^ (q + 1) := by rw [← eq]; omega
      have hiq : i + 1 < q + 1 := (Nat.pow_lt_pow_iff_right (by omega)).mp hlt
      have := ih (i + 1) (by omega) (by rw [eq]; exact Nat.pow_le_pow_right (by omega) (by omega))
      rw [Nat.pow_succ 2 (i + 1)] at this
      exact this
  refine T_Ki_regroup_0 hG hM a (by omega) _ _ ρ ?_
  exact k6 12 0 (by omega) (by omega)
end B32
