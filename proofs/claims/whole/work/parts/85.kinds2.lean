/-! KINDS: the classes behind an act as a number; opening a class; the least state of each -/
theorem xr0 (x y z : Int32) : (x ^^^ x) ^^^ ((y ^^^ y) ^^^ z) = z := by rw [Int32.xor_self, Int32.xor_self, Int32.zero_xor, Int32.zero_xor]
theorem xor3 {x y z : Nat} : nI x ^^^ nI y ^^^ nI z ^^^ nI (kLo x y z) ^^^ nI (kHi x y z) = nI (kMd x y z) := by
  have h : (kLo x y z = x ∧ kHi x y z = y ∧ kMd x y z = z) ∨ (kLo x y z = y ∧ kHi x y z = x ∧ kMd x y z = z) ∨ (kLo x y z = x ∧ kHi x y z = z ∧ kMd x y z = y) ∨ (kLo x y z = z ∧ kHi x y z = x ∧ kMd x y z = y) ∨ (kLo x y z = y ∧ kHi x y z = z ∧ kMd x y z = x) ∨ (kLo x y z = z ∧ kHi x y z = y ∧ kMd x y z = x) := by
    unfold kMd kLo kHi; omega
  rcases h with ⟨a, b, c⟩ | ⟨a, b, c⟩ | ⟨a, b, c⟩ | ⟨a, b, c⟩ | ⟨a, b, c⟩ | ⟨a, b, c⟩ <;> rw [a, b, c]
  · refine Eq.trans ?_ (xr0 (nI x) (nI y) (nI z)); ac_rfl
  · refine Eq.trans ?_ (xr0 (nI x) (nI y) (nI z)); ac_rfl
  · refine Eq.trans ?_ (xr0 (nI x) (nI z) (nI y)); ac_rfl
  · refine Eq.trans ?_ (xr0 (nI x) (nI z) (nI y)); ac_rfl
  · refine Eq.trans ?_ (xr0 (nI y) (nI z) (nI x)); ac_rfl
  · refine Eq.trans ?_ (xr0 (nI y) (nI z) (nI x)); ac_rfl
theorem lN_or2 (a b : Nat) : lN a ||| lN b = lN (a ||| b) := by
  apply Int64.toBitVec_inj.1
  show BitVec.ofNat 64 a ||| BitVec.ofNat 64 b = BitVec.ofNat 64 (a ||| b)
  apply BitVec.eq_of_getLsbD_eq
  intro i hi
  simp [hi]
theorem lN_shl {y : Int64} {k : Nat} (hy : (y.toBitVec.smod 64) = BitVec.ofNat 64 k) (hk : k < 64) (n : Nat) : lN n <<< y = lN (n * 2 ^ k) := by
  apply Int64.toBitVec_inj.1
  show BitVec.ofNat 64 n <<< (y.toBitVec.smod 64) = BitVec.ofNat 64 (n * 2 ^ k)
  rw [hy]
  apply BitVec.eq_of_toNat_eq
  rw [BitVec.shiftLeft_eq', BitVec.toNat_shiftLeft, BitVec.toNat_ofNat, BitVec.toNat_ofNat, BitVec.toNat_ofNat, Nat.mod_eq_of_lt (show k < 2 ^ 64 by omega), Nat.shiftLeft_eq, Nat.mod_mul_mod]
theorem sh24 : ((Int32.toInt64 24 &&& 63).toBitVec.smod 64) = BitVec.ofNat 64 24 := by decide
theorem sh12 : ((Int32.toInt64 12 &&& 63).toBitVec.smod 64) = BitVec.ofNat 64 12 := by decide
theorem sh37 : ((Int32.toInt64 37 &&& 63).toBitVec.smod 64) = BitVec.ofNat 64 37 := by decide
theorem or24 {a b c : Nat} (hb : b < 4096) (hc : c < 4096) : a * 2 ^ 24 ||| b * 2 ^ 12 ||| c = a * 16777216 + b * 4096 + c := by
  rw [Nat.or_comm (a * 2 ^ 24), or_add (i := 24) (by omega), Nat.or_comm, show b * 2 ^ 12 + a * 2 ^ 24 = (b + a * 2 ^ 12) * 2 ^ 12 by omega, or_add (i := 12) (by omega)]
  omega
theorem lN_inj {a b : Nat} (ha : a < 2 ^ 63) (hb : b < 2 ^ 63) (h : lN a = lN b) : a = b := by
  have := congrArg (fun x => x.toBitVec.toNat) h
  have e : ∀ n, n < 2 ^ 63 → (lN n).toBitVec.toNat = n := by
    intro n hn
    show (BitVec.ofNat 64 n).toNat = n
    rw [BitVec.toNat_ofNat, Nat.mod_eq_of_lt (by omega)]
  simpa [e a ha, e b hb] using this
section B31
variable {G : Gc} {ρ : Rs} {K : (Ro → Nat) → Option Value → Rs → Prop}
theorem c_kindsBehind (hG : gok G) {σ : Wd} {s a : Nat} {kd : Nat → Nat} (hR : RWr ρ σ) (ha : a < dA σ) (hs : s < nS σ) (hl : nS σ ≤ nR ρ (34, 2, 0)) (hkd : Hv ρ (34, 2, 0) (nS σ) kd) (hb : ∀ u, u < nS σ → kd u < 4096) (k : ∀ ad, K ad (some (.long (lN (kbN σ kd s a (holdW σ (dC σ a) s))))) ρ) : semV G r_Ki_kindsBehind [] (fun ad => [.ref (ad (7, 0, 0)), .ref (ad (20, a, 0)), .int (nI s)]) ρ K := by
  have h12 := hR.2.1
  have h4 := hR.1.2.2.2.1
  have hO := hR.2.2.2.1 a ha
  have hOx := hO.2.1
  have hOy := hO.2.2.1
  refine semV_intro yk_Ki_kindsBehind.2.2.2.2 (fun _ => Nat.le_of_ble_eq_true rfl) (fun M Q ad0 hM => ?_)
  refine T_Ki_kindsBehind_0 hG hM a (by omega) _ ρ ?_
  refine c_canBeDone hG (RWr_Es hR) (by omega) ha hO.2.1 (hR.2.2.2.2.2.1 a ha) hs (fun hc ad => ⟨_, rfl, fun z => absurd z (by decide), fun _ => ?_⟩) (fun hc ad => ⟨_, rfl, fun _ ad => ?_, fun z => absurd rfl z⟩)
  · have hto : ∀ j, j < dO σ a → nS σ ≤ nR ρ (23, a, j) ∧ iR ρ (23, a, j) s = nI (goA σ s a j) ∧ goA σ s a j < nS σ := by
      intro j hj
      obtain ⟨rn, rv⟩ := RWr_to hR ha hj hs
      rw [nx_some hc] at rv
      exact ⟨rn, rv, nx_lt (RWr_Es hR) ha hj (nx_some hc)⟩
    have hW : ∀ j, kbW σ kd s a j < 4096 := fun j => hb _ (hto _ (by split <;> omega)).2.2
    obtain ⟨t0, t1, t2⟩ := hto 0 hO.2.1
    rw [show Int32.toNatClampNeg 0 = 0 from rfl, show Int32.toNatClampNeg 1 = 1 from rfl, show Int32.toNatClampNeg 2 = 2 from rfl, nI_clamp (n := s) (by omega), hO.1, t1, nI_clamp (n := goA σ s a 0) (by omega), hkd _ t2]
    have e0 : kd (goA σ s a 0) = kbW σ kd s a 0 := by unfold kbW; simp
    rw [e0]
    refine ⟨in_nI (s := 0) (by omega) (by omega), in_nI (by omega) (by omega), in_nI (by omega) (by omega), fun z => ?_, fun z11 e11 => ⟨fun z => ?_, fun z15 e15 z16 e16 z17 e17 z18 e18 z19 e19 z20 e20 ad => ?_⟩⟩
    · have hj : 1 < dO σ a := Nat.not_le.mp (fun y => z ((nI_leI (b := 1) (by omega) (by decide)).mpr y))
      obtain ⟨u0, u1, u2⟩ := hto 1 hj
      rw [u1]
      exact ⟨in_nI (s := 1) (by omega) (by omega), in_nI (by omega) (by omega), in_nI (by omega) (by omega)⟩
    · have hj : 2 < dO σ a := Nat.not_le.mp (fun y => z ((nI_leI (b := 2) (by omega) (by decide)).mpr y))
      obtain ⟨u0, u1, u2⟩ := hto 2 hj
      rw [u1]
      exact ⟨in_nI (s := 2) (by omega) (by omega), in_nI (by omega) (by omega), in_nI (by omega) (by omega)⟩
    · have le1 : (nI (dO σ a) ≤ (1 : Int32)) ↔ dO σ a ≤ 1 := nI_leI (b := 1) (by omega) (by decide)
      have le2 : (nI (dO σ a) ≤ (2 : Int32)) ↔ dO σ a ≤ 2 := nI_leI (b := 2) (by omega) (by decide)
      have hc' : holdW σ (dC σ a) s = true := hc
      have e11 : z11 = nI (kbW σ kd s a 1) := by
        rw [e11]
        by_cases hj : dO σ a ≤ 1
        · rw [if_pos (le1.mpr hj)]
          unfold kbW
          rw [if_neg (by omega : ¬ 1 < dO σ a)]; simp
        · rw [if_neg (fun y => hj (le1.mp y))]
          obtain ⟨u0, u1, u2⟩ := hto 1 (by omega)
          rw [u1, nI_clamp (by omega), hkd _ u2]
          unfold kbW
          rw [if_pos (by omega : 1 < dO σ a)]
      have e15 : z15 = nI (kbW σ kd s a 2) := by
        rw [e15]
        by_cases hj : dO σ a ≤ 2
        · rw [if_pos (le2.mpr hj)]
          unfold kbW
          rw [if_neg (by omega : ¬ 2 < dO σ a)]; simp
        · rw [if_neg (fun y => hj (le2.mp y))]
          obtain ⟨u0, u1, u2⟩ := hto 2 (by omega)
          rw [u1, nI_clamp (by omega), hkd _ u2]
          unfold kbW
          rw [if_pos (by omega : 2 < dO σ a)]
      have b0 := hW 0
      have b1 := hW 1
      have b2 := hW 2
      have hk := k ad
      unfold kbN at hk
      rw [if_pos hc'] at hk
      generalize kbW σ kd s a 0 = X at *
      generalize kbW σ kd s a 1 = Yy at *
      generalize kbW σ kd s a 2 = Zz at *
      have mn : ∀ p q : Nat, p < 4096 → q < 4096 → (if nI p < nI q then nI p else nI q) = nI (min q p) := by
        intro p q hp hq
        by_cases h : p < q
        · rw [if_pos ((nI_ltI (by omega) (by omega)).mpr h), Nat.min_eq_right (by omega)]
        · rw [if_neg (fun y => h ((nI_ltI (by omega) (by omega)).mp y)), Nat.min_eq_left (by omega)]
      have mx : ∀ p q : Nat, p < 4096 → q < 4096 → (if nI p < nI q then nI q else nI p) = nI (max p q) := by
        intro p q hp hq
        by_cases h : p < q
        · rw [if_pos ((nI_ltI (by omega) (by omega)).mpr h), Nat.max_eq_right (by omega)]
        · rw [if_neg (fun y => h ((nI_ltI (by omega) (by omega)).mp y)), Nat.max_eq_left (by omega)]
      rw [e11, e15, mn _ _ b2 b1] at e16
      rw [e16, mn _ _ (by omega) b0] at e17
      rw [e11, e15, mx _ _ b1 b2] at e18
      rw [e18, mx _ _ b0 (by omega)] at e19
      have e17 : z17 = nI (kLo X Yy Zz) := e17
      have e19 : z19 = nI (kHi X Yy Zz) := e19
      have c1 := kb_in (x := X) (y := Yy) (z := Zz)
      have c2 : kMd X Yy Zz < 4096 := by unfold kMd kLo kHi; omega
      rw [e11, e15, e17, e19, xor3] at e20
      have e20 : z20 = nI (kM2 X Yy Zz) := by
        rw [e20]
        unfold kM2
        by_cases h : kMd X Yy Zz = kHi X Yy Zz
        · rw [if_pos (by rw [h]), if_pos h]
        · rw [if_neg (fun y => h ((nI_eq (by omega) (by omega)).mp y)), if_neg h]
      have c3 : kM2 X Yy Zz < 4096 := by unfold kM2; split <;> omega
      rw [e17, e19, e20, nI_l (by omega), nI_l (by omega), nI_l (by omega), lN_shl sh24 (by omega), lN_shl sh12 (by omega), lN_or2, lN_or2, or24 c3 (by omega), show (1 : Int64) = lN 1 from rfl, lN_add]
      exact hk
  · have hk := k ad
    unfold kbN at hk
    rw [if_neg (show ¬ holdW σ (dC σ a) s = true from hc)] at hk
    exact hk
def POp (q : Ro) : Prop := q = (7, 0, 0) ∨ q = (34, 2, 0) ∨ q = (34, 6, 0) ∨ q = (34, 7, 0) ∨ q = (34, 8, 0)
theorem c_open (hG : gok G) {N m a0 e0 : Nat} {od kd fr un cc : Nat → Nat} (hN : N ≤ 4096) (hL : KLn (nR ρ) N) (hod : Hv ρ (34, 4, 0) N od) (hoN : ∀ i, a0 ≤ i → i < e0 → od i < N) (hkd : Hv ρ (34, 2, 0) N kd) (h6 : Hv ρ (34, 6, 0) m fr) (h7 : Hv ρ (34, 7, 0) m un) (h8 : Hv ρ (34, 8, 0) m cc) (hm : m < N) (h0 : iR ρ (7, 0, 0) 0 = nI m) (hae : a0 ≤ e0) (he : e0 ≤ N)
    (k : ∀ ad ρ' (kd' : Nat → Nat), Hv ρ' (34, 2, 0) N kd' → (∀ i, a0 ≤ i → i < e0 → kd' (od i) = m) → (∀ s, (∀ i, a0 ≤ i → i < e0 → od i ≠ s) → kd' s = kd s) → Hv ρ' (34, 6, 0) (m + 1) (va_up fr m a0) → Hv ρ' (34, 7, 0) (m + 1) (va_up un m e0) → Hv ρ' (34, 8, 0) (m + 1) (va_up cc m 0) → iR ρ' (7, 0, 0) 0 = nI (m + 1) → iR ρ' (7, 0, 0) 11 = iR ρ (7, 0, 0) 11 → Ag POp ρ ρ' → nR ρ' = nR ρ → K ad (some (.int (nI m))) ρ') :
    semV G r_Ki_open [] (fun ad => [.ref (ad (7, 0, 0)), .int (nI a0), .int (nI e0)]) ρ K := by
  obtain ⟨l1, -⟩ := hL
  have l2 := l1 2 (by omega); have l4 := l1 4 (by omega); have l6 := l1 6 (by omega); have l7 := l1 7 (by omega); have l8 := l1 8 (by omega)
  refine semV_intro yk_Ki_open.2.2.2.2 (fun _ => Nat.le_of_ble_eq_true rfl) (fun M Q ad0 hM => ?_)
  refine T_Ki_open_0 hG hM _ _ ρ ?_
  rw [h0, nI_clamp (by omega), nI_1]
  intro ρ1 e1
  refine ⟨in_nI (by rw [e1, nR_pI]; omega) (by omega), fun ρ2 e2 => ⟨in_nI (by rw [e2, e1, nR_pI, nR_pI]; omega) (by omega), fun ρ3 e3 => ⟨in_nI (by rw [e3, e2, e1, nR_pI, nR_pI, nR_pI]; omega) (by omega), fun ρ4 e4 => ?_⟩⟩⟩
  have n4 : nR ρ4 = nR ρ := by rw [e4, e3, e2, e1]; rfl
  have a4 : Ag POp ρ ρ4 := by
    rw [e4, e3, e2, e1]
    exact Ag_tr (Ag_pI (Or.inl rfl)) (Ag_tr (Ag_pI (Or.inr (Or.inr (Or.inl rfl)))) (Ag_tr (Ag_pI (Or.inr (Or.inr (Or.inr (Or.inl rfl))))) (Ag_pI (Or.inr (Or.inr (Or.inr (Or.inr rfl)))))))
  have f6 : Hv ρ4 (34, 6, 0) (m + 1) (va_up fr m a0) := by
    rw [e4, e3, e2, e1]; exact Hv_o (by decide) (Hv_o (by decide) (Hv_x (Hv_o (by decide) h6)))
  have f7 : Hv ρ4 (34, 7, 0) (m + 1) (va_up un m e0) := by
    rw [e4, e3, e2, e1]; exact Hv_o (by decide) (Hv_x (Hv_o (by decide) (Hv_o (by decide) h7)))
  have f8 : Hv ρ4 (34, 8, 0) (m + 1) (va_up cc m 0) := by
    rw [e4, e3, e2, e1]; exact Hv_x (y := 0) (Hv_o (by decide) (Hv_o (by decide) (Hv_o (by decide) h8)))
  have g0 : iR ρ4 (7, 0, 0) 0 = nI (m + 1) := by
    rw [e4, iR_pI, if_neg (by simp), e3, iR_pI, if_neg (by simp), e2, iR_pI, if_neg (by simp), e1, iR_pI, if_pos ⟨rfl, rfl⟩]
  have g11 : iR ρ4 (7, 0, 0) 11 = iR ρ (7, 0, 0) 11 := by
    rw [e4, iR_pI, if_neg (by simp), e3, iR_pI, if_neg (by simp), e2, iR_pI, if_neg (by simp), e1, iR_pI, if_neg (by simp)]
  have d4 : Hv ρ4 (34, 2, 0) N kd := by
    rw [e4, e3, e2, e1]; exact Hv_o (by decide) (Hv_o (by decide) (Hv_o (by decide) (Hv_o (by decide) hkd)))
  have o4 : Hv ρ4 (34, 4, 0) N od := by
    rw [e4, e3, e2, e1]; exact Hv_o (by decide) (Hv_o (by decide) (Hv_o (by decide) (Hv_o (by decide) hod)))
  have key : ∀ dd i ρ5 (kd5 : Nat → Nat), i + dd = e0 → a0 ≤ i → Ag (fun q => q = (34, 2, 0)) ρ4 ρ5 → nR ρ5 = nR ρ → Hv ρ5 (34, 2, 0) N kd5 → (∀ j, a0 ≤ j → j < i → kd5 (od j) = m) → (∀ s, (∀ j, a0 ≤ j → j < i → od j ≠ s) → kd5 s = kd s) → Y G [] ad0 M Q 39 (fun ad => [(0, .ref (ad (7, 0, 0))), (2, .int (nI e0)), (3, .int (nI m)), (4, .int (nI i))]) (fun ad => []) ρ5 := by
    intro dd
    induction dd with
    | zero =>
      intro i ρ5 kd5 hdd hi a5 n5 d5 x1 x2
      have ei : i = e0 := by omega
      subst ei
      refine T_Ki_open_39 hG hM _ _ _ ρ5 ⟨fun _ ad => k ad ρ5 kd5 d5 x1 x2 (Hv_ag f6 a5 (by decide)) (Hv_ag f7 a5 (by decide)) (Hv_ag f8 a5 (by decide)) (by rw [(a5 (7, 0, 0) (by simp)).2.1]; exact g0) (by rw [(a5 (7, 0, 0) (by simp)).2.1]; exact g11) (Ag_tr a4 (Ag_mono a5 (fun q h => Or.inr (Or.inl h)))) n5, fun z => absurd ((nI_leI (by omega) (by omega)).mpr (Nat.le_refl _)) z⟩
    | succ dd ih =>
      intro i ρ5 kd5 hdd hi a5 n5 d5 x1 x2
      have hiN : i < N := by omega
      have ho := hoN i hi (by omega)
      refine T_Ki_open_39 hG hM _ _ _ ρ5 ⟨fun z => absurd ((nI_leI (by omega) (by omega)).mp z) (by omega), fun _ => ⟨in_nI (by rw [n5]; omega) (by omega), ?_⟩⟩
      rw [nI_clamp (by omega), Hv_ag o4 a5 (by decide) i hiN, nI_clamp (by omega), nI_1]
      refine ⟨in_nI (by rw [n5]; omega) (by omega), fun ρ6 e6 => ?_⟩
      refine ih (i + 1) ρ6 (va_up kd5 (od i) m) (by omega) (by omega) (Ag_tr a5 (by rw [e6]; exact Ag_pI rfl)) (by rw [e6]; exact n5) (by rw [e6]; exact Hv_s d5) (fun j h1 h2 => ?_) (fun s hs => ?_)
      · by_cases e : od j = od i
        · rw [e, ups]
        · rw [upn e]
          exact x1 j h1 (by
            by_cases ej : j = i
            · rw [ej] at e; exact absurd rfl e
            · omega)
      · have : s ≠ od i := fun z => hs i hi (by omega) z.symm
        rw [upn this]
        exact x2 s (fun j h1 h2 => hs j h1 (by omega))
  exact key (e0 - a0) a0 ρ4 kd (by omega) (Nat.le_refl _) Ag_rf n4 d4 (fun j h1 h2 => absurd h2 (by omega)) (fun _ _ => rfl)
theorem c_findLeast (hG : gok G) {N m : Nat} {kd : Nat → Nat} (hN : N ≤ 4096) (hL : KLn (nR ρ) N) (hn : nR ρ (34, 3, 0) < 2 ^ 31) (hkd : Hv ρ (34, 2, 0) N kd) (hm : ∀ s, s < N → kd s < m) (hmN : m ≤ N) (h0 : iR ρ (7, 0, 0) 0 = nI m)
    (k : ∀ ad ρ', (∀ s, s < N → ∃ f, f ≤ s ∧ kd f = kd s ∧ (∀ u, u < f → kd u ≠ kd s) ∧ iR ρ' (34, 3, 0) (kd s) = nI f) → Ag (fun q => q = (34, 3, 0)) ρ ρ' → nR ρ' = nR ρ → K ad none ρ') :
    semV G r_Ki_findLeast [] (fun ad => [.ref (ad (7, 0, 0)), .int (nI N)]) ρ K := by
  obtain ⟨l1, -⟩ := hL
  have l2 := l1 2 (by omega); have l3 := l1 3 (by omega)
  refine semV_intro yk_Ki_findLeast.2.2.2.2 (fun _ => Nat.le_of_ble_eq_true rfl) (fun M Q ad0 hM => ?_)
  refine T_Ki_findLeast_0 hG hM _ ρ ?_
  rw [h0]
  refine c_fill (a := 0) (b := m) hG rfl rfl (by omega) (by omega) hn (fun ad => ⟨rfl, ?_⟩)
  have key : ∀ dd s ρ1 (ls : Nat → Option Nat), s + dd = N → Ag (fun q => q = (34, 3, 0)) ρ ρ1 → nR ρ1 = nR ρ → (∀ b, b < m → iR ρ1 (34, 3, 0) b = oI (ls b)) → (∀ b f, ls b = some f ↔ f < s ∧ kd f = b ∧ ∀ u, u < f → kd u ≠ b) → Y G [] ad0 M Q 15 (fun ad => [(0, .ref (ad (7, 0, 0))), (1, .int (nI N)), (2, .int (nI s))]) (fun ad => []) ρ1 := by
    intro dd
    induction dd with
    | zero =>
      intro s ρ1 ls hdd a1 n1 r1 hls
      have es : s = N := by omega
      subst es
      refine T_Ki_findLeast_15 hG hM _ _ ρ1 ⟨fun _ ad => k ad ρ1 (fun u hu => ?_) a1 n1, fun z => absurd ((nI_leI (by omega) (by omega)).mpr (Nat.le_refl _)) z⟩
      obtain ⟨f, h1, h2⟩ := pk_least (fun f => kd f = kd u) ⟨u, rfl⟩
      have hfu : f ≤ u := by
        rcases Nat.lt_or_ge u f with q | q
        · exact absurd rfl (h2 u q)
        · exact q
      refine ⟨f, hfu, h1, h2, ?_⟩
      rw [r1 _ (hm u hu), (hls (kd u) f).mpr ⟨by omega, h1, h2⟩]; rfl
    | succ dd ih =>
      intro s ρ1 ls hdd a1 n1 r1 hls
      have hs : s < N := by omega
      have hk := hm s hs
      have d1 : Hv ρ1 (34, 2, 0) N kd := Hv_ag hkd a1 (by decide)
      refine T_Ki_findLeast_15 hG hM _ _ ρ1 ⟨fun z => absurd ((nI_leI (by omega) (by omega)).mp z) (by omega), fun _ => ⟨in_nI (by rw [n1]; omega) (by omega), ?_⟩⟩
      rw [nI_clamp (n := s) (by omega), d1 s hs, nI_clamp (n := kd s) (by omega), r1 _ hk, nI_1]
      have hm1 := oI_m1 (o := ls (kd s)) (fun f hf => by have := ((hls _ _).mp hf).1; omega)
      refine ⟨in_nI (by rw [n1]; omega) (by omega), fun z => ⟨in_nI (by rw [n1]; omega) (by omega), in_nI (by rw [n1]; omega) (by omega), fun ρ7 e7 => ?_⟩, fun z => ?_⟩
      · have z := hm1.mp z
        have hno : ∀ u, u < s → kd u ≠ kd s := by
          intro u hu e
          obtain ⟨f, h1, h2⟩ := pk_least (fun f => kd f = kd s) ⟨u, e⟩
          have hfu : f ≤ u := by
            rcases Nat.lt_or_ge u f with q | q
            · exact absurd e (h2 u q)
            · exact q
          rw [(hls (kd s) f).mpr ⟨by omega, h1, h2⟩] at z
          cases z
        refine ih (s + 1) ρ7 (va_up ls (kd s) (some s)) (by omega) (Ag_tr a1 (by rw [e7]; exact Ag_pI rfl)) (by rw [e7]; exact n1) (fun b hb => ?_) (fun b f => ?_)
        · rw [e7, iR_pI]
          by_cases e : b = kd s
          · rw [if_pos ⟨rfl, e⟩, e, ups]; rfl
          · rw [if_neg (fun y => e y.2), upn e]; exact r1 b hb
        · by_cases e : b = kd s
          · rw [e, ups]
            constructor
            · intro y
              cases y
              exact ⟨by omega, rfl, hno⟩
            · rintro ⟨y1, y2, y3⟩
              by_cases ef : f = s
              · rw [ef]
              · exact absurd y2 (hno f (by omega))
          · rw [upn e, hls b f]
            constructor
            · rintro ⟨y1, y2, y3⟩; exact ⟨by omega, y2, y3⟩
            · rintro ⟨y1, y2, y3⟩
              refine ⟨?_, y2, y3⟩
              by_cases ef : f = s
              · rw [ef] at y2; exact absurd y2.symm e
              · omega
      · refine ih (s + 1) ρ1 ls (by omega) a1 n1 r1 (fun b f => ?_)
        rw [hls b f]
        constructor
        · rintro ⟨y1, y2, y3⟩; exact ⟨by omega, y2, y3⟩
        · rintro ⟨y1, y2, y3⟩
          refine ⟨?_, y2, y3⟩
          by_cases ef : f = s
          · exfalso
            rw [ef] at y2 y3
            cases hx : ls (kd s) with
            | none => exact z (hm1.mpr hx)
            | some g =>
              obtain ⟨g1, g2, g3⟩ := (hls _ _).mp hx
              exact y3 g g1 (by rw [g2]; exact y2)
          · omega
  refine key N 0 (uI ρ (34, 3, 0) (filR (iR ρ (34, 3, 0)) 0 m (-1))) (fun _ => none) (by omega) (Ag_uI rfl) rfl (fun b hb => ?_) (fun b f => ⟨fun h => (by cases h), fun h => absurd h.1 (by omega)⟩)
  show upR (iR ρ) (34, 3, 0) _ (34, 3, 0) b = -1
  rw [uR_s]
  exact if_pos ⟨by omega, hb⟩
end B31
