/-! SEARCH: the class's search with a bar -/
def barF (σ : Wd) (bt : Option Nat) (bv s : Nat) : Bool := match bt with
  | some t => decide (vl σ s t = bv)
  | none => false
def SS (ρ : Rs) (σ : Wd) (bt : Option Nat) (bv : Nat) (d : Nat → Option Nat) (q : Nat → Nat) (e : Nat) : Prop :=
  nS σ ≤ nR ρ (35, 0, 0) ∧ nS σ ≤ nR ρ (35, 1, 0) ∧ iR ρ (8, 0, 0) 3 = oI bt ∧ (∀ t, bt = some t → iR ρ (8, 0, 0) 4 = nI bv) ∧ iR ρ (8, 0, 0) 2 = nI e ∧ (∀ j, j < e → iR ρ (35, 1, 0) j = nI (q j)) ∧
  (∀ s m, s < nS σ → d s = some m → ¬ iR ρ (35, 0, 0) s = 0) ∧ (∀ s, s < nS σ → ¬ iR ρ (35, 0, 0) s = 0 → (∃ m, d s = some m) ∨ barF σ bt bv s = true)
def PSe (q : Ro) : Prop := q.1 = 8 ∨ q.1 = 35
theorem PSe_nW {q : Ro} (h : PSe q) : nW q := by
  unfold nW wrB
  rcases h with h | h <;> rw [h] <;> rfl
theorem SS_new {ρ : Rs} {σ : Wd} {bt : Option Nat} {bv : Nat} {d : Nat → Option Nat} {q : Nat → Nat} {e t lv : Nat} (h : SS ρ σ bt bv d q e) (hd : d t = none) : SS (pI (pI (pI ρ (35, 0, 0) t 1) (35, 1, 0) e (nI t)) (8, 0, 0) 2 (nI (e + 1))) σ bt bv (va_up d t (some lv)) (va_up q e t) (e + 1) := by
  obtain ⟨h1, h2, h3, h4, h5, h6, h7, h8⟩ := h
  have r0 : ∀ s, iR (pI (pI (pI ρ (35, 0, 0) t 1) (35, 1, 0) e (nI t)) (8, 0, 0) 2 (nI (e + 1))) (35, 0, 0) s = if s = t then 1 else iR ρ (35, 0, 0) s := by
    intro s
    rw [iR_pI, if_neg (by simp), iR_pI, if_neg (by simp), iR_pI]
    by_cases e1 : s = t
    · rw [if_pos ⟨rfl, e1⟩, if_pos e1]
    · rw [if_neg (fun z => e1 z.2), if_neg e1]
  refine ⟨h1, h2, ?_, fun u hu => ?_, ?_, fun j hj => ?_, fun s m hs hm => ?_, fun s hs hz => ?_⟩
  · rw [iR_pI, if_neg (by simp), iR_pI, if_neg (by simp), iR_pI, if_neg (by simp)]; exact h3
  · rw [iR_pI, if_neg (by simp), iR_pI, if_neg (by simp), iR_pI, if_neg (by simp)]; exact h4 u hu
  · rw [iR_pI, if_pos ⟨rfl, rfl⟩]
  · rw [iR_pI, if_neg (by simp), iR_pI]
    by_cases e1 : j = e
    · subst e1; rw [if_pos ⟨rfl, rfl⟩, ups]
    · rw [if_neg (fun z => e1 z.2), upn e1, iR_pI, if_neg (by simp)]; exact h6 j (by omega)
  · rw [r0]
    by_cases e1 : s = t
    · rw [if_pos e1]; decide
    · rw [if_neg e1]
      rw [upn e1] at hm
      exact h7 s m hs hm
  · rw [r0] at hz
    by_cases e1 : s = t
    · subst e1; exact Or.inl ⟨lv, ups⟩
    · rw [if_neg e1] at hz
      rw [upn e1]; exact h8 s hs hz
theorem SS_bar {ρ : Rs} {σ : Wd} {bt : Option Nat} {bv : Nat} {d : Nat → Option Nat} {q : Nat → Nat} {e t : Nat} (h : SS ρ σ bt bv d q e) (hb : barF σ bt bv t = true) : SS (pI ρ (35, 0, 0) t 1) σ bt bv d q e := by
  obtain ⟨h1, h2, h3, h4, h5, h6, h7, h8⟩ := h
  have r0 : ∀ s, iR (pI ρ (35, 0, 0) t 1) (35, 0, 0) s = if s = t then 1 else iR ρ (35, 0, 0) s := by
    intro s
    rw [iR_pI]
    by_cases e1 : s = t
    · rw [if_pos ⟨rfl, e1⟩, if_pos e1]
    · rw [if_neg (fun z => e1 z.2), if_neg e1]
  refine ⟨h1, h2, ?_, fun u hu => ?_, ?_, fun j hj => ?_, fun s m hs hm => ?_, fun s hs hz => ?_⟩
  · rw [iR_pI, if_neg (by simp)]; exact h3
  · rw [iR_pI, if_neg (by simp)]; exact h4 u hu
  · rw [iR_pI, if_neg (by simp)]; exact h5
  · rw [iR_pI, if_neg (by simp)]; exact h6 j hj
  · rw [r0]
    by_cases e1 : s = t
    · rw [if_pos e1]; decide
    · rw [if_neg e1]; exact h7 s m hs hm
  · rw [r0] at hz
    by_cases e1 : s = t
    · subst e1; exact Or.inr hb
    · rw [if_neg e1] at hz; exact h8 s hs hz
section B27
variable {G : Gc} {ρ : Rs} {K : (Ro → Nat) → Option Value → Rs → Prop}
theorem c_visit (hG : gok G) {σ : Wd} {bt : Option Nat} {bv : Nat} {d : Nat → Option Nat} {q : Nat → Nat} {e t lv : Nat} (hR : RWr ρ σ) (hM1 : nS σ ≤ nR ρ (33, 0, 0)) (hM2 : ∀ s, s < nS σ → iR ρ (33, 0, 0) s = bI (aimW σ s)) (hbt : ∀ x, bt = some x → x < dT σ) (hbv : bv < 4) (h : SS ρ σ bt bv d q e) (ht : t < nS σ) (he : d t = none → e < nS σ)
    (k0 : ∀ ad ρ', SS ρ' σ bt bv d q e → (barF σ bt bv t = false → ∃ m, d t = some m) → Ag PSe ρ ρ' → K ad (some (.int 0)) ρ')
    (k1 : ∀ ad ρ', d t = none → barF σ bt bv t = false → SS ρ' σ bt bv (va_up d t (some lv)) (va_up q e t) (e + 1) → Ag PSe ρ ρ' → K ad (some (.int (bI (aimW σ t)))) ρ') :
    semV G r_Se_visit [] (fun ad => [.ref (ad (8, 0, 0)), .ref (ad (1, 0, 0)), .ref (ad (33, 0, 0)), .int (nI t)]) ρ K := by
  have h4 := hR.1.2.2.2.1
  have hT8 := hR.1.2.2.1
  have hS := h
  obtain ⟨s1, s2, s3, s4, s5, s6, s7, s8⟩ := h
  refine semV_intro yk_Se_visit.2.2.2.2 (fun _ => Nat.le_of_ble_eq_true rfl) (fun M Q ad0 hM => ?_)
  refine T_Se_visit_0 hG hM _ ρ ⟨in_nI (by omega) (by omega), ?_⟩
  rw [nI_clamp (by omega)]
  refine ⟨fun z => ⟨in_nI (by omega) (by omega), fun ρ2 e2 => ?_⟩, fun z ad => k0 ad ρ hS (fun hb => ?_) Ag_rf⟩
  · have hdn : d t = none := by
      cases hx : d t with
      | none => rfl
      | some m => exact absurd z (s7 t m ht hx)
    have heN := he hdn
    have b3 : iR ρ2 (8, 0, 0) 3 = oI bt := by rw [e2, iR_pI, if_neg (by simp)]; exact s3
    have b2 : iR ρ2 (8, 0, 0) 2 = nI e := by rw [e2, iR_pI, if_neg (by simp)]; exact s5
    have a2 : Ag PSe ρ ρ2 := by rw [e2]; exact Ag_pI (Or.inr rfl)
    rw [b3, b2]
    cases hbt2 : bt with
    | none =>
      refine ⟨fun _ => ⟨in_nI (by rw [e2, nR_pI]; omega) (by omega), ?_⟩, fun y => absurd rfl y⟩
      rw [nI_clamp (by omega)]
      intro ρ3 e3 ρ4 e4
      have c2 : iR ρ3 (8, 0, 0) 2 = nI e := by rw [e3, iR_pI, if_neg (by simp)]; exact b2
      rw [c2, nI_1] at e4
      have e4 : ρ4 = pI (pI (pI ρ (35, 0, 0) t 1) (35, 1, 0) e (nI t)) (8, 0, 0) 2 (nI (e + 1)) := by rw [e4, e3, e2]
      have a4 : Ag PSe ρ ρ4 := by rw [e4]; exact Ag_tr (Ag_pI (Or.inr rfl)) (Ag_tr (Ag_pI (Or.inr rfl)) (Ag_pI (Or.inl rfl)))
      rw [(a4 (33, 0, 0) (by simp [PSe])).2.1, hM2 t ht]
      refine ⟨in_nI (by rw [(a4 (33, 0, 0) (by simp [PSe])).1]; omega) (by omega), bI_nb _, fun ad => k1 ad ρ4 hdn (by rw [hbt2]; rfl) (by rw [e4]; exact SS_new hS hdn) a4⟩
    | some x =>
      have hx := hbt x hbt2
      have hm1 : ¬ oI (some x) = -1 := fun y => by have := (oI_m1 (o := some x) (fun m hm => by cases hm; omega)).mp y; cases this
      refine ⟨fun y => absurd y hm1, fun _ => ⟨in_nI (by rw [e2, nR_pI]; have := hR.2.2.2.2.1.1; omega) (by omega), ?_⟩⟩
      have hT2 : RT ρ2 σ := (RWr_ag hR (Ag_mono a2 (fun _ => PSe_nW))).1
      rw [show iR ρ2 (30, 6, 0) t = nI (pkW σ t) by rw [(a2 (30, 6, 0) (by simp [PSe])).2.1]; exact hR.2.2.2.2.1.2.2 t ht]
      refine c_valueIn hG (pkW_lt hT2) (by omega) (fun ad => ⟨_, rfl, ?_⟩)
      rw [pkW_val hT2 hx, show iR ρ2 (8, 0, 0) 4 = nI bv by rw [e2, iR_pI, if_neg (by simp)]; exact s4 x hbt2, b2]
      have hvl : vl σ t x < 4 := by
        have hz := hR.1.2.2.2.2.1 x hx
        have : vl σ t x < dS σ x := Nat.mod_lt _ (by omega)
        omega
      rw [nI_eq (by omega) (by omega)]
      refine ⟨fun y ad => ?_, fun y => ⟨in_nI (by rw [e2, nR_pI]; omega) (by omega), ?_⟩⟩
      · have hb : barF σ bt bv t = true := by rw [hbt2]; exact decide_eq_true y
        refine k0 ad ρ2 (by rw [e2]; exact SS_bar hS hb) (fun hf => by rw [hb] at hf; cases hf) a2
      · rw [nI_clamp (by omega)]
        intro ρ3 e3 ρ4 e4
        have c2 : iR ρ3 (8, 0, 0) 2 = nI e := by rw [e3, iR_pI, if_neg (by simp)]; exact b2
        rw [c2, nI_1] at e4
        have e4 : ρ4 = pI (pI (pI ρ (35, 0, 0) t 1) (35, 1, 0) e (nI t)) (8, 0, 0) 2 (nI (e + 1)) := by rw [e4, e3, e2]
        have a4 : Ag PSe ρ ρ4 := by rw [e4]; exact Ag_tr (Ag_pI (Or.inr rfl)) (Ag_tr (Ag_pI (Or.inr rfl)) (Ag_pI (Or.inl rfl)))
        rw [(a4 (33, 0, 0) (by simp [PSe])).2.1, hM2 t ht]
        refine ⟨in_nI (by rw [(a4 (33, 0, 0) (by simp [PSe])).1]; omega) (by omega), bI_nb _, fun ad => k1 ad ρ4 hdn (by rw [hbt2]; exact decide_eq_false y) (by rw [e4]; exact SS_new hS hdn) a4⟩
  · rcases s8 t ht z with y | y
    · exact y
    · rw [hb] at y; cases y
theorem c_begin (hG : gok G) {σ : Wd} {bt : Option Nat} {bv : Nat} (h4 : nS σ ≤ 4096) (h3 : iR ρ (8, 0, 0) 3 = oI bt) (h5 : ∀ t, bt = some t → iR ρ (8, 0, 0) 4 = nI bv) (k : ∀ ad ρ' q, SS ρ' σ bt bv (fun _ => none) q 0 → Ag PSe ρ ρ' → K ad none ρ') : semV G r_Se_begin [35] (fun ad => [.ref (ad (8, 0, 0)), .int (nI (nS σ))]) ρ K := by
  refine semV_intro yk_Se_begin.2.2.2.2 (fun _ => Nat.le_of_ble_eq_true rfl) (fun M Q ad0 hM => ?_)
  refine T_Se_begin_0 hG hM _ ρ ⟨nS σ, rfl, h4, fun ρ1 e1 => ⟨nS σ, rfl, h4, fun ρ7 e7 ρ8 e8 => ?_⟩⟩
  have a1 : Ag (fun q => q = (35, 0, 0)) ρ ρ1 := by rw [e1]; exact Ag_rowR rfl
  have a7 : Ag (fun q => q = (35, 1, 0)) ρ1 ρ7 := by rw [e7]; exact Ag_rowR rfl
  have a8 : Ag PSe ρ ρ8 := Ag_tr (Ag_mono a1 (fun q h => Or.inr (by rw [h]))) (Ag_tr (Ag_mono a7 (fun q h => Or.inr (by rw [h]))) (by rw [e8]; exact Ag_pI (Or.inl rfl)))
  have n0 : nS σ ≤ nR ρ8 (35, 0, 0) := by rw [e8, nR_pI, (a7 (35, 0, 0) (by simp)).1, e1]; exact rowR_ge h4
  have n1 : nS σ ≤ nR ρ8 (35, 1, 0) := by rw [e8, nR_pI, e7]; exact rowR_ge h4
  have i8 : ∀ j, j ≠ 2 → iR ρ8 (8, 0, 0) j = iR ρ (8, 0, 0) j := fun j hj => by rw [e8, iR_pI, if_neg (fun z => hj z.2), (a7 (8, 0, 0) (by simp)).2.1, (a1 (8, 0, 0) (by simp)).2.1]
  have key : ∀ dd s ρ2, s + dd = nS σ → Ag (fun q => q = (35, 0, 0)) ρ8 ρ2 → nR ρ2 = nR ρ8 → (∀ u, u < s → iR ρ2 (35, 0, 0) u = 0) → Y G [35] ad0 M Q 31 (fun ad => [(0, .ref (ad (8, 0, 0))), (1, .int (nI (nS σ))), (2, .int (nI s))]) (fun ad => []) ρ2 := by
    intro dd
    induction dd with
    | zero =>
      intro s ρ2 hdd a2 hn hz
      have es : s = nS σ := by omega
      subst es
      have c8 := (a2 (8, 0, 0) (by simp)).2.1
      refine T_Se_begin_31 hG hM _ _ ρ2 ⟨fun _ ad => k ad ρ2 (fun _ => 0) ⟨by rw [hn]; exact n0, by rw [hn]; exact n1, by rw [c8, i8 3 (by omega)]; exact h3, fun t ht => by rw [c8, i8 4 (by omega)]; exact h5 t ht, by rw [c8, e8, iR_pI, if_pos ⟨rfl, rfl⟩]; rfl, fun j hj => absurd hj (by omega), fun s m _ hm => (by cases hm), fun s hs hy => absurd (hz s hs) hy⟩ (Ag_tr a8 (Ag_mono a2 (fun q h => Or.inr (by rw [h])))), fun z => absurd ((nI_leI (by omega) (by omega)).mpr (Nat.le_refl _)) z⟩
    | succ dd ih =>
      intro s ρ2 hdd a2 hn hz
      refine T_Se_begin_31 hG hM _ _ ρ2 ⟨fun z => absurd ((nI_leI (by omega) (by omega)).mp z) (by omega), fun _ => ⟨in_nI (by rw [hn]; omega) (by omega), ?_⟩⟩
      rw [nI_clamp (by omega), nI_1]
      intro ρ3 e3
      refine ih (s + 1) ρ3 (by omega) (Ag_tr a2 (by rw [e3]; exact Ag_pI rfl)) (by rw [e3]; exact hn) (fun u hu => ?_)
      rw [e3, iR_pI]
      by_cases e : u = s
      · rw [if_pos ⟨rfl, e⟩]
      · rw [if_neg (fun z => e z.2)]; exact hz u (by omega)
  exact key (nS σ) 0 ρ8 (by omega) Ag_rf rfl (fun u hu => absurd hu (by omega))
theorem c_wins (hG : gok G) {σ : Wd} {ba bt : Option Nat} {bv : Nat} {v6 : Int32} (hR : RWr ρ σ) (hB : dB σ < nS σ) (hM1 : nS σ ≤ nR ρ (33, 0, 0)) (hM2 : ∀ s, s < nS σ → iR ρ (33, 0, 0) s = bI (aimW σ s)) (hba : ∀ a, ba = some a → a < 12) (hbt : ∀ x, bt = some x → x < dT σ ∧ v6 = nI bv) (hbv : bv < 4)
    (k1 : ∀ ad ρ', isRW σ ba (barF σ bt bv) → Ag PSe ρ ρ' → K ad (some (.int 1)) ρ') (k0 : ∀ ad ρ', ¬ isRW σ ba (barF σ bt bv) → Ag PSe ρ ρ' → K ad (some (.int 0)) ρ') :
    semV G r_Se_wins [35] (fun ad => [.ref (ad (8, 0, 0)), .ref (ad (1, 0, 0)), .ref (ad (33, 0, 0)), .int (nI (dB σ)), .int (oI ba), .int (oI bt), .int v6]) ρ K := by
  have h12 := hR.2.1
  have h4 := hR.1.2.2.2.1
  refine semV_intro yk_Se_wins.2.2.2.2 (fun _ => Nat.le_of_ble_eq_true rfl) (fun M Q ad0 hM => ?_)
  have hRw : ∀ {ρ1 : Rs}, Ag PSe ρ ρ1 → RWr ρ1 σ ∧ nS σ ≤ nR ρ1 (33, 0, 0) ∧ ∀ s, s < nS σ → iR ρ1 (33, 0, 0) s = bI (aimW σ s) := fun hag => ⟨RWr_ag hR (Ag_mono hag (fun _ => PSe_nW)), by rw [(hag (33, 0, 0) (by simp [PSe])).1]; exact hM1, by rw [(hag (33, 0, 0) (by simp [PSe])).2.1]; exact hM2⟩
  have k35 : ∀ dd i ρ1 d q e, i + dd = nS σ → Ag PSe ρ ρ1 → SS ρ1 σ bt bv d q e → SI σ ba (barF σ bt bv) d q i e → (∀ s n, d s = some n → aimW σ s = false) → Y G [35] ad0 M Q 35 (fun ad => [(0, .ref (ad (8, 0, 0))), (1, .ref (ad (1, 0, 0))), (2, .ref (ad (33, 0, 0))), (4, .int (oI ba)), (7, .int (nI i))]) (fun ad => []) ρ1 := by
    intro dd
    induction dd with
    | zero =>
      intro i ρ1 d q e hdd hag hS hI hno
      have he := BQ_le hI.1
      exact T_Se_wins_35 hG hM _ _ ρ1 ⟨fun _ ad => k0 ad ρ1 (SI_end hI (by omega) hno) hag, fun z => absurd (by rw [hS.2.2.2.2.1]; exact (nI_leI (by omega) (by omega)).mpr (by omega)) z⟩
    | succ dd ih =>
      intro i ρ1 d q e hdd hag hS hI hno
      have he := BQ_le hI.1
      obtain ⟨hR1, -, -⟩ := hRw hag
      refine T_Se_wins_35 hG hM _ _ ρ1 ⟨fun z ad => k0 ad ρ1 (SI_end hI (by rw [hS.2.2.2.2.1] at z; exact (nI_leI (by omega) (by omega)).mp z) hno) hag, fun z => ⟨fun y => absurd (by rw [hR1.1.2.1] at y; exact (nI_leI (by omega) (by omega)).mp y) (by omega), fun _ => ?_⟩⟩
      have hie : i < e := by
        rw [hS.2.2.2.2.1] at z
        exact Nat.not_le.mp (fun y => z ((nI_leI (by omega) (by omega)).mpr y))
      obtain ⟨hx, n, hn⟩ := hI.1.1 i hie
      have k56 : ∀ da a ρ2 d2 q2 e2, a + da = dA σ → Ag PSe ρ ρ2 → SS ρ2 σ bt bv d2 q2 e2 → SI σ ba (barF σ bt bv) d2 q2 i e2 → (∀ s m, d2 s = some m → aimW σ s = false) → i < e2 → q2 i = q i → d2 (q i) = some n → (∀ b j u, b < a → j < dO σ b → ba ≠ some b → nxW σ (q i) b j = some u → barF σ bt bv u = false → ∃ m, d2 u = some m) → Y G [35] ad0 M Q 56 (fun ad => [(0, .ref (ad (8, 0, 0))), (1, .ref (ad (1, 0, 0))), (2, .ref (ad (33, 0, 0))), (4, .int (oI ba)), (7, .int (nI i)), (8, .int (nI a))]) (fun ad => []) ρ2 := by
        intro da
        induction da with
        | zero =>
          intro a ρ2 d2 q2 e2 hda hag2 hS2 hI2 hno2 hi2 hq2 hd2 hc
          have ea : a = dA σ := by omega
          subst ea
          obtain ⟨hR2, -, -⟩ := hRw hag2
          refine T_Se_wins_56 hG hM _ _ _ ρ2 ⟨fun _ => ?_, fun z => absurd (by rw [hR2.2.2.1]; exact (nI_leI (by omega) (by omega)).mpr (Nat.le_refl _)) z⟩
          rw [nI_1]
          refine ih (i + 1) ρ2 d2 q2 e2 (by omega) hag2 hS2 (SI_nx hI2 (fun t hst hb => ?_)) hno2
          obtain ⟨b, j, x1, x2, x3, x4⟩ := hst
          exact hc b j t x1 x2 x3 (by rw [← hq2]; exact x4) hb
        | succ da ih2 =>
          intro a ρ2 d2 q2 e2 hda hag2 hS2 hI2 hno2 hi2 hq2 hd2 hc
          have ha : a < dA σ := by omega
          obtain ⟨hR2, -, -⟩ := hRw hag2
          have hO := hR2.2.2.2.1 a ha
          have hOx := hO.2.1
          have hOy := hO.2.2.1
          have he2 := BQ_le hI2.1
          obtain ⟨s1, s2, s3, s4, s5, s6, s7, s8⟩ := hS2
          have hS2 : SS ρ2 σ bt bv d2 q2 e2 := ⟨s1, s2, s3, s4, s5, s6, s7, s8⟩
          have eba : (nI a = oI ba) ↔ ba = some a := by
            cases hb : ba with
            | none =>
              constructor
              · intro y
                have := (oI_m1 (o := some a) (fun m hm => by cases hm; omega)).mp y
                cases this
              · intro y; cases y
            | some b =>
              have := hba b hb
              show nI a = nI b ↔ _
              rw [nI_eq (by omega) (by omega)]
              exact ⟨fun y => by rw [y], fun y => by cases y; rfl⟩
          refine T_Se_wins_56 hG hM _ _ _ ρ2 ⟨fun z => absurd (by rw [hR2.2.2.1] at z; exact (nI_leI (by omega) (by omega)).mp z) (by omega), fun _ => ⟨vp_in_nI (by omega) (by omega), ?_⟩⟩
          rw [nI_clamp (by omega), nI_clamp (by omega), s6 i hi2, hq2, nI_1]
          have nxt : (∀ j u, j < dO σ a → ba ≠ some a → nxW σ (q i) a j = some u → barF σ bt bv u = false → ∃ m, d2 u = some m) → Y G [35] ad0 M Q 56 (fun ad => [(0, .ref (ad (8, 0, 0))), (1, .ref (ad (1, 0, 0))), (2, .ref (ad (33, 0, 0))), (4, .int (oI ba)), (7, .int (nI i)), (8, .int (nI (a + 1)))]) (fun ad => []) ρ2 := fun hj => ih2 (a + 1) ρ2 d2 q2 e2 (by omega) hag2 hS2 hI2 hno2 hi2 hq2 hd2 (fun b j u x1 x2 x3 x4 x5 => by
            by_cases e : b = a
            · subst e; exact hj j u x2 x3 x4 x5
            · exact hc b j u (by omega) x2 x3 x4 x5)
          refine ⟨fun z => nxt (fun j u _ hne => absurd (eba.mp z) hne), fun z => ⟨in_nI (by omega) (by omega), ?_⟩⟩
          refine c_canBeDone hG (RWr_Es hR2) (by omega) ha hO.2.1 (hR2.2.2.2.2.2.1 a ha) hx (fun hcan ad => ⟨_, rfl, fun z => absurd z (by decide), fun _ => ?_⟩) (fun hcan ad => ⟨_, rfl, fun _ => nxt (fun j u _ _ hu => absurd (nx_canW hu) hcan), fun z => absurd rfl z⟩)
          have k102 : ∀ dk kk ρ3 d3 q3 e3, kk + dk = dO σ a → Ag PSe ρ ρ3 → SS ρ3 σ bt bv d3 q3 e3 → SI σ ba (barF σ bt bv) d3 q3 i e3 → (∀ s m, d3 s = some m → aimW σ s = false) → i < e3 → q3 i = q i → d3 (q i) = some n → (∀ b j u, b < a → j < dO σ b → ba ≠ some b → nxW σ (q i) b j = some u → barF σ bt bv u = false → ∃ m, d3 u = some m) → (∀ j u, j < kk → nxW σ (q i) a j = some u → barF σ bt bv u = false → ∃ m, d3 u = some m) → Y G [35] ad0 M Q 102 (fun ad => [(0, .ref (ad (8, 0, 0))), (1, .ref (ad (1, 0, 0))), (2, .ref (ad (33, 0, 0))), (4, .int (oI ba)), (7, .int (nI i)), (8, .int (nI a)), (9, .ref (ad (20, a, 0))), (10, .int (nI kk))]) (fun ad => []) ρ3 := by
            intro dk
            induction dk with
            | zero =>
              intro kk ρ3 d3 q3 e3 hdk hag3 hS3 hI3 hno3 hi3 hq3 hd3 hc3 hk3
              have ek : kk = dO σ a := by omega
              subst ek
              obtain ⟨hR3, -, -⟩ := hRw hag3
              have hO3 := hR3.2.2.2.1 a ha
              have hO3x := hO3.2.1
              have hO3y := hO3.2.2.1
              refine T_Se_wins_102 hG hM _ _ _ a (by omega) _ ρ3 ⟨fun _ => ?_, fun z => absurd (by rw [hO3.1]; exact (nI_leI (by omega) (by omega)).mpr (Nat.le_refl _)) z⟩
              rw [nI_1]
              exact ih2 (a + 1) ρ3 d3 q3 e3 (by omega) hag3 hS3 hI3 hno3 hi3 hq3 hd3 (fun b j u x1 x2 x3 x4 x5 => by
                by_cases e : b = a
                · subst e; exact hk3 j u x2 x4 x5
                · exact hc3 b j u (by omega) x2 x3 x4 x5)
            | succ dk ih3 =>
              intro kk ρ3 d3 q3 e3 hdk hag3 hS3 hI3 hno3 hi3 hq3 hd3 hc3 hk3
              have hk : kk < dO σ a := by omega
              obtain ⟨hR3, hM31, hM32⟩ := hRw hag3
              have hO3 := hR3.2.2.2.1 a ha
              have hO3x := hO3.2.1
              have hO3y := hO3.2.2.1
              obtain ⟨t, ht⟩ : ∃ t, nxW σ (q i) a kk = some t := ⟨_, nx_some hcan⟩
              have htN := nx_lt (RWr_Es hR3) ha hk ht
              obtain ⟨rn, rv⟩ := RWr_to hR3 ha hk hx
              rw [ht] at rv
              have rv : iR ρ3 (23, a, kk) (q i) = nI t := rv
              have hba2 : ba ≠ some a := fun y => z (eba.mpr y)
              refine T_Se_wins_102 hG hM _ _ _ a (by omega) _ ρ3 ⟨fun z => absurd (by rw [hO3.1] at z; exact (nI_leI (by omega) (by omega)).mp z) (by omega), fun _ => ⟨vp_in_nI (by omega) (by omega), in_nI (by have := hS3.2.1; omega) (by omega), ?_⟩⟩
              rw [nI_clamp (by omega), nI_clamp (by omega), hS3.2.2.2.2.2.1 i hi3, hq3, nI_clamp (by omega), rv, nI_1]
              refine ⟨in_nI (by omega) (by omega), ?_⟩
              refine c_visit (lv := n + 1) hG hR3 hM31 hM32 (fun x hx => (hbt x hx).1) hbv hS3 htN (fun hdn => BQ_lt hI3.1 htN hdn) (fun ad ρ4 g1 g2 g3 => ⟨_, rfl, fun _ => ?_, fun y => absurd rfl y⟩) (fun ad ρ4 g1 g2 g3 g4 => ⟨_, rfl, fun y => ?_, fun y ad => ?_⟩)
              · refine ih3 (kk + 1) ρ4 d3 q3 e3 (by omega) (Ag_tr hag3 g3) g1 hI3 hno3 hi3 hq3 hd3 hc3 (fun j u x1 x2 x3 => ?_)
                by_cases e : j = kk
                · subst e
                  rw [ht] at x2
                  cases x2
                  exact g2 x3
                · exact hk3 j u (by omega) x2 x3
              · have hb := bI_0.mp y
                have hne : q i ≠ t := fun y => by rw [y, g1] at hd3; cases hd3
                refine ih3 (kk + 1) ρ4 (va_up d3 t (some (n + 1))) (va_up q3 e3 t) (e3 + 1) (by omega) (Ag_tr hag3 g4) g3 (SI_in hI3 hi3 (by rw [hq3]; exact hd3) htN g1 ⟨a, kk, ha, hk, hba2, by rw [hq3]; exact ht⟩ g2) (fun s m hm => ?_) (by omega) (by rw [upn (by omega)]; exact hq3) (by rw [upn hne]; exact hd3) (fun b j u x1 x2 x3 x4 x5 => up_some (hc3 b j u x1 x2 x3 x4 x5)) (fun j u x1 x2 x3 => ?_)
                · by_cases e : s = t
                  · rw [e]; exact hb
                  · rw [upn e] at hm; exact hno3 s m hm
                · by_cases e : j = kk
                  · subst e
                    rw [ht] at x2
                    cases x2
                    exact ⟨n + 1, ups⟩
                  · exact up_some (hk3 j u (by omega) x2 x3)
              · have hb : aimW σ t = true := by
                  cases h : aimW σ t with
                  | true => rfl
                  | false => exact absurd (bI_0.mpr h) y
                obtain ⟨-, m, hm⟩ := hI3.2.1 (q i) n hd3
                exact k1 ad ρ4 ⟨m + 1, t, ⟨q i, hm, ⟨a, kk, ha, hk, hba2, ht⟩, g2⟩, hb⟩ (Ag_tr hag3 g4)
          exact k102 (dO σ a) 0 ρ2 d2 q2 e2 (by omega) hag2 hS2 hI2 hno2 hi2 hq2 hd2 hc (fun j u h => absurd h (by omega))
      exact k56 (dA σ) 0 ρ1 d q e (by omega) hag hS hI hno hie rfl hn (fun b j u h => absurd h (by omega))
  refine T_Se_wins_0 hG hM _ _ _ _ ρ (fun ρ1 e1 ρ2 e2 => ?_)
  have a2 : Ag PSe ρ ρ2 := by rw [e2, e1]; exact Ag_tr (Ag_pI (Or.inl rfl)) (Ag_pI (Or.inl rfl))
  rw [(hRw a2).1.1.2.1]
  refine c_begin (bt := bt) (bv := bv) hG h4 (by rw [e2, iR_pI, if_neg (by simp), e1, iR_pI, if_pos ⟨rfl, rfl⟩]) (fun t ht => by rw [e2, iR_pI, if_pos ⟨rfl, rfl⟩]; exact (hbt t ht).2) (fun ad ρ3 q g1 g2 => ⟨rfl, ?_⟩)
  have a3 := Ag_tr a2 g2
  obtain ⟨hR3, hM31, hM32⟩ := hRw a3
  refine c_visit (lv := 0) hG hR3 hM31 hM32 (fun x hx => (hbt x hx).1) hbv g1 hB (fun _ => by omega) (fun ad ρ4 x1 x2 x3 => ⟨_, rfl, fun _ => ?_, fun y => absurd rfl y⟩) (fun ad ρ4 x1 x2 x3 x4 => ⟨_, rfl, fun y => ?_, fun y ad => ?_⟩)
  · have hb : barF σ bt bv (dB σ) = true := by
      cases h : barF σ bt bv (dB σ) with
      | true => rfl
      | false => obtain ⟨m, hm⟩ := x2 h; cases hm
    exact T_Se_wins_35 hG hM _ _ ρ4 ⟨fun _ ad => k0 ad ρ4 (isRW_bar hb) (Ag_tr a3 x3), fun z => absurd (by rw [x1.2.2.2.2.1]; exact (nI_leI (a := 0) (b := 0) (by omega) (by omega)).mpr (Nat.le_refl _)) z⟩
  · have hb := bI_0.mp y
    refine k35 (nS σ) 0 ρ4 (va_up (fun _ => none) (dB σ) (some 0)) (va_up q 0 (dB σ)) 1 (by omega) (Ag_tr a3 x4) x3 (SI_0 hB ups x2) (fun s m hm => ?_)
    by_cases e : s = dB σ
    · rw [e]; exact hb
    · rw [upn e] at hm; cases hm
  · have hb : aimW σ (dB σ) = true := by
      cases h : aimW σ (dB σ) with
      | true => rfl
      | false => exact absurd (bI_0.mpr h) y
    exact k1 ad ρ4 ⟨0, dB σ, ⟨rfl, x2⟩, hb⟩ (Ag_tr a3 x4)
end B27
