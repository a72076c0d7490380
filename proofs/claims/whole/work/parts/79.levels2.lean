/-! LEVELS: ever fewer are trusted; what findNumbers leaves -/
theorem dL_some {C : (Nat → Prop) → Nat → Prop} {aim : Nat → Prop} {d : Nat → Option Nat} (h : ∀ s n, d s = some n ↔ isL C aim s n) (s : Nat) : (d s).isSome = true ↔ ∃ n, lev C aim n s := by
  constructor
  · intro hs
    cases hd : d s with
    | none => rw [hd] at hs; cases hs
    | some n => exact ⟨n, ((h s n).mp hd).1⟩
  · intro hl
    obtain ⟨m, h1, h2⟩ := pk_least (fun n => lev C aim n s) hl
    rw [(h s m).mpr ⟨h1, h2⟩]; rfl
theorem dL_uni {C : (Nat → Prop) → Nat → Prop} {aim : Nat → Prop} {d d' : Nat → Option Nat} (h : ∀ s n, d s = some n ↔ isL C aim s n) (h' : ∀ s n, d' s = some n ↔ isL C aim s n) : d = d' := by
  funext s
  cases hx : d s with
  | none =>
    cases hy : d' s with
    | none => rfl
    | some m => rw [(h s m).mpr ((h' s m).mp hy)] at hx; cases hx
  | some n => rw [(h' s n).mpr ((h s n).mp hx)]
theorem trs_d {σ : Wd} {r : Nat} {d : Nat → Option Nat} (h : ∀ s n, d s = some n ↔ isL (CZ σ (ZFair σ (trs σ r))) (aimP σ) s n) (s : Nat) : (d s).isSome = true ↔ trs σ (r + 1) s := by
  rw [dL_some h s]
  have eC : CZ σ (ZFair σ (trs σ r)) = CFair σ (trs σ r) := by
    funext P s; exact propext CZ_fair
  rw [eC]; exact Iff.rfl
/-- what the numbers of kind w are -/
def isNo (σ : Wd) (w : Nat) (d : Nat → Option Nat) : Prop := if w = 1 then ∀ s n, d s = some n ↔ isL (CZ σ ZMay) (aimP σ) s n else if w = 2 then ∀ s n, d s = some n ↔ isL (CZ σ (ZMust σ)) (aimP σ) s n else isFr σ d
theorem isNo_uni {σ : Wd} {w : Nat} {d d' : Nat → Option Nat} (h : isNo σ w d) (h' : isNo σ w d') : d = d' := by
  unfold isNo at h h'
  split at h
  · exact dL_uni h (by simpa [*] using h')
  · split at h
    · exact dL_uni h (by simpa [*] using h')
    · exact isFr_uni h (by simpa [*] using h')
/-- the numbers of kind w stand -/
def RNu (ρ : Rs) (σ : Wd) (w : Nat) : Prop := ∃ d, isNo σ w d ∧ (∀ s n, d s = some n → s < nS σ ∧ n < nS σ) ∧ nS σ ≤ nR ρ (gNo w) ∧ ∀ s, s < nS σ → iR ρ (gNo w) s = oI (d s)
section B25
variable {G : Gc} {ρ : Rs} {K : (Ro → Nat) → Option Value → Rs → Prop}
def PL3 (q : Ro) : Prop := q = (33, 5, 0) ∨ q = (33, 7, 0) ∨ q = (33, 8, 0)
theorem PL3_nW {q : Ro} (h : PL3 q) : nW q := by
  rcases h with h | h | h <;> rw [h] <;> rfl
theorem c_findLevels (hG : gok G) {σ : Wd} (hR : RWr ρ σ) (hM1 : nS σ ≤ nR ρ (33, 0, 0)) (hM2 : ∀ s, s < nS σ → iR ρ (33, 0, 0) s = bI (aimW σ s)) (hn5 : nS σ ≤ nR ρ (33, 5, 0)) (hn8 : nS σ ≤ nR ρ (33, 8, 0)) (k : ∀ ad ρ', RNu ρ' σ 3 → Ag PL3 ρ ρ' → K ad none ρ') : semV G r_Wi_findLevels [33] (fun ad => [.ref (ad (6, 0, 0)), .ref (ad (1, 0, 0))]) ρ K := by
  have h4 := hR.1.2.2.2.1
  have h1 := hR.1.2.1
  refine semV_intro yk_Wi_findLevels.2.2.2.2 (fun _ => Nat.le_of_ble_eq_true rfl) (fun M Q ad0 hM => ?_)
  have hRw : ∀ {ρ1 : Rs}, Ag PL3 ρ ρ1 → RWr ρ1 σ := fun hag => RWr_ag hR (Ag_mono hag (fun _ => PL3_nW))
  have k45 : ∀ v r ρ1 (tr : Nat → Bool), r + v ≤ nS σ → v = cnt tr (nS σ) → (∀ s, s < nS σ → (tr s = true ↔ trs σ r s)) → Ag PL3 ρ ρ1 → nS σ ≤ nR ρ1 (33, 5, 0) → nS σ ≤ nR ρ1 (33, 7, 0) → nS σ ≤ nR ρ1 (33, 8, 0) → (∀ s, s < nS σ → iR ρ1 (33, 7, 0) s = bI (tr s)) → Y G [33] ad0 M Q 45 (fun ad => [(0, .ref (ad (6, 0, 0))), (1, .ref (ad (1, 0, 0))), (2, .int (nI v)), (3, .int (nI r))]) (fun ad => []) ρ1 := by
    intro v
    induction v using Nat.strongRecOn with
    | ind v ih =>
      intro r ρ1 tr hrv hv htr hag m5 m7 m8 hrow
      have hR1 := hRw hag
      refine T_Wi_findLevels_45 hG hM _ _ ρ1 ⟨fun z => absurd (by rw [hR1.1.2.1] at z; exact (nI_ltI (by omega) (by omega)).mp z) (by omega), fun _ => ?_⟩
      refine c_spreadBack (T := trs σ r) (w := 3) hG (by omega) hR1 (by rw [(hag (33, 0, 0) (by simp [PL3])).1]; exact hM1) (by rw [(hag (33, 0, 0) (by simp [PL3])).2.1]; exact hM2) m5 m8 (fun _ => ⟨m7, fun s hs => ?_⟩) (fun ad ρ2 d d1 d2 d3 d4 d5 => ⟨_, rfl, ?_⟩)
      · rw [hrow s hs, bI_0, ← htr s hs]
        cases tr s <;> simp
      · have d1 : ∀ s n, d s = some n ↔ isL (CZ σ (ZFair σ (trs σ r))) (aimP σ) s n := d1
        have a2 : Ag PL3 ρ ρ2 := Ag_tr hag (Ag_mono d4 (fun q h => h.elim (fun h => Or.inl h) (fun h => Or.inr (Or.inr h))))
        have sub : ∀ s, s < nS σ → (d s).isSome = true → tr s = true := fun s hs h => (htr s hs).mpr (trs_sub r s ((trs_d d1 s).mp h))
        have cle := cnt_mono (p := fun s => (d s).isSome) (p' := tr) (n := nS σ) sub
        have c5 := cnt_le (fun s => (d s).isSome) (nS σ)
        have c6 := cnt_le tr (nS σ)
        refine ⟨fun z ad => ?_, fun z => ?_⟩
        · have z : cnt (fun s => (d s).isSome) (nS σ) = v := (nI_eq (by omega) (by omega)).mp z
          refine k ad ρ2 ⟨d, ?_, d2, by rw [d5]; exact m5, d3⟩ a2
          refine ⟨r, fun s hs => ?_, d1⟩
          have hsN : s < nS σ := by
            match r, hs with
            | 0, hs => exact hs
            | r + 1, ⟨n, hs⟩ => exact lev_in n s hs
          exact (trs_d d1 s).mp (cnt_same sub (by rw [z, hv]) s hsN ((htr s hsN).mpr hs))
        · have zne : cnt (fun s => (d s).isSome) (nS σ) ≠ v := fun y => z (by rw [y])
          have k78 : ∀ dd s ρ3, s + dd = nS σ → Ag PL3 ρ ρ3 → nS σ ≤ nR ρ3 (33, 5, 0) → nS σ ≤ nR ρ3 (33, 7, 0) → nS σ ≤ nR ρ3 (33, 8, 0) → (∀ u, u < nS σ → iR ρ3 (33, 5, 0) u = oI (d u)) → (∀ u, u < s → iR ρ3 (33, 7, 0) u = bI (d u).isSome) → Y G [33] ad0 M Q 78 (fun ad => [(0, .ref (ad (6, 0, 0))), (1, .ref (ad (1, 0, 0))), (2, .int (nI (cnt (fun s => (d s).isSome) (nS σ)))), (3, .int (nI r)), (5, .int (nI s))]) (fun ad => []) ρ3 := by
            intro dd
            induction dd with
            | zero =>
              intro s ρ3 hdd a3 p5 p7 p8 r5 r7
              have es : s = nS σ := by omega
              subst es
              refine T_Wi_findLevels_78 hG hM _ _ _ ρ3 ⟨fun _ => ?_, fun z => absurd (by rw [(hRw a3).1.2.1]; exact (nI_leI (by omega) (by omega)).mpr (Nat.le_refl _)) z⟩
              rw [nI_1]
              exact ih _ (by omega) (r + 1) ρ3 (fun s => (d s).isSome) (by omega) rfl (fun s hs => trs_d d1 s) a3 p5 p7 p8 r7
            | succ dd ih2 =>
              intro s ρ3 hdd a3 p5 p7 p8 r5 r7
              have hs : s < nS σ := by omega
              refine T_Wi_findLevels_78 hG hM _ _ _ ρ3 ⟨fun z => absurd (by rw [(hRw a3).1.2.1] at z; exact (nI_leI (by omega) (by omega)).mp z) (by omega), fun _ => ⟨in_nI (by omega) (by omega), ?_⟩⟩
              rw [nI_clamp (by omega), r5 s hs, nI_1]
              intro z3 ez3
              have ez3 : z3 = bI (d s).isSome := by
                rw [ez3]
                have hm1 := oI_m1 (o := d s) (fun m hm => by have := (d2 s m hm).2; omega)
                cases hd : d s with
                | none => rw [if_pos (by rfl)]; rfl
                | some m => rw [hd] at hm1; rw [if_neg (fun y => by have := hm1.mp y; cases this)]; rfl
              refine ⟨in_nI (by omega) (by omega), by rw [ez3]; exact bI_nb _, fun ρ4 e4 => ?_⟩
              refine ih2 (s + 1) ρ4 (by omega) (Ag_tr a3 (by rw [e4]; exact Ag_pI (Or.inr (Or.inl rfl)))) (by rw [e4]; exact p5) (by rw [e4]; exact p7) (by rw [e4]; exact p8) (fun u hu => by rw [e4, iR_pI, if_neg (by simp)]; exact r5 u hu) (fun u hu => ?_)
              rw [e4, iR_pI]
              by_cases e : u = s
              · subst e; rw [if_pos ⟨rfl, rfl⟩]; exact ez3
              · rw [if_neg (fun y => e y.2)]; exact r7 u (by omega)
          exact k78 (nS σ) 0 ρ2 (by omega) a2 (by rw [d5]; exact m5) (by rw [d5]; exact m7) (by rw [d5]; exact m8) d3 (fun u hu => absurd hu (by omega))
  have k17 : ∀ dd s ρ1, s + dd = nS σ → Ag PL3 ρ ρ1 → nS σ ≤ nR ρ1 (33, 5, 0) → nS σ ≤ nR ρ1 (33, 7, 0) → nS σ ≤ nR ρ1 (33, 8, 0) → (∀ u, u < s → iR ρ1 (33, 7, 0) u = 1) → Y G [33] ad0 M Q 17 (fun ad => [(0, .ref (ad (6, 0, 0))), (1, .ref (ad (1, 0, 0))), (2, .int (nI s))]) (fun ad => []) ρ1 := by
    intro dd
    induction dd with
    | zero =>
      intro s ρ1 hdd a1 m5 m7 m8 hv
      have es : s = nS σ := by omega
      subst es
      refine T_Wi_findLevels_17 hG hM _ ρ1 ⟨fun _ => ?_, fun z => absurd (by rw [(hRw a1).1.2.1]; exact (nI_leI (by omega) (by omega)).mpr (Nat.le_refl _)) z⟩
      rw [(hRw a1).1.2.1]
      have call : cnt (fun _ => true) (nS σ) = nS σ := by
        have h1 := inj_cnt (f := fun j => j) (N := nS σ) (e := nS σ) (p := fun _ => true) (fun j hj => ⟨hj, rfl⟩) (fun j l hj _ z => by omega)
        have h2 := cnt_le (fun _ => true) (nS σ)
        omega
      exact k45 (nS σ) 0 ρ1 (fun _ => true) (by omega) call.symm (fun s hs => ⟨fun _ => hs, fun _ => rfl⟩) a1 m5 m7 m8 hv
    | succ dd ih =>
      intro s ρ1 hdd a1 m5 m7 m8 hv
      refine T_Wi_findLevels_17 hG hM _ ρ1 ⟨fun z => absurd (by rw [(hRw a1).1.2.1] at z; exact (nI_leI (by omega) (by omega)).mp z) (by omega), fun _ => ⟨in_nI (by omega) (by omega), ?_⟩⟩
      rw [nI_clamp (by omega), nI_1]
      intro ρ2 e2
      refine ih (s + 1) ρ2 (by omega) (Ag_tr a1 (by rw [e2]; exact Ag_pI (Or.inr (Or.inl rfl)))) (by rw [e2]; exact m5) (by rw [e2]; exact m7) (by rw [e2]; exact m8) (fun u hu => ?_)
      rw [e2, iR_pI]
      by_cases e : u = s
      · subst e; rw [if_pos ⟨rfl, rfl⟩]
      · rw [if_neg (fun y => e y.2)]; exact hv u (by omega)
  refine T_Wi_findLevels_0 hG hM ρ ⟨nS σ, h1, h4, fun ρ1 e1 => ?_⟩
  have a1 : Ag (fun q => q = (33, 7, 0)) ρ ρ1 := by rw [e1]; exact Ag_rowR rfl
  exact k17 (nS σ) 0 ρ1 (by omega) (Ag_mono a1 (fun q h => Or.inr (Or.inl h))) (by rw [(a1 (33, 5, 0) (by simp)).1]; exact hn5) (by rw [e1]; exact rowR_ge h4) (by rw [(a1 (33, 8, 0) (by simp)).1]; exact hn8) (fun u hu => absurd hu (by omega))
/-- what findNumbers may change -/
def PN (w : Nat) (q : Ro) : Prop := q = gNo w ∨ q = (33, 7, 0) ∨ q = (33, 8, 0)
theorem c_findNumbers (hG : gok G) {σ : Wd} {w : Nat} (hw : w = 1 ∨ w = 2 ∨ w = 3) (hR : RWr ρ σ) (hM1 : nS σ ≤ nR ρ (33, 0, 0)) (hM2 : ∀ s, s < nS σ → iR ρ (33, 0, 0) s = bI (aimW σ s)) (k : ∀ ad ρ', RNu ρ' σ w → Ag (PN w) ρ ρ' → K ad none ρ') : semV G r_Wi_findNumbers [33] (fun ad => [.ref (ad (6, 0, 0)), .ref (ad (1, 0, 0)), .int (nI w)]) ρ K := by
  have h4 := hR.1.2.2.2.1
  have h1 := hR.1.2.1
  refine semV_intro yk_Wi_findNumbers.2.2.2.2 (fun _ => Nat.le_of_ble_eq_true rfl) (fun M Q ad0 hM => ?_)
  refine T_Wi_findNumbers_0 hG hM _ ρ ⟨nS σ, h1, h4, fun ρ1 e1 => ?_⟩
  have a1 : Ag (fun q => q = (33, 8, 0)) ρ ρ1 := by rw [e1]; exact Ag_rowR rfl
  have n8 : nS σ ≤ nR ρ1 (33, 8, 0) := by rw [e1]; exact rowR_ge h4
  have b1 : iR ρ1 (1, 0, 0) 1 = nI (nS σ) := by rw [(a1 _ (by simp)).2.1]; exact h1
  have st : ∀ (g : Ro) ρ2, g = gNo w → ρ2 = rowR ρ1 g (nS σ) → RWr ρ2 σ ∧ nS σ ≤ nR ρ2 (33, 0, 0) ∧ (∀ s, s < nS σ → iR ρ2 (33, 0, 0) s = bI (aimW σ s)) ∧ nS σ ≤ nR ρ2 g ∧ nS σ ≤ nR ρ2 (33, 8, 0) ∧ Ag (PN w) ρ ρ2 := by
    intro g ρ2 eg e2
    obtain ⟨og, tg, g8, g0, g7, gW⟩ := gNo_ok hw
    have a2 : Ag (fun q => q = g) ρ1 ρ2 := by rw [e2]; exact Ag_rowR rfl
    have a2' : Ag (PN w) ρ ρ2 := Ag_tr (Ag_mono a1 (fun q h => Or.inr (Or.inr h))) (Ag_mono a2 (fun q h => Or.inl (by rw [h, eg])))
    have w2 : Ag nW ρ ρ2 := Ag_mono a2' (fun q h => by
      rcases h with h | h | h
      · rw [h]; exact gW
      · rw [h]; rfl
      · rw [h]; rfl)
    have n0 : ¬ PN w (33, 0, 0) := by
      rintro (z | z | z)
      · exact g0 z.symm
      · exact absurd z (by decide)
      · exact absurd z (by decide)
    refine ⟨RWr_ag hR w2, by rw [(a2' _ n0).1]; exact hM1, by rw [(a2' _ n0).2.1]; exact hM2, by rw [e2]; exact rowR_ge h4, ?_, a2'⟩
    rw [(a2 (33, 8, 0) (fun z => g8 (by rw [← eg]; exact z.symm))).1]; exact n8
  refine ⟨fun z => ?_, fun z => ⟨fun y => ?_, fun y => ?_⟩⟩
  · have ew : w = 1 := by
      rcases hw with e | e | e
      · exact e
      · subst e; exact absurd z (by decide)
      · subst e; exact absurd z (by decide)
    subst ew
    refine ⟨nS σ, b1, h4, fun ρ2 e2 => ?_⟩
    obtain ⟨s1, s2, s3, s4, s5, s6⟩ := st (33, 3, 0) ρ2 rfl e2
    refine c_spreadBack (T := fun _ => True) (w := 1) hG (by omega) s1 s2 s3 s4 s5 (fun h => absurd h (by omega)) (fun ad ρ3 d d1 d2 d3 d4 d5 => ⟨_, rfl, fun ad => ?_⟩)
    exact k ad ρ3 ⟨d, d1, d2, by rw [d5]; exact s4, d3⟩ (Ag_tr s6 (Ag_mono d4 (fun q h => h.elim Or.inl (fun h => Or.inr (Or.inr h)))))
  · have ew : w = 2 := by
      rcases hw with e | e | e
      · subst e; exact absurd rfl z
      · exact e
      · subst e; exact absurd y (by decide)
    subst ew
    refine ⟨nS σ, b1, h4, fun ρ2 e2 => ?_⟩
    obtain ⟨s1, s2, s3, s4, s5, s6⟩ := st (33, 4, 0) ρ2 rfl e2
    refine c_spreadBack (T := fun _ => True) (w := 2) hG (by omega) s1 s2 s3 s4 s5 (fun h => absurd h (by omega)) (fun ad ρ3 d d1 d2 d3 d4 d5 => ⟨_, rfl, fun ad => ?_⟩)
    exact k ad ρ3 ⟨d, d1, d2, by rw [d5]; exact s4, d3⟩ (Ag_tr s6 (Ag_mono d4 (fun q h => h.elim Or.inl (fun h => Or.inr (Or.inr h)))))
  · have ew : w = 3 := by
      rcases hw with e | e | e
      · subst e; exact absurd rfl z
      · subst e; exact absurd rfl y
      · exact e
    subst ew
    refine ⟨nS σ, b1, h4, fun ρ2 e2 => ?_⟩
    obtain ⟨s1, s2, s3, s4, s5, s6⟩ := st (33, 5, 0) ρ2 rfl e2
    refine c_findLevels hG s1 s2 s3 s4 s5 (fun ad ρ3 d1 d2 => ⟨rfl, fun ad => ?_⟩)
    exact k ad ρ3 d1 (Ag_tr s6 (Ag_mono d2 (fun q h => h)))
end B25
