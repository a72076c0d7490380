/-! EDGES: act, outcome, state as one number; the class's lists of edges into a state -/
theorem ed_eq (e : Nat) : e / 16384 * 16384 + e / 4096 % 4 * 4096 + e % 4096 = e := by omega
theorem ed_inj {e f : Nat} (h1 : e / 16384 = f / 16384) (h2 : e / 4096 % 4 = f / 4096 % 4) (h3 : e % 4096 = f % 4096) : e = f := by omega
theorem ed_a {a k s : Nat} (hk : k < 4) (hs : s < 4096) : (a * 16384 + k * 4096 + s) / 16384 = a := by omega
theorem ed_k {a k s : Nat} (hk : k < 4) (hs : s < 4096) : (a * 16384 + k * 4096 + s) / 4096 % 4 = k := by omega
theorem ed_s {a k s : Nat} (hk : k < 4) (hs : s < 4096) : (a * 16384 + k * 4096 + s) % 4096 = s := by omega
/-- an edge of the world -/
def vE (σ : Wd) (e : Nat) : Prop := e / 16384 < dA σ ∧ e / 4096 % 4 < dO σ (e / 16384) ∧ e % 4096 < nS σ
def nxE (σ : Wd) (e : Nat) : Option Nat := nxW σ (e % 4096) (e / 16384) (e / 4096 % 4)
/-- a list of edges from the first number on -/
def Lk (ρ : Rs) : List Nat → Int32 → Prop
  | [], x => x = -1
  | e :: l, x => x = nI e ∧ Lk ρ l (iR ρ (24, e / 16384, e / 4096 % 4) (e % 4096))
theorem Lk_pI {ρ : Rs} {e0 : Nat} {y : Int32} : ∀ {l : List Nat} {x : Int32}, e0 ∉ l → Lk ρ l x → Lk (pI ρ (24, e0 / 16384, e0 / 4096 % 4) (e0 % 4096) y) l x
  | [], x, _, h => h
  | e :: l, x, hn, h => by
    obtain ⟨h1, h2⟩ := h
    have hne : e0 ≠ e := fun z => hn (by rw [z]; exact List.mem_cons_self)
    refine ⟨h1, ?_⟩
    rw [iR_pI, if_neg (by
      simp only [Prod.mk.injEq, true_and]
      rintro ⟨⟨q1, q2⟩, q3⟩
      exact hne (ed_inj q1.symm q2.symm q3.symm))]
    exact Lk_pI (fun z => hn (List.mem_cons_of_mem _ z)) h2
theorem Lk_ag {P : Ro → Prop} {ρ ρ' : Rs} (ha : Ag P ρ ρ') (hP : ∀ a k, ¬ P (24, a, k)) : ∀ {l : List Nat} {x : Int32}, Lk ρ l x → Lk ρ' l x
  | [], x, h => h
  | e :: l, x, h => ⟨h.1, by rw [(ha _ (hP _ _)).2.1]; exact Lk_ag ha hP h.2⟩
/-- the lists of all edges below c stand -/
def RLc (ρ : Rs) (σ : Wd) (c : Nat) : Prop := ∃ ch : Nat → List Nat, ∀ x, x < nS σ → Lk ρ (ch x) (iR ρ (30, 7, 0) x) ∧ (∀ e, e ∈ ch x ↔ vE σ e ∧ e < c ∧ nxE σ e = some x) ∧ (ch x).Nodup
theorem oI_m1 {o : Option Nat} (h : ∀ n, o = some n → n < 2 ^ 31) : oI o = -1 ↔ o = none := by
  cases o with
  | none => simp [oI]
  | some n =>
    have := h n rfl
    simp only [oI, reduceCtorEq, iff_false]
    intro e
    have h2 := congrArg Int32.toInt e
    rw [nI_toInt this] at h2
    have : (-1 : Int32).toInt = -1 := by decide
    omega
theorem goW_lt {σ : Wd} {L : List Ce} {s : Nat} (hz : ∀ t, t < dT σ → 2 ≤ dS σ t ∧ dS σ t ≤ 4) (ho : ∀ c ∈ L, okEf (dS σ) (dT σ) c) : goW σ L s < nS σ := encf_lt (fun _ ht => nval_lt hz ho ht)
theorem nxW_lt {σ : Wd} {s a k n : Nat} (hz : ∀ t, t < dT σ → 2 ≤ dS σ t ∧ dS σ t ≤ 4) (ho : ∀ c ∈ dE σ a k, okEf (dS σ) (dT σ) c) (h : nxW σ s a k = some n) : n < nS σ := by
  unfold nxW at h
  split at h
  · cases h
    exact goW_lt hz ho
  · cases h
section B9
variable {G : Gc} {ρ : Rs} {K : (Ro → Nat) → Option Value → Rs → Prop}
/-- one outcome's edges are linked -/
theorem c_linkOutcome (hG : gok G) {σ : Wd} {a k : Nat} (ha : a < 12) (haA : a < dA σ) (hk : k < dO σ a) (hT : RT ρ σ) (hA : RA ρ σ a) (hP : RP ρ σ) (hF : RF ρ σ a) (hc : RLc ρ σ (a * 16384 + k * 4096))
    (kk : ∀ ad ρ', RLc ρ' σ (a * 16384 + k * 4096 + nS σ) → Ag (fun q => q = (24, a, k) ∨ q = (30, 7, 0)) ρ ρ' → nR ρ' = nR ρ → K ad none ρ') : semV G r_Wo_linkOutcome [] (fun ad => [.ref (ad (1, 0, 0)), .ref (ad (22, a, k)), .int (nI (a * 16384 + k * 4096))]) ρ K := by
  obtain ⟨h0, h1, h8, h4, hz, hs⟩ := hT
  have k3 : k < 3 := by have := hA.2.2.1; omega
  have hef := (hA.2.2.2.2.2 k hk).2
  obtain ⟨f1, f2, f3⟩ := hF k hk
  refine semV_intro yk_Wo_linkOutcome.2.2.2.2 (fun _ => Nat.le_of_ble_eq_true rfl) (fun M Q ad0 hM => ?_)
  refine T_Wo_linkOutcome_0 hG hM a k ha k3 _ ρ ?_
  have key : ∀ d s ρ1, s + d = nS σ → Ag (fun q => q = (24, a, k) ∨ q = (30, 7, 0)) ρ ρ1 → nR ρ1 = nR ρ → RLc ρ1 σ (a * 16384 + k * 4096 + s) → Y G [] ad0 M Q 2 (fun ad => [(0, .ref (ad (1, 0, 0))), (1, .ref (ad (22, a, k))), (2, .int (nI (a * 16384 + k * 4096))), (3, .int (nI s))]) (fun ad => []) ρ1 := by
    intro d
    induction d with
    | zero =>
      intro s ρ1 hd hag hn hl
      have e : s = nS σ := by omega
      subst e
      have b1 : iR ρ1 (1, 0, 0) = iR ρ (1, 0, 0) := (hag _ (by simp)).2.1
      exact T_Wo_linkOutcome_2 hG hM a k ha k3 _ _ ρ1 ⟨fun _ ad => kk ad ρ1 hl hag hn, fun q => absurd (by rw [b1, h1]; exact (nI_leI (by omega) (by omega)).mpr (Nat.le_refl _)) q⟩
    | succ d ih =>
      intro s ρ1 hd hag hn hl
      have hsn : s < nS σ := by omega
      have b1 : iR ρ1 (1, 0, 0) = iR ρ (1, 0, 0) := (hag _ (by simp)).2.1
      have b23 : iR ρ1 (23, a, k) = iR ρ (23, a, k) := (hag _ (by simp)).2.1
      have q1 := ed_a (a := a) (k := k) (s := s) (by omega) (by omega)
      have q2 := ed_k (a := a) (k := k) (s := s) (by omega) (by omega)
      have q3 := ed_s (a := a) (k := k) (s := s) (by omega) (by omega)
      have hv : vE σ (a * 16384 + k * 4096 + s) := ⟨by rw [q1]; exact haA, by rw [q1, q2]; exact hk, by rw [q3]; exact hsn⟩
      have hnx : nxE σ (a * 16384 + k * 4096 + s) = nxW σ s a k := by unfold nxE; rw [q1, q2, q3]
      obtain ⟨ch, hch⟩ := hl
      refine T_Wo_linkOutcome_2 hG hM a k ha k3 _ _ ρ1 ⟨fun q => absurd (by rw [b1, h1] at q; exact (nI_leI (by omega) (by omega)).mp q) (by omega), fun _ => ⟨in_nI (by rw [hn]; omega) (by omega), ?_⟩⟩
      rw [nI_clamp (by omega), b23, f3 s hsn]
      have hlt : ∀ n, nxW σ s a k = some n → n < nS σ := fun n h => nxW_lt hz hef h
      refine ⟨fun q => ?_, fun q => ?_⟩
      · have hno : nxW σ s a k = none := (oI_m1 (fun n h => by have := hlt n h; omega)).mp q
        rw [nI_1]
        refine ih (s + 1) ρ1 (by omega) hag hn ⟨ch, fun x hx => ⟨(hch x hx).1, fun e => ?_, (hch x hx).2.2⟩⟩
        rw [(hch x hx).2.1 e]
        constructor
        · rintro ⟨g1, g2, g3⟩
          exact ⟨g1, by omega, g3⟩
        · rintro ⟨g1, g2, g3⟩
          refine ⟨g1, ?_, g3⟩
          by_cases ee : e = a * 16384 + k * 4096 + s
          · subst ee
            rw [hnx, hno] at g3
            cases g3
          · omega
      · cases hto : nxW σ s a k with
        | none => rw [hto] at q; exact absurd rfl q
        | some n =>
          have hnn := hlt n hto
          have e1 : oI (some n) = nI n := rfl
          rw [e1, nI_clamp (by omega)]
          refine ⟨in_nI (by rw [hn]; have := hP.2.1; omega) (by omega), in_nI (by rw [hn]; omega) (by omega), fun ρ5 e5 => ⟨in_nI (by rw [e5, nR_pI, hn]; have := hP.2.1; omega) (by omega), fun ρ6 e6 => ?_⟩⟩
          rw [nI_add] at e6
          rw [nI_1]
          refine ih (s + 1) ρ6 (by omega) (by rw [e6, e5]; exact Ag_tr hag (Ag_tr (Ag_pI (Or.inl rfl)) (Ag_pI (Or.inr rfl)))) (by rw [e6, e5]; exact hn) ⟨fun x => if x = n then (a * 16384 + k * 4096 + s) :: ch x else ch x, fun x hx => ?_⟩
          have hnot : ∀ y, y < nS σ → a * 16384 + k * 4096 + s ∉ ch y := fun y hy z => by have := ((hch y hy).2.1 _).mp z; omega
          have ag6 : Ag (fun q => q = (30, 7, 0)) ρ5 ρ6 := by rw [e6]; exact Ag_pI rfl
          have lk5 : ∀ y, y < nS σ → ∀ z, Lk ρ1 (ch y) z → Lk ρ6 (ch y) z := by
            intro y hy z hz2
            refine Lk_ag ag6 (fun _ _ => by simp) ?_
            have := Lk_pI (ρ := ρ1) (e0 := a * 16384 + k * 4096 + s) (y := iR ρ1 (30, 7, 0) n) (hnot y hy) hz2
            rw [q1, q2, q3, ← e5] at this
            exact this
          have i7 : ∀ y, iR ρ6 (30, 7, 0) y = if y = n then nI (a * 16384 + k * 4096 + s) else iR ρ1 (30, 7, 0) y := by
            intro y
            rw [e6, iR_pI, e5, iR_pI]
            simp
          by_cases ex : x = n
          · subst ex
            simp only [if_true]
            refine ⟨⟨by rw [i7, if_pos rfl], ?_⟩, fun e => ?_, ?_⟩
            · rw [q1, q2, q3]
              have : iR ρ6 (24, a, k) s = iR ρ1 (30, 7, 0) x := by rw [e6, iR_pI, if_neg (by simp), e5, iR_pI, if_pos ⟨rfl, rfl⟩]
              rw [this]
              exact lk5 x hx _ (hch x hx).1
            · rw [List.mem_cons, (hch x hx).2.1 e]
              constructor
              · rintro (rfl | ⟨g1, g2, g3⟩)
                · exact ⟨hv, by omega, by rw [hnx]; exact hto⟩
                · exact ⟨g1, by omega, g3⟩
              · rintro ⟨g1, g2, g3⟩
                by_cases ee : e = a * 16384 + k * 4096 + s
                · exact Or.inl ee
                · exact Or.inr ⟨g1, by omega, g3⟩
            · exact List.nodup_cons.mpr ⟨hnot x hx, (hch x hx).2.2⟩
          · simp only [if_neg ex]
            refine ⟨by rw [i7, if_neg ex]; exact lk5 x hx _ (hch x hx).1, fun e => ?_, (hch x hx).2.2⟩
            rw [(hch x hx).2.1 e]
            constructor
            · rintro ⟨g1, g2, g3⟩
              exact ⟨g1, by omega, g3⟩
            · rintro ⟨g1, g2, g3⟩
              refine ⟨g1, ?_, g3⟩
              by_cases ee : e = a * 16384 + k * 4096 + s
              · subst ee
                rw [hnx, hto] at g3
                cases g3
                exact absurd rfl ex
              · omega
  exact key (nS σ) 0 ρ (by omega) Ag_rf rfl (by rw [Nat.add_zero]; exact hc)
end B9
