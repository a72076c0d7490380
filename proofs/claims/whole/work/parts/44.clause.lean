/-! CLAUSES: conditions and effects as lists of (thing, op, value) -/
abbrev Ce : Type := Nat × Nat × Nat
def okc (c : Ce) : Prop := c.1 < 8 ∧ c.2.1 < 4 ∧ c.2.2 < 8
/-- the clauses (i, j) of the class hold the list L -/
def Cls (ρ : Rs) (i j : Nat) (L : List Ce) : Prop := L.length ≤ 4 ∧ iR ρ (10, i, j) 0 = nI L.length ∧ (∀ (x : Nat) (c : Ce), L[x]? = some c → iR ρ (11, i, j) x = nI c.1 ∧ iR ρ (12, i, j) x = nI c.2.1 ∧ iR ρ (13, i, j) x = nI c.2.2) ∧ ∀ c ∈ L, okc c
/-- whether one condition holds where thing t is w t -/
def hold1 (w : Nat → Nat) (c : Ce) : Bool := if c.2.1 = 0 then decide (w c.1 = c.2.2) else if c.2.1 = 1 then decide (¬ w c.1 = c.2.2) else if c.2.1 = 2 then decide (w c.1 = w c.2.2) else decide (w c.1 < c.2.2)
theorem w4 {p t : Nat} : p / 4 ^ t % 4 < 4 := Nat.mod_lt _ (by omega)
theorem ite_iff {P P' : Prop} [Decidable P] [Decidable P'] {α : Type} {a b : α} (h : P ↔ P') : (if P then a else b) = if P' then a else b := by
  by_cases hp : P
  · rw [if_pos hp, if_pos (h.mp hp)]
  · rw [if_neg hp, if_neg (fun q => hp (h.mpr q))]
theorem ite_swap {P P' : Prop} [Decidable P] [Decidable P'] {α : Type} {a b : α} (h : P ↔ ¬ P') : (if P then a else b) = if P' then b else a := by
  by_cases hp : P'
  · rw [if_pos hp, if_neg (fun q => h.mp q hp)]
  · rw [if_neg hp, if_pos (h.mpr hp)]
section B2
variable {G : Gc} {ρ : Rs} {K : (Ro → Nat) → Option Value → Rs → Prop}
theorem c_Cl_hold (hG : gok G) {i j p : Nat} {L : List Ce} (hc : okC i j) (hp : p < 65536) (hL : Cls ρ i j L) (k : ∀ ad, K ad (some (.int (if L.all (hold1 (fun t => p / 4 ^ t % 4)) = true then 1 else 0))) ρ) : semV G r_Cl_hold [] (fun ad => [.ref (ad (10, i, j)), .int (nI p)]) ρ K := by
  obtain ⟨l4, l0, le, lok⟩ := hL
  refine semV_intro yk_Cl_hold.2.2.2.2 (fun _ => Nat.le_of_ble_eq_true rfl) (fun M Q ad0 hM => ?_)
  refine T_Cl_hold_0 hG hM i j hc _ ρ ?_
  have key : ∀ d x, x + d = L.length → (∀ y c, y < x → L[y]? = some c → hold1 (fun t => p / 4 ^ t % 4) c = true) → Y G [] ad0 M Q 2 (fun ad => [(0, .ref (ad (10, i, j))), (1, .int (nI p)), (2, .int (nI x))]) (fun ad => []) ρ := by
    intro d
    induction d with
    | zero =>
      intro x hx hall
      refine T_Cl_hold_2 hG hM i j hc _ _ ρ ⟨fun _ => ?_, fun q => ?_⟩
      · have : L.all (hold1 (fun t => p / 4 ^ t % 4)) = true := by
          rw [List.all_eq_true]
          intro c hcL
          obtain ⟨y, hy⟩ := List.getElem?_of_mem hcL
          have := (List.getElem?_eq_some_iff.mp hy).1
          exact hall y c (by omega) hy
        rw [if_pos this] at k
        exact k
      · rw [l0] at q
        exact absurd ((nI_leI (by omega) (by omega)).mpr (by omega)) q
    | succ d ih =>
      intro x hx hall
      have hxl : x < L.length := by omega
      have hget : L[x]? = some L[x] := List.getElem?_eq_getElem hxl
      obtain ⟨e1, e2, e3⟩ := le x _ hget
      have hok := lok _ (List.getElem_mem hxl)
      generalize L[x] = c at hget e1 e2 e3 hok
      obtain ⟨t, op, v⟩ := c
      obtain ⟨o1, o2, o3⟩ := hok
      dsimp only at e1 e2 e3 o1 o2 o3
      have hcl : Int32.toNatClampNeg (nI x) = x := nI_clamp (by omega)
      have hin : vp_in (nI x) 4 := vp_in_nI (by omega) (by omega)
      have fin : ∀ z : Int32, z = (if hold1 (fun t => p / 4 ^ t % 4) (t, op, v) = true then 1 else 0) → (z = 0 → ∀ ad, K ad (some (.int 0)) ρ) ∧ (¬ z = 0 → Y G [] ad0 M Q 2 (fun ad => [(0, .ref (ad (10, i, j))), (1, .int (nI p)), (2, .int (nI x + 1))]) (fun ad => []) ρ) := by
        intro z ez
        by_cases hh : hold1 (fun t => p / 4 ^ t % 4) (t, op, v) = true
        · rw [if_pos hh] at ez
          subst ez
          refine ⟨fun q => absurd q (by decide), fun _ => ?_⟩
          rw [nI_1]
          refine ih (x + 1) (by omega) (fun y c hy hc => ?_)
          by_cases ey : y = x
          · subst ey
            rw [hget] at hc
            cases hc
            exact hh
          · exact hall y c (by omega) hc
        · rw [if_neg hh] at ez
          subst ez
          refine ⟨fun _ => ?_, fun q => absurd rfl q⟩
          have : ¬ L.all (hold1 (fun t => p / 4 ^ t % 4)) = true := by
            rw [List.all_eq_true]
            intro h
            exact hh (h _ (List.mem_of_getElem? hget))
          rw [if_neg this] at k
          exact k
      refine T_Cl_hold_2 hG hM i j hc _ _ ρ ⟨fun q => ?_, fun _ => ⟨hin, ?_⟩⟩
      · rw [l0] at q
        exact absurd ((nI_leI (by omega) (by omega)).mp q) (by omega)
      · rw [hcl, e1]
        refine c_valueIn hG hp o1 (fun ad => ⟨_, rfl, hin, ?_⟩)
        rw [e2, e3]
        have w1 : p / 4 ^ t % 4 < 4 := w4
        rcases (show op = 0 ∨ op = 1 ∨ op = 2 ∨ op = 3 by omega) with e | e | e | e <;> subst e
        · refine ⟨fun _ => ⟨hin, fun z ez => fin z ?_⟩, fun q => absurd rfl q⟩
          rw [ez]
          exact ite_iff (by rw [nI_eq (by omega) (by omega)]; simp [hold1])
        · refine ⟨fun q => absurd q (by decide), fun _ => ⟨hin, fun _ => ⟨hin, fun z ez => fin z ?_⟩, fun q => absurd rfl q⟩⟩
          rw [ez]
          exact ite_swap (by rw [nI_eq (by omega) (by omega)]; simp [hold1])
        · refine ⟨fun q => absurd q (by decide), fun _ => ⟨hin, fun q => absurd q (by decide), fun _ => ⟨hin, fun _ => ⟨hin, ?_⟩, fun q => absurd rfl q⟩⟩⟩
          refine c_valueIn hG hp o3 (fun ad => ⟨_, rfl, fun z ez => fin z ?_⟩)
          rw [ez]
          have w2 : p / 4 ^ v % 4 < 4 := w4
          exact ite_iff (by rw [nI_eq (by omega) (by omega)]; simp [hold1])
        · refine ⟨fun q => absurd q (by decide), fun _ => ⟨hin, fun q => absurd q (by decide), fun _ => ⟨hin, fun q => absurd q (by decide), fun _ => ⟨hin, fun z ez => fin z ?_⟩⟩⟩⟩
          rw [ez]
          exact ite_swap (by rw [nI_leI (by omega) (by omega)]; simp [hold1])
  exact key L.length 0 (by omega) (fun y c hy _ => absurd hy (by omega))
theorem c_Cl_add (hG : gok G) {i j t op v : Nat} {L : List Ce} (hc : okC i j) (hL : Cls ρ i j L) (ho : okc (t, op, v))
    (k1 : L.length < 4 → ∀ ad ρ', Cls ρ' i j (L ++ [(t, op, v)]) → Ag (fun q => (q.1 = 10 ∨ q.1 = 11 ∨ q.1 = 12 ∨ q.1 = 13) ∧ q.2 = (i, j)) ρ ρ' → K ad (some (.int (nI (L.length + 1)))) ρ') (k2 : L.length = 4 → ∀ ad, K ad (some (.int (-3))) ρ) : semV G r_Cl_add [] (fun ad => [.ref (ad (10, i, j)), .int (nI t), .int (nI op), .int (nI v)]) ρ K := by
  obtain ⟨l4, l0, le, lok⟩ := hL
  refine semV_intro yk_Cl_add.2.2.2.2 (fun _ => Nat.le_of_ble_eq_true rfl) (fun M Q ad0 hM => ?_)
  refine T_Cl_add_0 hG hM i j hc _ _ _ ρ ?_
  rw [l0]
  refine ⟨fun q => ?_, fun q => ?_⟩
  · have hlt : L.length < 4 := (nI_ltI (a := L.length) (b := 4) (by omega) (by decide)).mp q
    have hcl : Int32.toNatClampNeg (nI L.length) = L.length := nI_clamp (by omega)
    have hin : vp_in (nI L.length) 4 := vp_in_nI hlt (by omega)
    refine ⟨hin, fun ρ1 e1 => ?_⟩
    rw [hcl] at e1
    have f1 : iR ρ1 (10, i, j) 0 = nI L.length := by rw [e1, iR_pI]; simp [l0]
    rw [f1]
    refine ⟨hin, fun ρ2 e2 => ?_⟩
    rw [hcl] at e2
    have f2 : iR ρ2 (10, i, j) 0 = nI L.length := by rw [e2, iR_pI]; simp [f1]
    rw [f2]
    refine ⟨hin, fun ρ3 e3 => ?_⟩
    rw [hcl] at e3
    have f3 : iR ρ3 (10, i, j) 0 = nI L.length := by rw [e3, iR_pI]; simp [f2]
    rw [f3]
    intro ρ4 e4 ad
    rw [nI_1] at e4
    have f4 : iR ρ4 (10, i, j) 0 = nI (L.length + 1) := by rw [e4, iR_pI]; simp
    rw [f4]
    have g1 : ∀ x, iR ρ4 (11, i, j) x = if x = L.length then nI t else iR ρ (11, i, j) x := by
      intro x; rw [e4, iR_pI, e3, iR_pI, e2, iR_pI, e1, iR_pI]; simp
    have g2 : ∀ x, iR ρ4 (12, i, j) x = if x = L.length then nI op else iR ρ (12, i, j) x := by
      intro x; rw [e4, iR_pI, e3, iR_pI, e2, iR_pI, e1, iR_pI]; simp
    have g3 : ∀ x, iR ρ4 (13, i, j) x = if x = L.length then nI v else iR ρ (13, i, j) x := by
      intro x; rw [e4, iR_pI, e3, iR_pI, e2, iR_pI, e1, iR_pI]; simp
    refine k1 hlt ad ρ4 ⟨by rw [List.length_append]; simp; omega, by rw [f4]; simp, fun x c hx => ?_, fun c hcm => ?_⟩ ?_
    · rw [g1, g2, g3]
      by_cases ex : x = L.length
      · subst ex
        rw [List.getElem?_append_right (Nat.le_refl _), Nat.sub_self] at hx
        cases hx
        simp
      · have hxl : x < L.length := by
          have := (List.getElem?_eq_some_iff.mp hx).1
          rw [List.length_append] at this
          simp at this
          omega
        rw [List.getElem?_append_left hxl] at hx
        simp only [if_neg ex]
        exact le x c hx
    · rcases List.mem_append.mp hcm with h | h
      · exact lok c h
      · rw [List.mem_singleton.mp h]; exact ho
    · subst e1; subst e2; subst e3; subst e4
      exact Ag_tr (Ag_tr (Ag_tr (Ag_pI ⟨Or.inr (Or.inl rfl), rfl⟩) (Ag_pI ⟨Or.inr (Or.inr (Or.inl rfl)), rfl⟩)) (Ag_pI ⟨Or.inr (Or.inr (Or.inr rfl)), rfl⟩)) (Ag_pI ⟨Or.inl rfl, rfl⟩)
  · have hge : L.length = 4 := by
      have : ¬ L.length < 4 := fun z => q ((nI_ltI (a := L.length) (b := 4) (by omega) (by decide)).mpr z)
      omega
    exact k2 hge
end B2
