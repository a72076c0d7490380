/-! reads behind writes; agreement off some roles; first contracts -/
theorem iR_pI {ρ : Rs} {r q : Ro} {k j : Nat} {x : Int32} : iR (pI ρ r k x) q j = if q = r ∧ j = k then x else iR ρ q j := by
  show upR (iR ρ) r (va_up (iR ρ r) k x) q j = _
  by_cases e : q = r
  · subst e
    rw [uR_s]
    by_cases e2 : j = k
    · subst e2; simp [ups]
    · simp [upn e2, e2]
  · simp [uR_n e, e]
theorem lR_pL {ρ : Rs} {r q : Ro} {k j : Nat} {x : Int64} : lR (pL ρ r k x) q j = if q = r ∧ j = k then x else lR ρ q j := by
  show upR (lR ρ) r (va_up (lR ρ r) k x) q j = _
  by_cases e : q = r
  · subst e
    rw [uR_s]
    by_cases e2 : j = k
    · subst e2; simp [ups]
    · simp [upn e2, e2]
  · simp [uR_n e, e]
theorem iR_pL {ρ : Rs} {r : Ro} {k : Nat} {x : Int64} : iR (pL ρ r k x) = iR ρ := rfl
theorem lR_pI {ρ : Rs} {r : Ro} {k : Nat} {x : Int32} : lR (pI ρ r k x) = lR ρ := rfl
theorem nR_pI {ρ : Rs} {r : Ro} {k : Nat} {x : Int32} : nR (pI ρ r k x) = nR ρ := rfl
theorem nR_pL {ρ : Rs} {r : Ro} {k : Nat} {x : Int64} : nR (pL ρ r k x) = nR ρ := rfl
/-- the two stores agree off P -/
def Ag (P : Ro → Prop) (ρ ρ' : Rs) : Prop := ∀ q, ¬ P q → nR ρ' q = nR ρ q ∧ iR ρ' q = iR ρ q ∧ lR ρ' q = lR ρ q
theorem Ag_rf {P : Ro → Prop} {ρ : Rs} : Ag P ρ ρ := fun _ _ => ⟨rfl, rfl, rfl⟩
theorem Ag_tr {P : Ro → Prop} {ρ ρ1 ρ2 : Rs} (h1 : Ag P ρ ρ1) (h2 : Ag P ρ1 ρ2) : Ag P ρ ρ2 := fun q hq => ⟨(h2 q hq).1.trans (h1 q hq).1, (h2 q hq).2.1.trans (h1 q hq).2.1, (h2 q hq).2.2.trans (h1 q hq).2.2⟩
theorem Ag_mono {P P' : Ro → Prop} {ρ ρ' : Rs} (h : Ag P ρ ρ') (hp : ∀ q, P q → P' q) : Ag P' ρ ρ' := fun q hq => h q (fun z => hq (hp q z))
theorem Ag_pI {P : Ro → Prop} {ρ : Rs} {r : Ro} {k : Nat} {x : Int32} (hr : P r) : Ag P ρ (pI ρ r k x) := fun q hq => ⟨rfl, uR_n (fun e => hq (e ▸ hr)), rfl⟩
theorem Ag_pL {P : Ro → Prop} {ρ : Rs} {r : Ro} {k : Nat} {x : Int64} (hr : P r) : Ag P ρ (pL ρ r k x) := fun q hq => ⟨rfl, rfl, uR_n (fun e => hq (e ▸ hr))⟩
theorem Ag_uI {P : Ro → Prop} {ρ : Rs} {r : Ro} {f : Nat → Int32} (hr : P r) : Ag P ρ (uI ρ r f) := fun q hq => ⟨rfl, uR_n (fun e => hq (e ▸ hr)), rfl⟩
theorem Ag_uN {P : Ro → Prop} {ρ : Rs} {r : Ro} {n : Nat} (hr : P r) : Ag P ρ (uN ρ r n) := fun q hq => ⟨uR_n (fun e => hq (e ▸ hr)), uR_n (fun e => hq (e ▸ hr)), uR_n (fun e => hq (e ▸ hr))⟩
section B1
variable {G : Gc} {ρ : Rs} {K : (Ro → Nat) → Option Value → Rs → Prop}
/-- the value of a thing in a packed state -/
theorem sh2 : ∀ t, t < 8 → ((((2 : Int32) * nI t) &&& 31).toBitVec.smod 32).toNat = 2 * t := by decide
theorem valueIn_eq {p t : Nat} (hp : p < 65536) (ht : t < 8) : (nI p >>> ((2 * nI t) &&& 31)) &&& 3 = nI (p / 4 ^ t % 4) := by
  rw [pk_shrN (by omega) _ (2 * t) (sh2 t ht), pk_andN (n := p / 2 ^ (2 * t)) (Nat.lt_of_le_of_lt (Nat.div_le_self _ _) (by omega)) 2 (by decide)]
  rw [show (4 : Nat) = 2 ^ 2 from rfl, ← Nat.pow_mul]
theorem c_valueIn (hG : gok G) {p t : Nat} (hp : p < 65536) (ht : t < 8) (k : ∀ ad, K ad (some (.int (nI (p / 4 ^ t % 4)))) ρ) : semV G r_WP_valueIn [] (fun _ => [.int (nI p), .int (nI t)]) ρ K := by
  refine semV_intro yk_WP_valueIn.2.2.2.2 (fun _ => Nat.le_of_ble_eq_true rfl) (fun M Q ad0 hM => ?_)
  refine T_WP_valueIn_0 hG hM _ _ ρ ?_
  rw [valueIn_eq hp ht]
  exact k
theorem c_inWorld (hG : gok G) (k : ∀ ad, K ad none (pL (pL ρ (4, 0, 0) 0 (lR ρ (4, 0, 0) 0 + 1)) (4, 0, 0) 1 (lR ρ (4, 0, 0) 0 + 1))) : semV G r_Ch_inWorld [] (fun ad => [.ref (ad (4, 0, 0))]) ρ K := by
  refine semV_intro yk_Ch_inWorld.2.2.2.2 (fun _ => Nat.le_of_ble_eq_true rfl) (fun M Q ad0 hM => ?_)
  refine T_Ch_inWorld_0 hG hM ρ ?_
  intro ρ1 e1 ρ2 e2
  subst e1; subst e2
  rw [lR_pL, if_pos ⟨rfl, rfl⟩]
  exact k
end B1
