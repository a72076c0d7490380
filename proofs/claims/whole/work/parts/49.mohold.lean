/-! THE REFERENCE: its things, states, values, conditions -/
def MT (ρ : Rs) (σ : Wd) : Prop := iR ρ (40, 0, 0) 0 = nI (dT σ) ∧ dT σ ≤ 8 ∧ nS σ ≤ 4096 ∧ (∀ t, t < dT σ → 2 ≤ dS σ t ∧ dS σ t ≤ 4) ∧ ∀ t, t < dT σ → iR ρ (41, 1, 0) t = nI (dS σ t)
/-- the reference's conditions of the row x -/
def MCo (ρ : Rs) (x : Nat) (L : List Ce) : Prop := L.length ≤ 4 ∧ iR ρ (41, 5, 0) x = nI L.length ∧ (∀ (y : Nat) (c : Ce), L[y]? = some c → iR ρ (41, 6, 0) (12 * x + 3 * y) = nI c.1 ∧ iR ρ (41, 6, 0) (12 * x + 3 * y + 1) = nI c.2.1 ∧ iR ρ (41, 6, 0) (12 * x + 3 * y + 2) = nI c.2.2)
/-- the reference's effects of the row x = 3 a + k -/
def MEf (ρ : Rs) (x : Nat) (L : List Ce) : Prop := L.length ≤ 4 ∧ iR ρ (41, 7, 0) x = nI L.length ∧ (∀ (y : Nat) (c : Ce), L[y]? = some c → iR ρ (41, 8, 0) (12 * x + 3 * y) = nI c.1 ∧ iR ρ (41, 8, 0) (12 * x + 3 * y + 1) = nI c.2.1 ∧ iR ρ (41, 8, 0) (12 * x + 3 * y + 2) = nI c.2.2)
theorem MT_ag {P : Ro → Prop} {ρ ρ' : Rs} {σ : Wd} (h : MT ρ σ) (ha : Ag P ρ ρ') (h1 : ¬ P (40, 0, 0)) (h2 : ¬ P (41, 1, 0)) : MT ρ' σ := by
  obtain ⟨a, b, c, d, e⟩ := h
  exact ⟨by rw [(ha _ h1).2.1]; exact a, b, c, d, by rw [(ha _ h2).2.1]; exact e⟩
theorem MCo_ag {P : Ro → Prop} {ρ ρ' : Rs} {x : Nat} {L : List Ce} (h : MCo ρ x L) (ha : Ag P ρ ρ') (h1 : ¬ P (41, 5, 0)) (h2 : ¬ P (41, 6, 0)) : MCo ρ' x L := by
  obtain ⟨a, b, c⟩ := h
  exact ⟨a, by rw [(ha _ h1).2.1]; exact b, by rw [(ha _ h2).2.1]; exact c⟩
theorem MEf_ag {P : Ro → Prop} {ρ ρ' : Rs} {x : Nat} {L : List Ce} (h : MEf ρ x L) (ha : Ag P ρ ρ') (h1 : ¬ P (41, 7, 0)) (h2 : ¬ P (41, 8, 0)) : MEf ρ' x L := by
  obtain ⟨a, b, c⟩ := h
  exact ⟨a, by rw [(ha _ h1).2.1]; exact b, by rw [(ha _ h2).2.1]; exact c⟩
section B6
variable {G : Gc} {ρ : Rs} {K : (Ro → Nat) → Option Value → Rs → Prop}
theorem c_Mo_states (hG : gok G) {σ : Wd} (hT : MT ρ σ) (k : ∀ ad, K ad (some (.int (nI (nS σ)))) ρ) : semV G r_Mo_states [] (fun ad => [.ref (ad (40, 0, 0))]) ρ K := by
  obtain ⟨h0, h8, h4, hz, hs⟩ := hT
  refine semV_intro yk_Mo_states.2.2.2.2 (fun _ => Nat.le_of_ble_eq_true rfl) (fun M Q ad0 hM => ?_)
  refine T_Mo_states_0 hG hM ρ ?_
  have key : ∀ d t, t + d = dT σ → Y G [] ad0 M Q 4 (fun ad => [(0, .ref (ad (40, 0, 0))), (1, .int (nI (wtf (dS σ) t))), (2, .int (nI t))]) (fun ad => []) ρ := by
    intro d
    induction d with
    | zero =>
      intro t ht
      have : t = dT σ := by omega
      subst this
      exact T_Mo_states_4 hG hM _ _ ρ ⟨fun _ => k, fun q => absurd (by rw [h0]; exact (nI_leI (by omega) (by omega)).mpr (Nat.le_refl _)) q⟩
    | succ d ih =>
      intro t ht
      refine T_Mo_states_4 hG hM _ _ ρ ⟨fun q => absurd (by rw [h0] at q; exact (nI_leI (by omega) (by omega)).mp q) (by omega), fun _ => ⟨vp_in_nI (by omega) (by omega), ?_⟩⟩
      rw [nI_clamp (by omega), hs t (by omega), pk_mul, nI_1]
      exact ih (t + 1) (by omega)
  exact key (dT σ) 0 (by omega)
theorem c_Mo_open (hG : gok G) {σ : Wd} {s : Nat} (hT : MT ρ σ) (hb : s < 2 ^ 31) (k : ∀ ad ρ', (∀ t, t < dT σ → iR ρ' (41, 10, 0) t = nI (vl σ s t)) → Ag (fun q => q = (41, 10, 0)) ρ ρ' → K ad none ρ') : semV G r_Mo_open [] (fun ad => [.ref (ad (40, 0, 0)), .int (nI s)]) ρ K := by
  obtain ⟨h0, h8, h4, hz, hs⟩ := hT
  refine semV_intro yk_Mo_open.2.2.2.2 (fun _ => Nat.le_of_ble_eq_true rfl) (fun M Q ad0 hM => ?_)
  refine T_Mo_open_0 hG hM _ ρ ?_
  have key : ∀ d t ρ1, t + d = dT σ → Ag (fun q => q = (41, 10, 0)) ρ ρ1 → (∀ u, u < t → iR ρ1 (41, 10, 0) u = nI (vl σ s u)) → Y G [] ad0 M Q 4 (fun ad => [(0, .ref (ad (40, 0, 0))), (2, .int (nI (s / wtf (dS σ) t))), (3, .int (nI t))]) (fun ad => []) ρ1 := by
    intro d
    induction d with
    | zero =>
      intro t ρ1 ht ha hv
      have : t = dT σ := by omega
      subst this
      exact T_Mo_open_4 hG hM _ _ ρ1 ⟨fun _ ad => k ad ρ1 hv ha, fun q => absurd (by rw [(ha (40, 0, 0) (by decide)).2.1, h0]; exact (nI_leI (by omega) (by omega)).mpr (Nat.le_refl _)) q⟩
    | succ d ih =>
      intro t ρ1 ht ha hv
      have htn : t < dT σ := by omega
      have z1 := hz t htn
      have hcl : Int32.toNatClampNeg (nI t) = t := nI_clamp (by omega)
      have hin : vp_in (nI t) 8 := vp_in_nI (by omega) (by omega)
      have hsl : s / wtf (dS σ) t < 2 ^ 31 := Nat.lt_of_le_of_lt (Nat.div_le_self _ _) hb
      have hs1 : iR ρ1 (41, 1, 0) t = nI (dS σ t) := by rw [(ha (41, 1, 0) (by decide)).2.1]; exact hs t htn
      refine T_Mo_open_4 hG hM _ _ ρ1 ⟨fun q => absurd (by rw [(ha (40, 0, 0) (by decide)).2.1, h0] at q; exact (nI_leI (by omega) (by omega)).mp q) (by omega), fun _ => ⟨hin, ?_⟩⟩
      rw [hcl, hs1, pk_rem hsl (by omega) (by omega)]
      refine ⟨nI_ne0 (by omega) (by omega), hin, fun ρ3 e3 => ⟨hin, ?_⟩⟩
      have hs3 : iR ρ3 (41, 1, 0) t = nI (dS σ t) := by rw [e3, iR_pI, if_neg (by simp), hs1]
      rw [hs3, pk_div hsl (by omega) (by omega), Nat.div_div_eq_div_mul, nI_1]
      refine ⟨nI_ne0 (by omega) (by omega), ih (t + 1) ρ3 (by omega) (by rw [e3]; exact Ag_tr ha (Ag_pI rfl)) (fun u hu => ?_)⟩
      rw [e3, iR_pI]
      by_cases e : u = t
      · subst e
        rw [if_pos ⟨rfl, rfl⟩]
        rfl
      · rw [if_neg (fun z => e z.2)]
        exact hv u (by omega)
  have := key (dT σ) 0 ρ (by omega) Ag_rf (fun u hu => absurd hu (by omega))
  rw [show s / wtf (dS σ) 0 = s from Nat.div_one s] at this
  exact this
theorem c_Mo_hold (hG : gok G) {σ : Wd} {s x : Nat} {L : List Ce} (hT : MT ρ σ) (hx : x < 19) (hL : MCo ρ x L) (ho : ∀ c ∈ L, okCo (dT σ) c) (hv : ∀ t, t < dT σ → iR ρ (41, 10, 0) t = nI (vl σ s t)) (k : ∀ ad, K ad (some (.int (if holdW σ L s = true then 1 else 0))) ρ) : semV G r_Mo_hold [] (fun ad => [.ref (ad (40, 0, 0)), .int (nI x)]) ρ K := by
  obtain ⟨h0, h8, h4, hz, hs⟩ := hT
  obtain ⟨l4, l0, le⟩ := hL
  refine semV_intro yk_Mo_hold.2.2.2.2 (fun _ => Nat.le_of_ble_eq_true rfl) (fun M Q ad0 hM => ?_)
  refine T_Mo_hold_0 hG hM _ ρ ?_
  have hcx : Int32.toNatClampNeg (nI x) = x := nI_clamp (by omega)
  have key : ∀ d y, y + d = L.length → Y G [] ad0 M Q 4 (fun ad => [(0, .ref (ad (40, 0, 0))), (1, .int (nI x)), (2, .int (if (L.take y).all (hold1 (vl σ s)) = true then 1 else 0)), (3, .int (nI y))]) (fun ad => []) ρ := by
    intro d
    induction d with
    | zero =>
      intro y hy
      refine T_Mo_hold_4 hG hM _ _ _ ρ ⟨vp_in_nI hx (by omega), fun _ => ?_, fun q => absurd (by rw [hcx, l0]; exact (nI_leI (by omega) (by omega)).mpr (by omega)) q⟩
      rw [show y = L.length by omega, List.take_length]
      refine ⟨?_, k⟩
      split
      · exact Or.inr rfl
      · exact Or.inl rfl
    | succ d ih =>
      intro y hy
      have hyl : y < L.length := by omega
      have hget : L[y]? = some L[y] := List.getElem?_eq_getElem hyl
      have hok := ho _ (List.getElem_mem hyl)
      obtain ⟨e1, e2, e3⟩ := le y _ hget
      have ih' := ih (y + 1) (by omega)
      rw [← nI_1, List.take_succ_eq_append_getElem hyl, List.all_append] at ih'
      simp only [List.all_cons, List.all_nil, Bool.and_true] at ih'
      generalize L[y] = c at hget e1 e2 e3 hok ih'
      obtain ⟨t, op, v⟩ := c
      obtain ⟨o1, o2, o3⟩ := hok
      dsimp only at e1 e2 e3 o1 o2 o3
      have i0 : (12 : Int32) * nI x + 3 * nI y = nI (12 * x + 3 * y) := by
        rw [show (12 : Int32) = nI 12 from rfl, show (3 : Int32) = nI 3 from rfl, pk_mul, pk_mul, nI_add]
      refine T_Mo_hold_4 hG hM _ _ _ ρ ⟨vp_in_nI hx (by omega), fun q => absurd (by rw [hcx, l0] at q; exact (nI_leI (by omega) (by omega)).mp q) (by omega), fun _ => ?_⟩
      rw [i0, nI_1, show nI (12 * x + 3 * y) + 2 = nI (12 * x + 3 * y + 2) from nI_add _ 2]
      rw [nI_clamp (by omega), nI_clamp (by omega), nI_clamp (by omega), e1, e2, e3, nI_clamp (by omega), hv t o1]
      have wt1 : vl σ s t < 4 := Nat.lt_of_lt_of_le (Nat.mod_lt _ (by have := hz t o1; omega)) (hz t o1).2
      have hv8 : v < 8 := by
        by_cases e : op = 2
        · rw [if_pos e] at o3; omega
        · rw [if_neg e] at o3; omega
      refine ⟨vp_in_nI (by omega) (by omega), vp_in_nI (by omega) (by omega), vp_in_nI (by omega) (by omega), vp_in_nI (by omega) (by omega), fun _ _ _ _ => vp_in_nI hv8 (by omega), fun z ez => ?_⟩
      have fin : z = (if ((L.take y).all (hold1 (vl σ s)) && hold1 (vl σ s) (t, op, v)) = true then 1 else 0) := by
        rw [ez, nI_clamp (by omega)]
        cases hb : (L.take y).all (hold1 (vl σ s)) with
        | false => simp
        | true =>
          simp only [if_true, Bool.true_and]
          rw [if_neg (by decide)]
          rcases (show op = 0 ∨ op = 1 ∨ op = 2 ∨ op = 3 by omega) with e | e | e | e <;> subst e
          · rw [if_pos (show nI 0 = (0 : Int32) from rfl)]
            exact ite_iff (by rw [nI_eq (by omega) (by omega)]; simp [hold1])
          · rw [if_neg (by decide), if_pos (show nI 1 = (1 : Int32) from rfl)]
            exact ite_swap (by rw [nI_eq (by omega) (by omega)]; simp [hold1])
          · rw [if_neg (by decide), if_neg (by decide), if_pos (show nI 2 = (2 : Int32) from rfl)]
            rw [if_pos rfl] at o3
            have wt2 : vl σ s v < 4 := Nat.lt_of_lt_of_le (Nat.mod_lt _ (by have := hz v o3; omega)) (hz v o3).2
            rw [hv v o3]
            exact ite_iff (by rw [nI_eq (by omega) (by omega)]; simp [hold1])
          · rw [if_neg (by decide), if_neg (by decide), if_neg (by decide)]
            exact ite_swap (by rw [nI_leI (by omega) (by omega)]; simp [hold1])
      rw [fin]
      exact ih'
  have := key L.length 0 (by omega)
  simp only [List.take_zero, List.all_nil, if_true] at this
  exact this
end B6
