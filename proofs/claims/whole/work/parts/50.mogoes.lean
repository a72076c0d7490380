/-! THE REFERENCE: where effects lead -/
theorem nval_snoc {σ : Wd} {L : List Ce} {c : Ce} {s t : Nat} : nval σ (L ++ [c]) s t = if t = c.1 then eff σ s c else nval σ L s t := by
  unfold nval
  rw [List.reverse_append]
  simp only [List.reverse_cons, List.reverse_nil, List.nil_append, List.cons_append, List.find?_cons]
  by_cases e : t = c.1
  · subst e
    simp
  · have : (c.1 == t) = false := by simp; exact fun z => e z.symm
    rw [this, if_neg e]
theorem nval_lt {σ : Wd} {L : List Ce} {s t : Nat} (hz : ∀ t, t < dT σ → 2 ≤ dS σ t ∧ dS σ t ≤ 4) (ho : ∀ c ∈ L, okEf (dS σ) (dT σ) c) (ht : t < dT σ) : nval σ L s t < dS σ t := by
  unfold nval
  cases h : L.reverse.find? (fun c => c.1 == t) with
  | none => exact Nat.mod_lt _ (by have := hz t ht; omega)
  | some c =>
    have h1 := List.find?_some h
    have h2 := List.mem_of_find?_eq_some h
    have e : c.1 = t := by simpa using h1
    subst e
    exact eff_lt hz (ho c (by rw [← List.mem_reverse]; exact h2))
theorem i_m1 (x : Int32) : x + (-1) = x - 1 := by grind
section B7
variable {G : Gc} {ρ : Rs} {K : (Ro → Nat) → Option Value → Rs → Prop}
theorem c_Mo_closeThen (hG : gok G) {σ : Wd} {f : Nat → Nat} (hT : MT ρ σ) (hf : ∀ t, t < dT σ → iR ρ (41, 11, 0) t = nI (f t)) (k : ∀ ad, K ad (some (.int (nI (encf (dS σ) f (dT σ))))) ρ) : semV G r_Mo_closeThen [] (fun ad => [.ref (ad (40, 0, 0))]) ρ K := by
  obtain ⟨h0, h8, h4, hz, hs⟩ := hT
  refine semV_intro yk_Mo_closeThen.2.2.2.2 (fun _ => Nat.le_of_ble_eq_true rfl) (fun M Q ad0 hM => ?_)
  refine T_Mo_closeThen_0 hG hM ρ ?_
  rw [h0]
  have key : ∀ m g, m ≤ dT σ → encf (dS σ) f m + wtf (dS σ) m * g = encf (dS σ) f (dT σ) → Y G [] ad0 M Q 9 (fun ad => [(0, .ref (ad (40, 0, 0))), (1, .int (nI g)), (2, .int (nI m - 1))]) (fun ad => []) ρ := by
    intro m
    induction m with
    | zero =>
      intro g hm hg
      have : g = encf (dS σ) f (dT σ) := by
        have e : encf (dS σ) f 0 + wtf (dS σ) 0 * g = g := by show 0 + 1 * g = g; omega
        rw [← hg, e]
      subst this
      exact T_Mo_closeThen_9 hG hM _ _ ρ ⟨fun _ => k, fun q => absurd (by decide) q⟩
    | succ m ih =>
      intro g hm hg
      rw [nI_pred]
      refine T_Mo_closeThen_9 hG hM _ _ ρ ⟨fun q => absurd q (nI_pos (by omega)), fun _ => ⟨vp_in_nI (by omega) (by omega), vp_in_nI (by omega) (by omega), ?_⟩⟩
      rw [nI_clamp (by omega), hs m (by omega), hf m (by omega), pk_mul, nI_add, i_m1]
      refine ih (g * dS σ m + f m) (by omega) ?_
      rw [← hg]
      show _ = encf (dS σ) f m + wtf (dS σ) m * f m + wtf (dS σ) m * dS σ m * g
      rw [Nat.mul_add, Nat.mul_comm g (dS σ m), ← Nat.mul_assoc]
      omega
  exact key (dT σ) 0 (Nat.le_refl _) (by omega)
theorem c_Mo_goes (hG : gok G) {σ : Wd} {s x : Nat} {L : List Ce} (hT : MT ρ σ) (hx : x < 36) (hL : MEf ρ x L) (ho : ∀ c ∈ L, okEf (dS σ) (dT σ) c) (hv : ∀ t, t < dT σ → iR ρ (41, 10, 0) t = nI (vl σ s t)) (k : ∀ ad ρ', Ag (fun q => q = (41, 11, 0)) ρ ρ' → K ad (some (.int (nI (goW σ L s)))) ρ') : semV G r_Mo_goes [] (fun ad => [.ref (ad (40, 0, 0)), .int (nI x)]) ρ K := by
  have hT0 := hT
  obtain ⟨h0, h8, h4, hz, hs⟩ := hT
  have hL0 := hL
  obtain ⟨l4, l0, le⟩ := hL
  refine semV_intro yk_Mo_goes.2.2.2.2 (fun _ => Nat.le_of_ble_eq_true rfl) (fun M Q ad0 hM => ?_)
  refine T_Mo_goes_0 hG hM _ ρ ?_
  have hcx : Int32.toNatClampNeg (nI x) = x := nI_clamp (by omega)
  -- the second loop
  have key2 : ∀ d y ρ1, y + d = L.length → Ag (fun q => q = (41, 11, 0)) ρ ρ1 → (∀ t, t < dT σ → iR ρ1 (41, 11, 0) t = nI (nval σ (L.take y) s t)) → Y G [] ad0 M Q 30 (fun ad => [(0, .ref (ad (40, 0, 0))), (1, .int (nI x)), (2, .int (nI y))]) (fun ad => []) ρ1 := by
    intro d
    induction d with
    | zero =>
      intro y ρ1 hy ha hf
      have l01 : iR ρ1 (41, 7, 0) x = nI L.length := by rw [(ha (41, 7, 0) (by decide)).2.1]; exact l0
      refine T_Mo_goes_30 hG hM _ _ ρ1 ⟨vp_in_nI hx (by omega), fun _ => ?_, fun q => absurd (by rw [hcx, l01]; exact (nI_leI (by omega) (by omega)).mpr (by omega)) q⟩
      refine c_Mo_closeThen hG (f := nval σ L s) (MT_ag hT0 ha (by decide) (by decide)) (fun t ht => ?_) (fun ad => ⟨_, rfl, fun ad => k ad ρ1 ha⟩)
      have := hf t ht
      rw [show y = L.length by omega, List.take_length] at this
      exact this
    | succ d ih =>
      intro y ρ1 hy ha hf
      have l01 : iR ρ1 (41, 7, 0) x = nI L.length := by rw [(ha (41, 7, 0) (by decide)).2.1]; exact l0
      have hyl : y < L.length := by omega
      have hget : L[y]? = some L[y] := List.getElem?_eq_getElem hyl
      have hok := ho _ (List.getElem_mem hyl)
      obtain ⟨e1, e2, e3⟩ := le y _ hget
      have htk := List.take_succ_eq_append_getElem hyl
      generalize L[y] = c at hget e1 e2 e3 hok htk
      have hok0 := hok
      obtain ⟨o1, o2, o3⟩ := hok
      have e8 : iR ρ1 (41, 8, 0) = iR ρ (41, 8, 0) := (ha (41, 8, 0) (by decide)).2.1
      have e10 : iR ρ1 (41, 10, 0) = iR ρ (41, 10, 0) := (ha (41, 10, 0) (by decide)).2.1
      have e41 : iR ρ1 (41, 1, 0) = iR ρ (41, 1, 0) := (ha (41, 1, 0) (by decide)).2.1
      have i0 : (12 : Int32) * nI x + 3 * nI y = nI (12 * x + 3 * y) := by
        rw [show (12 : Int32) = nI 12 from rfl, show (3 : Int32) = nI 3 from rfl, pk_mul, pk_mul, nI_add]
      have zc := hz _ o1
      have wc := Nat.lt_of_lt_of_le (show vl σ s c.1 < dS σ c.1 from Nat.mod_lt _ (by omega)) zc.2
      refine T_Mo_goes_30 hG hM _ _ ρ1 ⟨vp_in_nI hx (by omega), fun q => absurd (by rw [hcx, l01] at q; exact (nI_leI (by omega) (by omega)).mp q) (by omega), fun _ => ?_⟩
      rw [i0, nI_1, show nI (12 * x + 3 * y) + 2 = nI (12 * x + 3 * y + 2) from nI_add _ 2, e8, e10, e41]
      rw [nI_clamp (by omega), nI_clamp (by omega), nI_clamp (by omega), e1, e2, e3, nI_clamp (by omega), hs _ o1, hv _ o1]
      have hne : ¬ nI (dS σ c.1) = 0 := nI_ne0 (by omega) (by omega)
      have hc8 : vp_in (nI c.1) 8 := vp_in_nI (by omega) (by omega)
      refine ⟨vp_in_nI (by omega) (by omega), vp_in_nI (by omega) (by omega), vp_in_nI (by omega) (by omega), fun q0 => ⟨fun q1 => ?_, fun q1 => ⟨hc8, hc8, hne⟩⟩, fun z ez => ⟨hc8, fun ρ2 er => ?_⟩⟩
      · have e : c.2.1 = 1 := (nI_eq (a := c.2.1) (b := 1) (by omega) (by decide)).mp q1
        rw [e] at o3
        have o3 : c.2.2 < dT σ := o3
        exact ⟨vp_in_nI (by omega) (by omega), hc8, hne⟩
      · have hzv : z = nI (eff σ s c) := by
          rw [ez]
          unfold eff
          by_cases e0 : c.2.1 = 0
          · rw [if_pos (by rw [e0]; rfl), if_pos e0]
          · rw [if_neg (show ¬ nI c.2.1 = (0 : Int32) from fun z => e0 ((nI_eq (a := c.2.1) (b := 0) (by omega) (by decide)).mp z)), if_neg e0]
            by_cases e4 : c.2.1 = 1
            · rw [if_pos (by rw [e4]; rfl), if_pos e4]
              rw [e4] at o3
              have o3 : c.2.2 < dT σ := o3
              have zv := hz _ o3
              have wv := Nat.lt_of_lt_of_le (show vl σ s c.2.2 < dS σ c.2.2 from Nat.mod_lt _ (by omega)) zv.2
              rw [nI_clamp (by omega), hv _ o3, pk_rem (by omega) (by omega) (by omega)]
            · rw [if_neg (show ¬ nI c.2.1 = (1 : Int32) from fun z => e4 ((nI_eq (a := c.2.1) (b := 1) (by omega) (by decide)).mp z)), if_neg e4]
              have e5 : c.2.1 = 2 := by omega
              rw [e5] at o3
              have o3 : c.2.2 < 4 := o3
              rw [nI_add, pk_rem (by omega) (by omega) (by omega)]
        rw [nI_1]
        refine ih (y + 1) ρ2 (by omega) (by rw [er]; exact Ag_tr ha (Ag_pI rfl)) (fun t ht => ?_)
        rw [htk, nval_snoc, er, iR_pI, hzv]
        by_cases et : t = c.1
        · rw [if_pos ⟨rfl, et⟩, if_pos et]
        · rw [if_neg (fun z => et z.2), if_neg et]
          exact hf t ht
  -- the first loop
  have key1 : ∀ d t ρ1, t + d = dT σ → Ag (fun q => q = (41, 11, 0)) ρ ρ1 → (∀ u, u < t → iR ρ1 (41, 11, 0) u = nI (vl σ s u)) → Y G [] ad0 M Q 2 (fun ad => [(0, .ref (ad (40, 0, 0))), (1, .int (nI x)), (2, .int (nI t))]) (fun ad => []) ρ1 := by
    intro d
    induction d with
    | zero =>
      intro t ρ1 ht ha hf
      have : t = dT σ := by omega
      subst this
      refine T_Mo_goes_2 hG hM _ _ ρ1 ⟨fun _ => ?_, fun q => absurd (by rw [(ha (40, 0, 0) (by decide)).2.1, h0]; exact (nI_leI (by omega) (by omega)).mpr (Nat.le_refl _)) q⟩
      exact key2 L.length 0 ρ1 (by omega) ha (fun t ht => hf t ht)
    | succ d ih =>
      intro t ρ1 ht ha hf
      have hin : vp_in (nI t) 8 := vp_in_nI (by omega) (by omega)
      refine T_Mo_goes_2 hG hM _ _ ρ1 ⟨fun q => absurd (by rw [(ha (40, 0, 0) (by decide)).2.1, h0] at q; exact (nI_leI (by omega) (by omega)).mp q) (by omega), fun _ => ⟨hin, hin, fun ρ2 e2 => ?_⟩⟩
      rw [nI_clamp (by omega), (ha (41, 10, 0) (by decide)).2.1, hv t (by omega)] at e2
      rw [nI_1]
      refine ih (t + 1) ρ2 (by omega) (by rw [e2]; exact Ag_tr ha (Ag_pI rfl)) (fun u hu => ?_)
      rw [e2, iR_pI]
      by_cases e : u = t
      · subst e
        rw [if_pos ⟨rfl, rfl⟩]
      · rw [if_neg (fun z => e z.2)]
        exact hf u (by omega)
  exact key1 (dT σ) 0 ρ (by omega) Ag_rf (fun u hu => absurd hu (by omega))
end B7
