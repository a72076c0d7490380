/-! packing; effects -/
theorem wtf4 : ∀ t, wtf (fun _ => 4) t = 4 ^ t
  | 0 => rfl
  | t + 1 => by show wtf (fun _ => 4) t * 4 = _; rw [wtf4 t, Nat.pow_succ]
def pkf (sz : Nat → Nat) (s n : Nat) : Nat := encf (fun _ => 4) (vlf sz s) n
theorem pkf_lt {sz : Nat → Nat} {s n : Nat} (h : ∀ t, t < n → 2 ≤ sz t ∧ sz t ≤ 4) : pkf sz s n < 4 ^ n := by
  rw [← wtf4]
  exact encf_lt (fun t ht => Nat.lt_of_lt_of_le (Nat.mod_lt _ (by have := h t ht; omega)) (h t ht).2)
theorem pow4_le {n : Nat} (h : n ≤ 8) : 4 ^ n ≤ 65536 := Nat.pow_le_pow_right (by omega) h
theorem pkf_val {sz : Nat → Nat} {s n t : Nat} (h : ∀ t, t < n → 2 ≤ sz t ∧ sz t ≤ 4) (ht : t < n) : pkf sz s n / 4 ^ t % 4 = vlf sz s t := by
  have := vlf_enc (sz := fun _ => 4) (f := vlf sz s) (n := n) (fun t ht => Nat.lt_of_lt_of_le (Nat.mod_lt _ (by have := h t ht; omega)) (h t ht).2) t ht
  unfold vlf at this
  rw [wtf4] at this
  exact this
theorem nI_upd {E E' w a b : Nat} (h : E' + w * a = E + w * b) : nI E + nI w * (nI b - nI a) = nI E' := by
  have h1 : nI E' + nI w * nI a = nI E + nI w * nI b := by rw [pk_mul, pk_mul, nI_add, nI_add, h]
  generalize nI E = e at *
  generalize nI E' = e' at *
  generalize nI w = x at *
  generalize nI a = y at *
  generalize nI b = z at *
  grind
section B4
variable {G : Gc} {ρ : Rs} {K : (Ro → Nat) → Option Value → Rs → Prop}
theorem c_pack (hG : gok G) {s n : Nat} {sz : Nat → Nat} (h0 : iR ρ (1, 0, 0) 0 = nI n) (hn : n ≤ 8) (hs : ∀ x, x < n → iR ρ (30, 3, 0) x = nI (sz x)) (hz : ∀ x, x < n → 2 ≤ sz x ∧ sz x ≤ 4) (hb : s < 2 ^ 31) (k : ∀ ad, K ad (some (.int (nI (pkf sz s n)))) ρ) : semV G r_Wo_pack [] (fun ad => [.ref (ad (1, 0, 0)), .int (nI s)]) ρ K := by
  refine semV_intro yk_Wo_pack.2.2.2.2 (fun _ => Nat.le_of_ble_eq_true rfl) (fun M Q ad0 hM => ?_)
  refine T_Wo_pack_0 hG hM _ ρ ?_
  have key : ∀ d t, t + d = n → Y G [] ad0 M Q 7 (fun ad => [(0, .ref (ad (1, 0, 0))), (2, .int (nI (s / wtf sz t))), (3, .int (nI (pkf sz s t))), (4, .int (nI t))]) (fun ad => []) ρ := by
    intro d
    induction d with
    | zero =>
      intro t ht
      have : t = n := by omega
      subst this
      exact T_Wo_pack_7 hG hM _ _ _ ρ ⟨fun _ => k, fun q => absurd (by rw [h0]; exact (nI_leI (by omega) (by omega)).mpr (Nat.le_refl _)) q⟩
    | succ d ih =>
      intro t ht
      have htn : t < n := by omega
      have z1 := hz t htn
      have hcl : Int32.toNatClampNeg (nI t) = t := nI_clamp (by omega)
      have hpos : ¬ nI (sz t) ≤ 0 := nI_nle (by omega) (by omega)
      have hsl : s / wtf sz t < 2 ^ 31 := Nat.lt_of_le_of_lt (Nat.div_le_self _ _) hb
      refine T_Wo_pack_7 hG hM _ _ _ ρ ⟨fun q => absurd (by rw [h0] at q; exact (nI_leI (by omega) (by omega)).mp q) (by omega), fun _ => ⟨vp_in_nI (by omega) (by omega), ?_⟩⟩
      rw [hcl, hs t htn]
      refine ⟨fun _ => ⟨nI_ne0 (by omega) (by omega), nI_ne0 (by omega) (by omega)⟩, fun z3 e3 z4 e4 => ?_⟩
      rw [if_neg hpos, pk_div hsl (by omega) (by omega), Nat.div_div_eq_div_mul] at e3
      have hlt : pkf sz s t < 2 ^ (2 * t) := by
        have := pkf_lt (sz := sz) (s := s) (n := t) (fun u hu => hz u (by omega))
        rw [Nat.pow_mul]
        exact this
      have hb2 : s / wtf sz t % sz t < 4 := Nat.lt_of_lt_of_le (Nat.mod_lt _ (by omega)) z1.2
      rw [if_neg hpos, pk_rem hsl (by omega) (by omega), pk_shlN _ (2 * t) (sh2 t (by omega)) (by
        have : 2 ^ (2 * t) ≤ 2 ^ 14 := Nat.pow_le_pow_right (by omega) (by omega)
        have := Nat.mul_le_mul (Nat.le_of_lt hb2) this
        omega), nI_or, or_add hlt] at e4
      have e5 : pkf sz s t + s / wtf sz t % sz t * 2 ^ (2 * t) = pkf sz s (t + 1) := by
        show _ = encf (fun _ => 4) (vlf sz s) t + wtf (fun _ => 4) t * vlf sz s t
        rw [wtf4, Nat.pow_mul, Nat.mul_comm]
        rfl
      rw [e5] at e4
      subst e3; subst e4
      rw [nI_1]
      exact ih (t + 1) (by omega)
  have := key n 0 (by omega)
  rw [show s / wtf sz 0 = s from Nat.div_one s] at this
  exact this
/-- no later clause is of the same thing -/
def lastOf (L : List Ce) (x : Nat) : Prop := ∀ y c d, x < y → L[x]? = some c → L[y]? = some d → d.1 ≠ c.1
theorem c_isLast (hG : gok G) {i j x : Nat} {L : List Ce} (hc : okC i j) (hL : Cls ρ i j L) (hx : x < L.length) (k1 : lastOf L x → ∀ ad, K ad (some (.int 1)) ρ) (k0 : ¬ lastOf L x → ∀ ad, K ad (some (.int 0)) ρ) : semV G r_Cl_isLastOfItsThing [] (fun ad => [.ref (ad (10, i, j)), .int (nI x)]) ρ K := by
  obtain ⟨l4, l0, le, lok⟩ := hL
  refine semV_intro yk_Cl_isLastOfItsThing.2.2.2.2 (fun _ => Nat.le_of_ble_eq_true rfl) (fun M Q ad0 hM => ?_)
  refine T_Cl_isLastOfItsThing_0 hG hM i j hc _ ρ ?_
  have hget : L[x]? = some L[x] := List.getElem?_eq_getElem hx
  have key : ∀ d y, y + d = L.length → x < y → (∀ y' d, x < y' → y' < y → L[y']? = some d → d.1 ≠ (L[x]).1) → Y G [] ad0 M Q 4 (fun ad => [(0, .ref (ad (10, i, j))), (1, .int (nI x)), (2, .int (nI y))]) (fun ad => []) ρ := by
    intro d
    induction d with
    | zero =>
      intro y hy hxy hall
      refine T_Cl_isLastOfItsThing_4 hG hM i j hc _ _ ρ ⟨fun _ => k1 (fun y' c d h1 h2 h3 => ?_), fun q => absurd (by rw [l0]; exact (nI_leI (by omega) (by omega)).mpr (by omega)) q⟩
      rw [hget] at h2
      cases h2
      exact hall y' d h1 (by have := (List.getElem?_eq_some_iff.mp h3).1; omega) h3
    | succ d ih =>
      intro y hy hxy hall
      have hyl : y < L.length := by omega
      have hgy : L[y]? = some L[y] := List.getElem?_eq_getElem hyl
      refine T_Cl_isLastOfItsThing_4 hG hM i j hc _ _ ρ ⟨fun q => absurd (by rw [l0] at q; exact (nI_leI (by omega) (by omega)).mp q) (by omega), fun _ => ⟨vp_in_nI (by omega) (by omega), vp_in_nI (by omega) (by omega), ?_⟩⟩
      rw [nI_clamp (by omega), nI_clamp (by omega), (le y _ hgy).1, (le x _ hget).1]
      have o1 := (lok _ (List.getElem_mem hyl)).1
      have o2 := (lok _ (List.getElem_mem hx)).1
      refine ⟨fun q => k0 (fun h => ?_), fun q => ?_⟩
      · exact h y _ _ hxy hget hgy ((nI_eq (by omega) (by omega)).mp q)
      · rw [nI_1]
        refine ih (y + 1) (by omega) (by omega) (fun y' d h1 h2 h3 => ?_)
        by_cases e : y' = y
        · subst e
          rw [hgy] at h3
          cases h3
          exact fun z => q (by rw [z])
        · exact hall y' d h1 (by omega) h3
  have := key (L.length - (x + 1)) (x + 1) (by omega) (by omega) (fun y' d h1 h2 _ => by omega)
  rw [← nI_1] at this
  exact this
end B4
