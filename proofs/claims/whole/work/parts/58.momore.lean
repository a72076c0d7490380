/-! THE REFERENCE: forget, more -/
/-- nothing is laid, nothing parted -/
def MFg (ρ ρ' : Rs) : Prop := iR ρ' (40, 0, 0) 12 = 0 ∧ iR ρ' (40, 0, 0) 26 = 0 ∧ (∀ j, j ≠ 12 → j ≠ 26 → iR ρ' (40, 0, 0) j = iR ρ (40, 0, 0) j)
section B14
variable {G : Gc} {ρ : Rs} {K : (Ro → Nat) → Option Value → Rs → Prop}
theorem c_forget (hG : gok G) (k : ∀ ad ρ', MFg ρ ρ' → Ag (fun q => q = (40, 0, 0)) ρ ρ' → K ad none ρ') : semV G r_Mo_forget [] (fun ad => [.ref (ad (40, 0, 0))]) ρ K := by
  refine semV_intro yk_Mo_forget.2.2.2.2 (fun _ => Nat.le_of_ble_eq_true rfl) (fun M Q ad0 hM => ?_)
  refine T_Mo_forget_0 hG hM ρ (fun ρ1 e1 ρ2 e2 ad => ?_)
  have b : ∀ j, iR ρ2 (40, 0, 0) j = if j = 26 then 0 else if j = 12 then 0 else iR ρ (40, 0, 0) j := by
    intro j; rw [e2, iR_pI, e1, iR_pI]; simp
  refine k ad ρ2 ⟨by rw [b]; simp, by rw [b]; simp, fun j h1 h2 => by rw [b, if_neg h2, if_neg h1]⟩ (by rw [e2, e1]; exact Ag_tr (Ag_pI rfl) (Ag_pI rfl))
theorem c_Mo_more (hG : gok G) {x t op v : Nat} {L : List Ce} (hx : x < 19) (hL : MCo ρ x L)
    (k1 : L.length < 4 → ∀ ad ρ', MCo ρ' x (L ++ [(t, op, v)]) → (∀ y L', y ≠ x → MCo ρ y L' → MCo ρ' y L') → MFg ρ ρ' → Ag (fun q => q = (40, 0, 0) ∨ q = (41, 5, 0) ∨ q = (41, 6, 0)) ρ ρ' → K ad (some (.int (nI (L.length + 1)))) ρ') (k2 : L.length = 4 → ∀ ad, K ad (some (.int (-3))) ρ) : semV G r_Mo_more [] (fun ad => [.ref (ad (40, 0, 0)), .int (nI x), .int (nI t), .int (nI op), .int (nI v)]) ρ K := by
  obtain ⟨l4, l0, le⟩ := hL
  refine semV_intro yk_Mo_more.2.2.2.2 (fun _ => Nat.le_of_ble_eq_true rfl) (fun M Q ad0 hM => ?_)
  have hin : vp_in (nI x) 19 := vp_in_nI hx (by omega)
  have hcx : Int32.toNatClampNeg (nI x) = x := nI_clamp (by omega)
  refine T_Mo_more_0 hG hM _ _ _ _ ρ ⟨hin, ?_⟩
  rw [hcx, l0]
  refine ⟨fun q => k2 ((nI_eq (a := L.length) (b := 4) (by omega) (by decide)).mp q), fun q => ⟨hin, ?_⟩⟩
  have hlt : L.length < 4 := by
    have : L.length ≠ 4 := fun z => q ((nI_eq (a := L.length) (b := 4) (by omega) (by decide)).mpr z)
    omega
  have i0 : (12 : Int32) * nI x + 3 * nI L.length = nI (12 * x + 3 * L.length) := by
    rw [show (12 : Int32) = nI 12 from rfl, show (3 : Int32) = nI 3 from rfl, pk_mul, pk_mul, nI_add]
  rw [i0, nI_1, show nI (12 * x + 3 * L.length) + 2 = nI (12 * x + 3 * L.length + 2) from nI_add _ 2, nI_clamp (by omega), nI_clamp (by omega), nI_clamp (by omega)]
  refine ⟨vp_in_nI (by omega) (by omega), fun ρ3 e3 => ⟨vp_in_nI (by omega) (by omega), fun ρ4 e4 => ⟨vp_in_nI (by omega) (by omega), fun ρ5 e5 => ⟨hin, hin, fun ρ7 e7 => ?_⟩⟩⟩⟩
  have f5 : iR ρ5 (41, 5, 0) x = nI L.length := by rw [e5, iR_pI, e4, iR_pI, e3, iR_pI]; simp [l0]
  rw [f5, nI_1] at e7
  refine c_forget hG (fun ad ρ8 g1 g2 => ⟨rfl, hin, fun ad => ?_⟩)
  have c5 : ∀ y, iR ρ8 (41, 5, 0) y = if y = x then nI (L.length + 1) else iR ρ (41, 5, 0) y := by
    intro y
    rw [(g2 (41, 5, 0) (by simp)).2.1, e7, iR_pI, e5, iR_pI, e4, iR_pI, e3, iR_pI]
    simp
  have c6 : ∀ y, iR ρ8 (41, 6, 0) y = if y = 12 * x + 3 * L.length + 2 then nI v else if y = 12 * x + 3 * L.length + 1 then nI op else if y = 12 * x + 3 * L.length then nI t else iR ρ (41, 6, 0) y := by
    intro y
    rw [(g2 (41, 6, 0) (by simp)).2.1, e7, iR_pI, e5, iR_pI, e4, iR_pI, e3, iR_pI]
    simp
  have c40 : ∀ j, iR ρ7 (40, 0, 0) j = iR ρ (40, 0, 0) j := by
    intro j
    rw [e7, iR_pI, e5, iR_pI, e4, iR_pI, e3, iR_pI]
    simp
  rw [c5, if_pos rfl]
  refine k1 hlt ad ρ8 ⟨by rw [List.length_append]; simp; omega, by rw [c5, if_pos rfl]; simp, fun y c hy => ?_⟩ (fun y L' hne hL' => ?_) ⟨g1.1, g1.2.1, fun j h1 h2 => (g1.2.2 j h1 h2).trans (c40 j)⟩ ?_
  · rw [c6, c6, c6]
    by_cases ey : y = L.length
    · subst ey
      rw [List.getElem?_append_right (Nat.le_refl _), Nat.sub_self] at hy
      cases hy
      refine ⟨?_, ?_, ?_⟩
      · rw [if_neg (by omega), if_neg (by omega), if_pos rfl]
      · rw [if_neg (by omega), if_pos rfl]
      · rw [if_pos rfl]
    · have hyl : y < L.length := by
        have := (List.getElem?_eq_some_iff.mp hy).1
        rw [List.length_append] at this
        simp at this
        omega
      rw [List.getElem?_append_left hyl] at hy
      obtain ⟨a1, a2, a3⟩ := le y c hy
      refine ⟨?_, ?_, ?_⟩
      · rw [if_neg (by omega), if_neg (by omega), if_neg (by omega)]; exact a1
      · rw [if_neg (by omega), if_neg (by omega), if_neg (by omega)]; exact a2
      · rw [if_neg (by omega), if_neg (by omega), if_neg (by omega)]; exact a3
  · obtain ⟨m4, m0, me⟩ := hL'
    refine ⟨m4, by rw [c5, if_neg hne]; exact m0, fun z c hz => ?_⟩
    have hzl := (List.getElem?_eq_some_iff.mp hz).1
    obtain ⟨a1, a2, a3⟩ := me z c hz
    rw [c6, c6, c6]
    refine ⟨?_, ?_, ?_⟩
    · rw [if_neg (by omega), if_neg (by omega), if_neg (by omega)]; exact a1
    · rw [if_neg (by omega), if_neg (by omega), if_neg (by omega)]; exact a2
    · rw [if_neg (by omega), if_neg (by omega), if_neg (by omega)]; exact a3
  · have s1 : Ag (fun q => q = (40, 0, 0) ∨ q = (41, 5, 0) ∨ q = (41, 6, 0)) ρ ρ7 := by
      rw [e7, e5, e4, e3]
      exact Ag_tr (Ag_tr (Ag_tr (Ag_pI (Or.inr (Or.inr rfl))) (Ag_pI (Or.inr (Or.inr rfl)))) (Ag_pI (Or.inr (Or.inr rfl)))) (Ag_pI (Or.inr (Or.inl rfl)))
    exact Ag_tr s1 (Ag_mono g2 (fun q h => Or.inl h))
end B14
