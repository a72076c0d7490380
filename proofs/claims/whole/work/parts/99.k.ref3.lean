/-! THE REFERENCE: effect, leads -/
section B51
variable {G : Gc} {ρ : Rs} {K : (Ro → Nat) → Option Value → Rs → Prop}
theorem in_3 {v : Int32} : (¬ v < 0 ∧ ¬ 2 < v) ↔ vp_in v 3 := by
  have h := in_iff (v := v) (n := 3) (by omega)
  rw [show nI 3 - 1 = (2 : Int32) by decide] at h
  exact h
theorem in_4 {v : Int32} : (¬ v < 0 ∧ ¬ 3 < v) ↔ vp_in v 4 := by
  have h := in_iff (v := v) (n := 4) (by omega)
  rw [show nI 4 - 1 = (3 : Int32) by decide] at h
  exact h
theorem cM_effect (hG : gok G) {σ : Wd} {w u t op v : Int32} (h : RMo ρ σ) (hW : Wok σ) (k : ∀ ad ρ' r τ, RMo ρ' τ → trEff σ w u t op v r τ → Ag PMo ρ ρ' → K ad (some (.int r)) ρ') : semV G r_Mo_effect [] (fun ad => [.ref (ad (40, 0, 0)), .int w, .int u, .int t, .int op, .int v]) ρ K := by
  have h0 := h
  obtain ⟨⟨hT, h2, h3, h4, h5, h6, h9⟩, -, -⟩ := h
  have h8 := hT.2.1
  have hz := hT.2.2.2.1
  have h12 := hW.2.2.2.2.1
  have hO3 := hW.2.2.2.2.2.1
  have bad : ¬ (vp_in w (dA σ) ∧ vp_in u (dO σ w.toNatClampNeg) ∧ efI (dS σ) (dT σ) t op v) → ∀ ad, K ad (some (.int (-2))) ρ := fun hno ad => k ad ρ _ σ h0 (Or.inl ⟨hno, rfl, rfl⟩) Ag_rf
  refine semV_intro yk_Mo_effect.2.2.2.2 (fun _ => Nat.le_of_ble_eq_true rfl) (fun M Q ad0 hM => ?_)
  refine T_Mo_effect_0 hG hM _ _ _ _ _ ρ ?_
  refine c_Mo_isAct hG h3 (by omega) (fun hv ad => ⟨_, rfl, fun z => absurd z (by decide), fun _ => ?_⟩) (fun hv ad => ⟨_, rfl, fun _ => bad (fun z => hv z.1), fun z => absurd rfl z⟩)
  have hv0 := hv
  obtain ⟨a, ha, ev⟩ := vp_in_of hv (by omega)
  have hO := hO3 a ha
  have ecl : w.toNatClampNeg = a := by rw [ev, nI_clamp (by omega)]
  rw [ecl, h4 a ha]
  rw [ecl] at bad
  refine ⟨by rw [ev]; exact vp_in_nI (by omega) (by omega), ?_⟩
  refine c_isIn0 hG (by omega) (fun hu ad => ⟨_, rfl, fun z => absurd z (by decide), fun _ => ?_⟩) (fun hu ad => ⟨_, rfl, fun _ => bad (fun z => hu z.2.1), fun z => absurd rfl z⟩)
  obtain ⟨y, hy, eu⟩ := vp_in_of hu (by omega)
  refine c_Mo_isThing hG hT.1 (by omega) (fun ht ad => ⟨_, rfl, fun z => absurd z (by decide), fun _ => ?_⟩) (fun ht ad => ⟨_, rfl, fun _ => bad (fun z => ht z.2.2.1), fun z => absurd rfl z⟩)
  have ht0 := ht
  obtain ⟨x, hx, et⟩ := vp_in_of ht (by omega)
  have ect : t.toNatClampNeg = x := by rw [et, nI_clamp (by omega)]
  have hzx := hz x hx
  refine c_isIn hG (fun hop ad => ⟨_, rfl, fun z => absurd z (by decide), fun _ => ?_⟩) (fun hop ad => ⟨_, rfl, fun _ => bad (fun z => hop (in_3.mpr z.2.2.2.1)), fun z => absurd rfl z⟩)
  have hop3 := in_3.mp hop
  -- all is right: the effect is written
  have e3 : (3 : Int32) * nI a = nI (3 * a) := pk_mul 3 a
  have row : (3 : Int32) * w + u = nI (3 * a + y) := by rw [ev, eu, e3, nI_ad]
  have hE := h6 a y ha hy
  have hEl := hE.1
  have e12 : (12 : Int32) * nI (3 * a + y) = nI (12 * (3 * a + y)) := pk_mul 12 _
  have e3l : (3 : Int32) * nI (dE σ a y).length = nI (3 * (dE σ a y).length) := pk_mul 3 _
  have tail : efI (dS σ) (dT σ) t op v → ∀ (c : Ce), okEf (dS σ) (dT σ) c → isCe c t op v → (dE σ a y).length < 4 → ∀ ρ4, ρ4 = pI (pI (pI (pI ρ (41, 8, 0) (12 * (3 * a + y) + 3 * (dE σ a y).length) t) (41, 8, 0) (12 * (3 * a + y) + 3 * (dE σ a y).length + 1) op) (41, 8, 0) (12 * (3 * a + y) + 3 * (dE σ a y).length + 2) v) (41, 7, 0) (3 * a + y) (nI ((dE σ a y).length + 1)) → MB ρ4 (sEff σ a y c) ∧ Ag PMo ρ ρ4 ∧ iR ρ4 (41, 7, 0) (3 * a + y) = nI ((dE σ a y).length + 1) := by
    intro hef c hok hce hl ρ4 e4
    have a4 : Ag (fun q => q = (41, 8, 0) ∨ q = (41, 7, 0)) ρ ρ4 := by rw [e4]; exact Ag_tr (Ag_pI (Or.inl rfl)) (Ag_tr (Ag_pI (Or.inl rfl)) (Ag_tr (Ag_pI (Or.inl rfl)) (Ag_pI (Or.inr rfl))))
    have i4 : iR ρ4 (40, 0, 0) = iR ρ (40, 0, 0) := (a4 (40, 0, 0) (by simp)).2.1
    have r7 : ∀ j, iR ρ4 (41, 7, 0) j = if j = 3 * a + y then nI ((dE σ a y).length + 1) else iR ρ (41, 7, 0) j := fun j => by rw [e4, iR_pI, iR_pI, iR_pI, iR_pI]; simp
    have r8 : ∀ j, iR ρ4 (41, 8, 0) j = if j = 12 * (3 * a + y) + 3 * (dE σ a y).length + 2 then v else if j = 12 * (3 * a + y) + 3 * (dE σ a y).length + 1 then op else if j = 12 * (3 * a + y) + 3 * (dE σ a y).length then t else iR ρ (41, 8, 0) j := fun j => by rw [e4, iR_pI, iR_pI, iR_pI, iR_pI]; simp
    refine ⟨⟨⟨by rw [i4]; exact hT.1, hT.2.1, hT.2.2.1, hT.2.2.2.1, by rw [(a4 (41, 1, 0) (by simp)).2.1]; exact hT.2.2.2.2⟩, by rw [i4]; exact h2, by rw [i4]; exact h3, by rw [(a4 (41, 4, 0) (by simp)).2.1]; exact h4, fun z hz2 => MCo_ag (h5 z hz2) a4 (by simp) (by simp), fun b kk hb hk => ?_, by rw [i4]; exact h9⟩, Ag_mono a4 (fun q hq => by rcases hq with hq | hq <;> rw [hq] <;> (unfold PMo; decide)), by rw [r7, if_pos rfl]⟩
    show MEf ρ4 (3 * b + kk) (if b = a ∧ kk = y then dE σ a y ++ [c] else dE σ b kk)
    by_cases e : b = a ∧ kk = y
    · rw [if_pos e, e.1, e.2]
      refine ⟨by simp; omega, by rw [r7, if_pos rfl]; simp, fun z d hd => ?_⟩
      by_cases ez : z < (dE σ a y).length
      · rw [List.getElem?_append_left ez] at hd
        have := hE.2.2 z d hd
        rw [r8, r8, r8, if_neg (by omega), if_neg (by omega), if_neg (by omega), if_neg (by omega), if_neg (by omega), if_neg (by omega), if_neg (by omega), if_neg (by omega), if_neg (by omega)]
        exact this
      · rw [List.getElem?_append_right (by omega)] at hd
        have ez2 : z = (dE σ a y).length := by
          rcases Nat.eq_zero_or_pos (z - (dE σ a y).length) with q | q
          · omega
          · exfalso
            have : ([c] : List Ce)[z - (dE σ a y).length]? = none := List.getElem?_eq_none (by simp; omega)
            rw [this] at hd; cases hd
        rw [ez2, Nat.sub_self] at hd
        have hd : some c = some d := hd
        cases hd
        rw [ez2, r8, r8, r8, if_neg (by omega), if_neg (by omega), if_pos rfl, if_neg (by omega), if_pos rfl, if_pos rfl]
        exact hce
    · rw [if_neg e]
      have hb : b < dA σ := hb
      have hk : kk < dO σ b := hk
      have hOb := hO3 b hb
      have hne : 3 * b + kk ≠ 3 * a + y := fun q => e (by omega)
      obtain ⟨m1, m2, m3⟩ := h6 b kk hb hk
      refine ⟨m1, by rw [r7, if_neg hne]; exact m2, fun z d hd => ?_⟩
      have hzl := (List.getElem?_eq_some_iff.mp hd).1
      rw [r8, r8, r8, if_neg (by omega), if_neg (by omega), if_neg (by omega), if_neg (by omega), if_neg (by omega), if_neg (by omega), if_neg (by omega), if_neg (by omega), if_neg (by omega)]
      exact m3 z d hd
  have efi : (if op = 1 then vp_in v (dT σ) else if op = 0 then vp_in v (dS σ x) else vp_in v 4) → efI (dS σ) (dT σ) t op v := fun q => ⟨ht0, hop3, by rw [ect]; exact q⟩
  have nefi : ¬ (if op = 1 then vp_in v (dT σ) else if op = 0 then vp_in v (dS σ x) else vp_in v 4) → ∀ ad, K ad (some (.int (-2))) ρ := fun q => bad (fun z => q (by have := z.2.2.2.2; rw [ect] at this; exact this))
  have e4l : (nI (dE σ a y).length = (4 : Int32)) ↔ (dE σ a y).length = 4 := nI_eq (b := 4) (by omega) (by decide)
  have full : efI (dS σ) (dT σ) t op v → (dE σ a y).length = 4 → ∀ ad, K ad (some (.int (-3))) ρ := fun hef hl ad => by
    obtain ⟨c, hok, hce⟩ := (efI_ce h8 hz).mp hef
    exact k ad ρ _ σ h0 (Or.inr ⟨a, y, c, ha, hy, ev, eu, hok, hce, Or.inl ⟨hl, rfl, rfl⟩⟩) Ag_rf
  have done : efI (dS σ) (dT σ) t op v → (dE σ a y).length ≠ 4 → ∀ ρ4, ρ4 = pI (pI (pI (pI ρ (41, 8, 0) (12 * (3 * a + y) + 3 * (dE σ a y).length) t) (41, 8, 0) (12 * (3 * a + y) + 3 * (dE σ a y).length + 1) op) (41, 8, 0) (12 * (3 * a + y) + 3 * (dE σ a y).length + 2) v) (41, 7, 0) (3 * a + y) (nI ((dE σ a y).length + 1)) → semV G r_Mo_forget [] (fun ad => [.ref (ad (40, 0, 0))]) ρ4 (fun ad u78 ρ77 => u78 = none ∧ (vp_in (nI (3 * a + y)) 36 ∧ (∀ ad, K ad (some (.int (iR ρ77 (41, 7, 0) (3 * a + y)))) ρ77))) := by
    intro hef hl ρ4 e4
    obtain ⟨c, hok, hce⟩ := (efI_ce h8 hz).mp hef
    obtain ⟨t1, t2, t3⟩ := tail hef c hok hce (by omega) ρ4 e4
    refine c_forget hG (fun ad ρ5 f1 f2 => ⟨rfl, vp_in_nI (by omega) (by omega), fun ad => ?_⟩)
    rw [(f2 (41, 7, 0) (by simp)).2.1, t3]
    exact k ad ρ5 _ (sEff σ a y c) (RMo_f (MB_f t1 f1 f2) f1) (Or.inr ⟨a, y, c, ha, hy, ev, eu, hok, hce, Or.inr ⟨by omega, rfl, rfl⟩⟩) (Ag_tr t2 (Ag_mono f2 (fun q hq => by rw [hq]; unfold PMo; decide)))
  have r7 : ∀ ρ1 : Rs, Ag (fun q => q = (41, 8, 0)) ρ ρ1 → iR ρ1 (41, 7, 0) (3 * a + y) = nI (dE σ a y).length := fun ρ1 h1 => by rw [(h1 (41, 7, 0) (by simp)).2.1]; exact hE.2.1
  have c1 : Int32.toNatClampNeg (nI (12 * (3 * a + y) + 3 * (dE σ a y).length)) = 12 * (3 * a + y) + 3 * (dE σ a y).length := nI_clamp (by omega)
  have c2 : Int32.toNatClampNeg (nI (12 * (3 * a + y) + 3 * (dE σ a y).length + 1)) = 12 * (3 * a + y) + 3 * (dE σ a y).length + 1 := nI_clamp (by omega)
  have c3 : Int32.toNatClampNeg (nI (12 * (3 * a + y) + 3 * (dE σ a y).length + 2)) = 12 * (3 * a + y) + 3 * (dE σ a y).length + 2 := nI_clamp (by omega)
  have p2 : nI (12 * (3 * a + y) + 3 * (dE σ a y).length) + 2 = nI (12 * (3 * a + y) + 3 * (dE σ a y).length + 2) := nI_ad _ 2
  rw [row, nI_clamp (n := 3 * a + y) (by omega), ect, hT.2.2.2.2 x hx]
  have i36 : vp_in (nI (3 * a + y)) 36 := vp_in_nI (by omega) (by omega)
  have fin : efI (dS σ) (dT σ) t op v → (dE σ a y).length ≠ 4 → ∀ ρ1, ρ1 = pI ρ (41, 8, 0) (12 * (3 * a + y) + 3 * (dE σ a y).length) t → ∀ ρ2, ρ2 = pI ρ1 (41, 8, 0) (12 * (3 * a + y) + 3 * (dE σ a y).length + 1) op → ∀ ρ3, ρ3 = pI ρ2 (41, 8, 0) (12 * (3 * a + y) + 3 * (dE σ a y).length + 2) v → ∀ ρ4, ρ4 = pI ρ3 (41, 7, 0) (3 * a + y) (iR ρ3 (41, 7, 0) (3 * a + y) + 1) → semV G r_Mo_forget [] (fun ad => [.ref (ad (40, 0, 0))]) ρ4 (fun ad u78 ρ77 => u78 = none ∧ (vp_in (nI (3 * a + y)) 36 ∧ (∀ ad, K ad (some (.int (iR ρ77 (41, 7, 0) (3 * a + y)))) ρ77))) := by
    intro hef hl ρ1 e1 ρ2 e2 ρ3 e3' ρ4 e4
    have q3 : iR ρ3 (41, 7, 0) (3 * a + y) = nI (dE σ a y).length := r7 ρ3 (by rw [e3', e2, e1]; exact Ag_tr (Ag_pI rfl) (Ag_tr (Ag_pI rfl) (Ag_pI rfl)))
    rw [q3, nI_1] at e4
    exact done hef hl ρ4 (by rw [e4, e3', e2, e1])
  refine ⟨fun q0 => ⟨by rw [et]; exact vp_in_nI (by omega) (by omega), ?_⟩, fun q0 => ⟨fun q1 => ?_, fun q1 => ?_⟩⟩
  · have n1 : ¬ op = 1 := by rw [q0]; decide
    rw [if_neg n1, if_pos q0] at efi nefi
    exact c_isIn0 hG (by omega) (fun hin ad => ⟨_, rfl, fun z => absurd z (by decide), fun _ => by rw [hE.2.1, e12, e3l, nI_ad, c1, nI_1 (12 * (3 * a + y) + 3 * (dE σ a y).length), c2, p2, c3, e4l]; exact ⟨i36, full (efi hin), fun hl => ⟨i36, vp_in_nI (by omega) (by omega), fun ρ1 e1 => ⟨vp_in_nI (by omega) (by omega), fun ρ2 e2 => ⟨vp_in_nI (by omega) (by omega), fun ρ3 e3 => ⟨i36, i36, fun ρ4 e4 => fin (efi hin) hl ρ1 e1 ρ2 e2 ρ3 e3 ρ4 e4⟩⟩⟩⟩⟩⟩) (fun hin ad => ⟨_, rfl, fun _ => nefi hin, fun z => absurd rfl z⟩)
  · rw [if_pos q1] at efi nefi
    exact c_Mo_isThing hG hT.1 (by omega) (fun hin ad => ⟨_, rfl, fun z => absurd z (by decide), fun _ => by rw [hE.2.1, e12, e3l, nI_ad, c1, nI_1 (12 * (3 * a + y) + 3 * (dE σ a y).length), c2, p2, c3, e4l]; exact ⟨i36, full (efi hin), fun hl => ⟨i36, vp_in_nI (by omega) (by omega), fun ρ1 e1 => ⟨vp_in_nI (by omega) (by omega), fun ρ2 e2 => ⟨vp_in_nI (by omega) (by omega), fun ρ3 e3 => ⟨i36, i36, fun ρ4 e4 => fin (efi hin) hl ρ1 e1 ρ2 e2 ρ3 e3 ρ4 e4⟩⟩⟩⟩⟩⟩) (fun hin ad => ⟨_, rfl, fun _ => nefi hin, fun z => absurd rfl z⟩)
  · rw [if_neg q1, if_neg q0] at efi nefi
    exact c_isIn hG (fun hin ad => ⟨_, rfl, fun z => absurd z (by decide), fun _ => by rw [hE.2.1, e12, e3l, nI_ad, c1, nI_1 (12 * (3 * a + y) + 3 * (dE σ a y).length), c2, p2, c3, e4l]; exact ⟨i36, full (efi (in_4.mp hin)), fun hl => ⟨i36, vp_in_nI (by omega) (by omega), fun ρ1 e1 => ⟨vp_in_nI (by omega) (by omega), fun ρ2 e2 => ⟨vp_in_nI (by omega) (by omega), fun ρ3 e3 => ⟨i36, i36, fun ρ4 e4 => fin (efi (in_4.mp hin)) hl ρ1 e1 ρ2 e2 ρ3 e3 ρ4 e4⟩⟩⟩⟩⟩⟩) (fun hin ad => ⟨_, rfl, fun _ => nefi (fun z => hin (in_4.mpr z)), fun z => absurd rfl z⟩)
theorem RMo_p {ρ ρ' : Rs} {σ : Wd} {P : Ro → Prop} (h : RMo ρ σ) (ha : Ag P ρ ρ') (h40 : ¬ P (40, 0, 0)) (hf : ∀ f, f ≠ 10 → f ≠ 11 → f < 23 ∨ f = 27 → ¬ P (41, f, 0)) : RMo ρ' σ := by
  obtain ⟨⟨hT, h2, h3, h4, h5, h6, h9⟩, hl, hp⟩ := h
  have i := (ha _ h40).2.1
  have A := fun f h1 h2 h3 => ha (41, f, 0) (hf f h1 h2 h3)
  refine ⟨⟨⟨by rw [i]; exact hT.1, hT.2.1, hT.2.2.1, hT.2.2.2.1, by rw [(A 1 (by omega) (by omega) (by omega)).2.1]; exact hT.2.2.2.2⟩, by rw [i]; exact h2, by rw [i]; exact h3, by rw [(A 4 (by omega) (by omega) (by omega)).2.1]; exact h4, fun x hx => MCo_ag (h5 x hx) ha (hf 5 (by omega) (by omega) (by omega)) (hf 6 (by omega) (by omega) (by omega)), fun a k q1 q2 => MEf_ag (h6 a k q1 q2) ha (hf 7 (by omega) (by omega) (by omega)) (hf 8 (by omega) (by omega) (by omega)), by rw [i]; exact h9⟩, fun z => ?_, fun z => ?_⟩
  · exact ML_of (hl (by rw [← i]; exact z)) (by rw [i]) (fun f f1 f2 => (A f (by omega) (by omega) (by omega)).2.1)
  · exact MP_of (hp (by rw [← i]; exact z)) (by rw [i]) (A 27 (by omega) (by omega) (by omega)).2.1
theorem cM_leads (hG : gok G) {σ : Wd} {v a kk : Int32} (h : RMo ρ σ) (hW : Wok σ) (k : ∀ ad ρ' r, RMo ρ' σ → anLd σ v a kk r → Ag PMo ρ ρ' → K ad (some (.int r)) ρ') : semV G r_Mo_leads [] (fun ad => [.ref (ad (40, 0, 0)), .int v, .int a, .int kk]) ρ K := by
  have h0 := h
  obtain ⟨⟨hT, h2, h3, h4, h5, h6, h9⟩, -, -⟩ := h
  have h12 := hW.2.2.2.2.1
  have hO3 := hW.2.2.2.2.2.1
  have hN := hT.2.2.1
  have bad : ¬ (vp_in v (nS σ) ∧ vp_in a (dA σ) ∧ vp_in kk (dO σ a.toNatClampNeg)) → ∀ ad, K ad (some (.int (-2))) ρ := fun hno ad => k ad ρ _ h0 (Or.inl ⟨hno, rfl⟩) Ag_rf
  refine semV_intro yk_Mo_leads.2.2.2.2 (fun _ => Nat.le_of_ble_eq_true rfl) (fun M Q ad0 hM => ?_)
  refine T_Mo_leads_0 hG hM _ _ _ ρ ?_
  refine c_Mo_isState hG hT (fun hv ad => ⟨_, rfl, fun z => absurd z (by decide), fun _ => ?_⟩) (fun hv ad => ⟨_, rfl, fun _ => bad (fun z => hv z.1), fun z => absurd rfl z⟩)
  obtain ⟨s, hs, ev⟩ := vp_in_of hv (by omega)
  refine c_Mo_isAct hG h3 (by omega) (fun ha ad => ⟨_, rfl, fun z => absurd z (by decide), fun _ => ?_⟩) (fun ha ad => ⟨_, rfl, fun _ => bad (fun z => ha z.2.1), fun z => absurd rfl z⟩)
  obtain ⟨x, hx, ea⟩ := vp_in_of ha (by omega)
  have hO := hO3 x hx
  have ecl : a.toNatClampNeg = x := by rw [ea, nI_clamp (by omega)]
  rw [ecl, h4 x hx]
  rw [ecl] at bad
  refine ⟨by rw [ea]; exact vp_in_nI (by omega) (by omega), ?_⟩
  refine c_isIn0 hG (by omega) (fun hk ad => ⟨_, rfl, fun z => absurd z (by decide), fun _ => ?_⟩) (fun hk ad => ⟨_, rfl, fun _ => bad (fun z => hk z.2.2), fun z => absurd rfl z⟩)
  obtain ⟨y, hy, ek⟩ := vp_in_of hk (by omega)
  have e3 : (3 : Int32) * nI x = nI (3 * x) := pk_mul 3 x
  rw [ev, ea, ek, e3, nI_ad]
  refine c_Mo_open hG hT (by omega) (fun ad ρ1 o1 o2 => ⟨rfl, ?_⟩)
  have T1 : MT ρ1 σ := MT_ag hT o2 (by simp) (by simp)
  have R1 : RMo ρ1 σ := RMo_p h0 o2 (by simp) (fun f f1 f2 f3 => by simp; omega)
  have ag1 : Ag PMo ρ ρ1 := Ag_mono o2 (fun q hq => by rw [hq]; unfold PMo; decide)
  have okc : ∀ c ∈ dC σ x, okCo (dT σ) c := (hW.2.2.2.2.2.2.2.1 x (Or.inl hx)).2
  have oke : ∀ c ∈ dE σ x y, okEf (dS σ) (dT σ) c := (hW.2.2.2.2.2.2.2.2 x y hx hy).2
  refine c_Mo_hold (s := s) hG T1 (by omega) (MCo_ag (h5 x (Or.inl hx)) o2 (by simp) (by simp)) okc o1 (fun ad => ⟨_, rfl, ?_⟩)
  cases hh : holdW σ (dC σ x) s with
  | false =>
    refine ⟨fun _ ad => k ad ρ1 _ R1 (Or.inr ⟨s, x, y, hs, hx, hy, ev, ea, ek, ?_⟩) ag1, fun z => absurd rfl z⟩
    unfold nxW
    rw [if_neg (by rw [hh]; simp)]; rfl
  | true =>
    refine ⟨fun z => absurd z (by decide), fun _ => ?_⟩
    refine c_Mo_goes hG T1 (by omega) (MEf_ag (h6 x y hx hy) o2 (by simp) (by simp)) oke o1 (fun ad ρ2 o3 => ⟨_, rfl, fun ad => ?_⟩)
    refine k ad ρ2 _ (RMo_p R1 o3 (by simp) (fun f f1 f2 f3 => by simp; omega)) (Or.inr ⟨s, x, y, hs, hx, hy, ev, ea, ek, ?_⟩) (Ag_tr ag1 (Ag_mono o3 (fun q hq => by rw [hq]; unfold PMo; decide)))
    unfold nxW
    rw [if_pos hh]; rfl
end B51
