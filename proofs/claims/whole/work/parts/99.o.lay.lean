/-! THE REFERENCE: lay -/
theorem MB_ag {P : Ro → Prop} {ρ ρ' : Rs} {σ : Wd} (h : MB ρ σ) (ha : Ag P ρ ρ') (i : ∀ j, j < 10 → iR ρ' (40, 0, 0) j = iR ρ (40, 0, 0) j) (hf : ∀ f, f < 10 → ¬ P (41, f, 0)) : MB ρ' σ := by
  obtain ⟨hT, h2, h3, h4, h5, h6, h9⟩ := h
  exact ⟨⟨by rw [i 0 (by omega)]; exact hT.1, hT.2.1, hT.2.2.1, hT.2.2.2.1, by rw [(ha _ (hf 1 (by omega))).2.1]; exact hT.2.2.2.2⟩, by rw [i 2 (by omega)]; exact h2, by rw [i 3 (by omega)]; exact h3, by rw [(ha _ (hf 4 (by omega))).2.1]; exact h4, fun x hx => MCo_ag (h5 x hx) ha (hf 5 (by omega)) (hf 6 (by omega)), fun a k q1 q2 => MEf_ag (h6 a k q1 q2) ha (hf 7 (by omega)) (hf 8 (by omega)), by rw [i 9 (by omega)]; exact h9⟩
/-- what lay may write -/
def PLy (q : Ro) : Prop := q.1 = 41 ∧ q.2.2 = 0 ∧ 10 ≤ q.2.1 ∧ q.2.1 < 26
theorem PLy_n {f : Nat} (h : f < 10 ∨ 26 ≤ f) : ¬ PLy (41, f, 0) := by
  rintro ⟨_, _, h1, h2⟩
  have h1 : 10 ≤ f := h1
  have h2 : f < 26 := h2
  omega
theorem PLy_y {f : Nat} (h1 : 10 ≤ f) (h2 : f < 26) : PLy (41, f, 0) := ⟨rfl, rfl, h1, h2⟩
theorem PLy_0 : ¬ PLy (40, 0, 0) := fun h => absurd h.1 (by decide)
/-- edges below C are linked, by E places -/
def MLk (ρ : Rs) (σ : Wd) (E C : Nat) : Prop := ∀ t, t < nS σ → ∃ L : List Nat, Ch ρ E L (iR ρ (41, 16, 0) t) ∧ L.Nodup ∧ ∀ c, c ∈ L ↔ (c < C ∧ eg σ c t)
theorem MLk_no {ρ : Rs} {σ : Wd} {E C C' : Nat} (h : MLk ρ σ E C) (hc : ∀ c t, eg σ c t → (c < C ↔ c < C')) : MLk ρ σ E C' := fun t ht => by
  obtain ⟨L, l1, l2, l3⟩ := h t ht
  refine ⟨L, l1, l2, fun c => (l3 c).trans ⟨fun ⟨x, y⟩ => ⟨(hc c t y).mp x, y⟩, fun ⟨x, y⟩ => ⟨(hc c t y).mpr x, y⟩⟩⟩
theorem MLk_in {ρ ρ' : Rs} {σ : Wd} {E C t : Nat} (h : MLk ρ σ E C) (hg : eg σ C t) (ht : t < nS σ) (e : ρ' = pI (pI (pI ρ (41, 17, 0) E (nI C)) (41, 18, 0) E (iR ρ (41, 16, 0) t)) (41, 16, 0) t (nI E)) : MLk ρ' σ (E + 1) (C + 1) := by
  have r16 : ∀ u, iR ρ' (41, 16, 0) u = if u = t then nI E else iR ρ (41, 16, 0) u := fun u => by rw [e, iR_pI, iR_pI, iR_pI]; simp
  have r17 : ∀ j, iR ρ' (41, 17, 0) j = if j = E then nI C else iR ρ (41, 17, 0) j := fun u => by rw [e, iR_pI, iR_pI, iR_pI]; simp
  have r18 : ∀ j, iR ρ' (41, 18, 0) j = if j = E then iR ρ (41, 16, 0) t else iR ρ (41, 18, 0) j := fun u => by rw [e, iR_pI, iR_pI, iR_pI]; simp
  intro u hu
  obtain ⟨L, l1, l2, l3⟩ := h u hu
  have l1' : Ch ρ' (E + 1) L (iR ρ (41, 16, 0) u) := Ch_of (by omega) (fun j hj => by rw [r17, if_neg (by omega)]) (fun j hj => by rw [r18, if_neg (by omega)]) l1
  by_cases eu : u = t
  · subst eu
    refine ⟨C :: L, ?_, ?_, fun c => ?_⟩
    · rw [r16, if_pos rfl]
      exact ⟨E, by omega, rfl, by rw [r17, if_pos rfl], by rw [r18, if_pos rfl]; exact l1'⟩
    · refine List.nodup_cons.mpr ⟨fun z => ?_, l2⟩
      have := ((l3 C).mp z).1
      omega
    · rw [List.mem_cons, l3 c]
      constructor
      · rintro (z | ⟨z1, z2⟩)
        · rw [z]; exact ⟨by omega, hg⟩
        · exact ⟨by omega, z2⟩
      · rintro ⟨z1, z2⟩
        by_cases ec : c = C
        · exact Or.inl ec
        · exact Or.inr ⟨by omega, z2⟩
  · refine ⟨L, by rw [r16, if_neg eu]; exact l1', l2, fun c => (l3 c).trans ⟨fun ⟨x, y⟩ => ⟨by omega, y⟩, fun ⟨x, y⟩ => ⟨?_, y⟩⟩⟩
    by_cases ec : c = C
    · subst ec; exact absurd (eg_uni y hg) eu
    · omega
section B56
variable {G : Gc} {ρ : Rs} {K : (Ro → Nat) → Option Value → Rs → Prop}
theorem c_Mo_lay (hG : gok G) {σ : Wd} (h : RMo ρ σ) (hW : Wok σ) (k : ∀ ad ρ', RMo ρ' σ → ML ρ' σ → Ag PMo ρ ρ' → K ad none ρ') : semV G r_Mo_lay [] (fun ad => [.ref (ad (40, 0, 0))]) ρ K := by
  obtain ⟨hB, hl, hp⟩ := h
  have hN := hW.2.2.1
  have h12 := hW.2.2.2.2.1
  have hO3 := hW.2.2.2.2.2.1
  refine semV_intro yk_Mo_lay.2.2.2.2 (fun _ => Nat.le_of_ble_eq_true rfl) (fun M Q ad0 hM => ?_)
  refine T_Mo_lay_0 hG hM ρ ⟨fun z0 ρ1 e1 => ?_, fun z0 ad => k ad ρ ⟨hB, hl, hp⟩ (hl z0) Ag_rf⟩
  have b1 : Ag (fun q => q = (40, 0, 0)) ρ ρ1 := by rw [e1]; exact Ag_pI rfl
  have hB1 : MB ρ1 σ := MB_ag hB b1 (fun j hj => by rw [e1, iR_pI, if_neg (fun z => by have := z.2; omega)]) (fun f _ => by simp)
  refine c_Mo_states hG hB1.1 (fun ad => ⟨_, rfl, fun ρ6 e6 => ?_⟩)
  have b6 : Ag (fun q => q = (40, 0, 0)) ρ ρ6 := Ag_tr b1 (by rw [e6]; exact Ag_pI rfl)
  have i6 : ∀ j, iR ρ6 (40, 0, 0) j = if j = 13 then nI (nS σ) else if j = 12 then 1 else iR ρ (40, 0, 0) j := fun j => by rw [e6, iR_pI, e1, iR_pI]; simp
  have hB6 : MB ρ6 σ := MB_ag hB b6 (fun j hj => by rw [i6, if_neg (by omega), if_neg (by omega)]) (fun f _ => by simp)
  have m6 : iR ρ6 (40, 0, 0) 13 = nI (nS σ) := by rw [i6]; simp
  have bq : ∀ {ρ2}, Ag PLy ρ6 ρ2 → MB ρ2 σ ∧ iR ρ2 (40, 0, 0) 13 = nI (nS σ) := fun h => ⟨MB_ag hB6 h (fun j _ => by rw [(h _ PLy_0).2.1]) (fun f hf => PLy_n (Or.inl hf)), by rw [(h _ PLy_0).2.1]; exact m6⟩
  -- the end: the four searches
  have fin : ∀ ρ2, Ag PLy ρ6 ρ2 → MR ρ2 σ → MK ρ2 σ → semV G r_Mo_forward [] (fun ad => [.ref (ad (40, 0, 0))]) ρ2 (fun ad u2 ρ1 => u2 = none ∧ (semV G r_Mo_backward [] (fun ad => [.ref (ad (40, 0, 0))]) ρ1 (fun ad u5 ρ4 => u5 = none ∧ (semV G r_Mo_surely [] (fun ad => [.ref (ad (40, 0, 0))]) ρ4 (fun ad u8 ρ7 => u8 = none ∧ (semV G r_Mo_fairly [] (fun ad => [.ref (ad (40, 0, 0))]) ρ7 (fun ad u11 ρ10 => u11 = none ∧ (∀ ad, K ad none ρ10)))))))) := by
    intro ρ2 a2 hR hK
    obtain ⟨⟨hT, h2, h3, h4, h5, h6, h9⟩, -⟩ := bq a2
    refine c_Mo_forward hG h2 h3 hR hW (fun ad ρ3 d x1 x2 x3 x4 => ⟨rfl, ?_⟩)
    have hR3 : MR ρ3 σ := MR_ag hR x4 (by simp) (by simp) (by simp)
    have hK3 : MK ρ3 σ := MK_ag hK x4 (by simp) (by simp) (by simp)
    refine c_Mo_backward hG hR3 hK3 hW (fun ad ρ4 d1 y1 y2 y3 y4 => ⟨rfl, ?_⟩)
    have hR4 : MR ρ4 σ := MR_ag hR3 y4 (by simp) (by simp) (by simp)
    have hK4 : MK ρ4 σ := MK_ag hK3 y4 (by simp) (by simp) (by simp)
    have h34 : iR ρ4 (40, 0, 0) 3 = nI (dA σ) := by rw [(y4 (40, 0, 0) (by simp)).2.1, (x4 (40, 0, 0) (by simp)).2.1]; exact h3
    have h44 : ∀ a, a < dA σ → iR ρ4 (41, 4, 0) a = nI (dO σ a) := by rw [(y4 (41, 4, 0) (by simp)).2.1, (x4 (41, 4, 0) (by simp)).2.1]; exact h4
    refine c_Mo_surely hG h34 h44 hR4 hK4 hW (fun ad ρ5 d2 w1 w2 w3 w4 => ⟨rfl, ?_⟩)
    have hR5 : MR ρ5 σ := MR_ag hR4 w4 (by simp [PS2]) (by simp [PS2]) (by simp [PS2])
    have hK5 : MK ρ5 σ := MK_ag hK4 w4 (by simp [PS2]) (by simp [PS2]) (by simp [PS2])
    refine c_Mo_fairly hG (by rw [(w4 (41, 4, 0) (by simp [PS2])).2.1]; exact h44) hR5 hK5 hW (fun ad ρ7 d3 v1 v2 v3 v4 => ⟨rfl, fun ad => ?_⟩)
    have hR7 : MR ρ7 σ := MR_ag hR5 v4 (by simp [PF3]) (by simp [PF3]) (by simp [PF3])
    have ml : ML ρ7 σ := by
      refine ⟨hR7.1, hR7.2.1, hR7.2.2, ⟨d, x1, x2, ?_⟩, fun w w1' w2' => ?_⟩
      · rw [(v4 (41, 19, 0) (by simp [PF3])).2.1, (w4 (41, 19, 0) (by simp [PS2])).2.1, (y4 (41, 19, 0) (by simp)).2.1]; exact x3
      · rcases (show w = 1 ∨ w = 2 ∨ w = 3 by omega) with e | e | e <;> subst e
        · refine ⟨d1, y1, y2, ?_⟩
          show ∀ s, s < nS σ → iR ρ7 (41, 20, 0) s = oI (d1 s)
          rw [(v4 (41, 20, 0) (by simp [PF3])).2.1, (w4 (41, 20, 0) (by simp [PS2])).2.1]; exact y3
        · refine ⟨d2, w1, w2, ?_⟩
          show ∀ s, s < nS σ → iR ρ7 (41, 21, 0) s = oI (d2 s)
          rw [(v4 (41, 21, 0) (by simp [PF3])).2.1]; exact w3
        · exact ⟨d3, v1, v2, v3⟩
    have a7 : Ag PLy ρ6 ρ7 := by
      refine Ag_tr a2 (Ag_tr (Ag_mono x4 ?_) (Ag_tr (Ag_mono y4 ?_) (Ag_tr (Ag_mono w4 ?_) (Ag_mono v4 ?_))))
      · rintro q (e | e) <;> rw [e] <;> exact PLy_y (by omega) (by omega)
      · rintro q (e | e) <;> rw [e] <;> exact PLy_y (by omega) (by omega)
      · rintro q (e | e | e) <;> rw [e] <;> exact PLy_y (by omega) (by omega)
      · rintro q (e | e | e) <;> rw [e] <;> exact PLy_y (by omega) (by omega)
    refine k ad ρ7 ⟨(bq a7).1, fun _ => ml, fun z => ?_⟩ ml (Ag_tr (Ag_mono b6 (fun q h => by rw [h]; unfold PMo; decide)) (Ag_mono a7 (fun q h => by unfold PMo; rw [h.1]; omega)))
    rw [(a7 _ PLy_0).2.1, i6] at z
    refine MP_of (hp (by simpa using z)) (by rw [(a7 _ PLy_0).2.1, i6]; simp) (by rw [(a7 _ (PLy_n (Or.inr (by omega)))).2.1, (b6 (41, 27, 0) (by simp)).2.1])
  -- the edges
  have k147 : ∀ (dd s E : Nat) (ρ2 : Rs), s + dd = nS σ → E ≤ 36 * s → Ag PLy ρ6 ρ2 → MR ρ2 σ → MLk ρ2 σ E (36 * s) → Y G [] ad0 M Q 147 (fun ad => [(0, .ref (ad (40, 0, 0))), (1, .int (nI E)), (2, .int (nI s))]) (fun ad => []) ρ2 := by
    intro dd
    induction dd with
    | zero =>
      intro s E ρ2 hdd hE a2 hR hk
      have es : s = nS σ := by omega
      subst es
      refine T_Mo_lay_147 hG hM _ _ ρ2 ⟨fun _ => fin ρ2 a2 hR (fun t ht => ?_), fun z => absurd (by rw [hR.1]; exact (nI_leI (by omega) (by omega)).mpr (Nat.le_refl _)) z⟩
      obtain ⟨L, l1, l2, l3⟩ := hk t ht
      refine ⟨L, Ch_of (by omega) (fun _ _ => rfl) (fun _ _ => rfl) l1, l2, fun c => (l3 c).trans ⟨fun x => x.2, fun x => ⟨?_, x⟩⟩⟩
      have := x.1
      omega
    | succ dd ih =>
      intro s E ρ2 hdd hE a2 hR hk
      have hs : s < nS σ := by omega
      refine T_Mo_lay_147 hG hM _ _ ρ2 ⟨fun z => absurd (by rw [hR.1] at z; exact (nI_leI (by omega) (by omega)).mp z) (by omega), fun _ => ?_⟩
      have k157 : ∀ (dx x E : Nat) (ρ3 : Rs), x + dx = 3 * dA σ → E ≤ 36 * s + x → Ag PLy ρ6 ρ3 → MR ρ3 σ → MLk ρ3 σ E (36 * s + x) → Y G [] ad0 M Q 157 (fun ad => [(0, .ref (ad (40, 0, 0))), (1, .int (nI E)), (2, .int (nI s)), (3, .int (nI x))]) (fun ad => []) ρ3 := by
        intro dx
        induction dx with
        | zero =>
          intro x E ρ3 hdx hE3 a3 hR3 hk3
          have h3 := (bq a3).1.2.2.1
          refine T_Mo_lay_157 hG hM _ _ _ ρ3 ⟨fun _ => ?_, fun z => absurd (by rw [h3, mul3]; exact (nI_leI (by omega) (by omega)).mpr (by omega)) z⟩
          rw [nI_1 s]
          refine ih (s + 1) E ρ3 (by omega) (by omega) a3 hR3 (MLk_no hk3 (fun c t hc => ?_))
          have := hc.2.1
          omega
        | succ dx ih2 =>
          intro x E ρ3 hdx hE3 a3 hR3 hk3
          have h3 := (bq a3).1.2.2.1
          have hx : x < 3 * dA σ := by omega
          refine T_Mo_lay_157 hG hM _ _ _ ρ3 ⟨fun z => absurd (by rw [h3, mul3] at z; exact (nI_leI (by omega) (by omega)).mp z) (by omega), fun _ => ?_⟩
          rw [mul36, nI_clamp (n := 36 * s + x) (by omega), hR3.2.1 s x hs hx, nI_1 x, nI_1 E]
          refine ⟨vp_in_nI (by omega) (by omega), ?_⟩
          have d1 : (36 * s + x) / 36 = s := by omega
          have d2 : (36 * s + x) % 36 = x := by omega
          cases hxt : nxX σ s x with
          | none =>
            refine ⟨fun _ => ih2 (x + 1) E ρ3 (by omega) (by omega) a3 hR3 (MLk_no hk3 (fun c t hc => ?_)), fun z => absurd rfl z⟩
            have : c ≠ 36 * s + x := fun z => by
              have := hc.2.2
              rw [z, d1, d2, hxt] at this; cases this
            omega
          | some t =>
            have htN := nxX_lt hW hx hxt
            refine ⟨fun z => absurd z (nI_m1 (by omega)), fun _ => ?_⟩
            show vp_in (nI E) 147456 ∧ ∀ ρ4 : Rs, ρ4 = pI ρ3 (41, 17, 0) (Int32.toNatClampNeg (nI E)) (nI (36 * s + x)) → vp_in (nI t) 4096 ∧ vp_in (nI E) 147456 ∧ ∀ ρ5 : Rs, ρ5 = pI ρ4 (41, 18, 0) (Int32.toNatClampNeg (nI E)) (iR ρ4 (41, 16, 0) (Int32.toNatClampNeg (nI t))) → vp_in (nI t) 4096 ∧ ∀ ρ6 : Rs, ρ6 = pI ρ5 (41, 16, 0) (Int32.toNatClampNeg (nI t)) (nI E) → _
            rw [nI_clamp (n := E) (by omega), nI_clamp (n := t) (by omega)]
            refine ⟨vp_in_nI (by omega) (by omega), fun ρ4 e4 => ⟨vp_in_nI (by omega) (by omega), vp_in_nI (by omega) (by omega), fun ρ5 e5 => ⟨vp_in_nI (by omega) (by omega), fun ρ7 e7 => ?_⟩⟩⟩
            have r4 : iR ρ4 (41, 16, 0) t = iR ρ3 (41, 16, 0) t := by rw [e4, iR_pI, if_neg (by simp)]
            rw [r4] at e5
            have e7 : ρ7 = pI (pI (pI ρ3 (41, 17, 0) E (nI (36 * s + x))) (41, 18, 0) E (iR ρ3 (41, 16, 0) t)) (41, 16, 0) t (nI E) := by rw [e7, e5, e4]
            have c7 : Ag (fun q => q = (41, 16, 0) ∨ q = (41, 17, 0) ∨ q = (41, 18, 0)) ρ3 ρ7 := by rw [e7]; exact Ag_tr (Ag_pI (Or.inr (Or.inl rfl))) (Ag_tr (Ag_pI (Or.inr (Or.inr rfl))) (Ag_pI (Or.inl rfl)))
            have a7 : Ag PLy ρ6 ρ7 := Ag_tr a3 (Ag_mono c7 (by rintro q (e | e | e) <;> rw [e] <;> exact PLy_y (by omega) (by omega)))
            have hg : eg σ (36 * s + x) t := ⟨by omega, by omega, by rw [d1, d2]; exact hxt⟩
            exact ih2 (x + 1) (E + 1) ρ7 (by omega) (by omega) a7 (MR_ag hR3 c7 (by simp) (by simp) (by simp)) (MLk_in hk3 hg htN e7)
      exact k157 (3 * dA σ) 0 E ρ2 (by omega) (by omega) a2 hR hk
  -- where acts lead
  have k23 : ∀ (dd s : Nat) (ρ2 : Rs), s + dd = nS σ → Ag PLy ρ6 ρ2 → (∀ c, c < 36 * s → c % 36 < 3 * dA σ → iR ρ2 (41, 14, 0) c = oI (nxX σ (c / 36) (c % 36))) → (∀ u, u < s → iR ρ2 (41, 15, 0) u = bI (aimW σ u) ∧ iR ρ2 (41, 16, 0) u = -1) → Y G [] ad0 M Q 23 (fun ad => [(0, .ref (ad (40, 0, 0))), (1, .int (nI s))]) (fun ad => []) ρ2 := by
    intro dd
    induction dd with
    | zero =>
      intro s ρ2 hdd a2 h14 h15
      have es : s = nS σ := by omega
      subst es
      refine T_Mo_lay_23 hG hM _ ρ2 ⟨fun _ => ?_, fun z => absurd (by rw [(bq a2).2]; exact (nI_leI (by omega) (by omega)).mpr (Nat.le_refl _)) z⟩
      refine k147 (nS σ) 0 0 ρ2 (by omega) (by omega) a2 ⟨(bq a2).2, fun u x hu hx => ?_, fun u hu => (h15 u hu).1⟩ (fun t ht => ⟨[], (h15 t ht).2, List.nodup_nil, fun c => ⟨fun z => (by cases z), fun z => absurd z.1 (by omega)⟩⟩)
      have d1 : (36 * u + x) / 36 = u := by omega
      have d2 : (36 * u + x) % 36 = x := by omega
      have := h14 (36 * u + x) (by omega) (by omega)
      rw [d1, d2] at this
      exact this
    | succ dd ih =>
      intro s ρ2 hdd a2 h14 h15
      have hs : s < nS σ := by omega
      refine T_Mo_lay_23 hG hM _ ρ2 ⟨fun z => absurd (by rw [(bq a2).2] at z; exact (nI_leI (by omega) (by omega)).mp z) (by omega), fun _ => ?_⟩
      refine c_Mo_open hG (bq a2).1.1 (by omega) (fun ad ρ3 o1 o2 => ⟨rfl, ?_⟩)
      have a3 : Ag PLy ρ6 ρ3 := Ag_tr a2 (Ag_mono o2 (fun q e => by rw [e]; exact PLy_y (by omega) (by omega)))
      have hB3 := (bq a3).1
      refine c_Mo_hold (x := 12) (s := s) (L := dC σ 12) hG hB3.1 (by omega) (hB3.2.2.2.2.1 12 (Or.inr (Or.inl rfl))) (hW.2.2.2.2.2.2.2.1 12 (Or.inr (Or.inl rfl))).2 o1 (fun ad => ⟨_, rfl, vp_in_nI (by omega) (by omega), ?_, ?_⟩)
      · show nb (bI (aimW σ s)); exact bI_nb _
      rw [nI_clamp (n := s) (by omega)]
      intro ρ8 e8
      refine ⟨vp_in_nI (by omega) (by omega), fun ρ9 e9 => ?_⟩
      have e8 : ρ8 = pI ρ3 (41, 15, 0) s (bI (aimW σ s)) := e8
      have c9 : Ag (fun q => q = (41, 15, 0) ∨ q = (41, 16, 0)) ρ3 ρ9 := by rw [e9, e8]; exact Ag_tr (Ag_pI (Or.inl rfl)) (Ag_pI (Or.inr rfl))
      have a9 : Ag PLy ρ6 ρ9 := Ag_tr a3 (Ag_mono c9 (by rintro q (e | e) <;> rw [e] <;> exact PLy_y (by omega) (by omega)))
      have k57 : ∀ (da a : Nat) (ρ4 : Rs), a + da = dA σ → Ag PLy ρ6 ρ4 → (∀ t, t < dT σ → iR ρ4 (41, 10, 0) t = nI (vl σ s t)) → (∀ c, c < 36 * s + 3 * a → c % 36 < 3 * dA σ → iR ρ4 (41, 14, 0) c = oI (nxX σ (c / 36) (c % 36))) → (∀ u, u < s + 1 → iR ρ4 (41, 15, 0) u = bI (aimW σ u) ∧ iR ρ4 (41, 16, 0) u = -1) → Y G [] ad0 M Q 57 (fun ad => [(0, .ref (ad (40, 0, 0))), (1, .int (nI s)), (2, .int (nI a))]) (fun ad => []) ρ4 := by
        intro da
        induction da with
        | zero =>
          intro a ρ4 hda a4 v10 v14 v15
          have h3 := (bq a4).1.2.2.1
          refine T_Mo_lay_57 hG hM _ _ ρ4 ⟨fun _ => ?_, fun z => absurd (by rw [h3]; exact (nI_leI (by omega) (by omega)).mpr (by omega)) z⟩
          rw [nI_1 s]
          exact ih (s + 1) ρ4 (by omega) a4 (fun c hc hc2 => v14 c (by omega) hc2) v15
        | succ da ih2 =>
          intro a ρ4 hda a4 v10 v14 v15
          have hB4 := (bq a4).1
          have h3 := hB4.2.2.1
          have ha : a < dA σ := by omega
          have ho := hO3 a ha
          refine T_Mo_lay_57 hG hM _ _ ρ4 ⟨fun z => absurd (by rw [h3] at z; exact (nI_leI (by omega) (by omega)).mp z) (by omega), fun _ => ?_⟩
          refine c_Mo_hold (x := a) (s := s) (L := dC σ a) hG hB4.1 (by omega) (hB4.2.2.2.2.1 a (Or.inl ha)) (hW.2.2.2.2.2.2.2.1 a (Or.inl ha)).2 v10 (fun ad => ⟨_, rfl, ?_⟩)
          have k74 : ∀ (dk kk : Nat) (ρ5 : Rs), kk + dk = 3 → Ag PLy ρ6 ρ5 → (∀ t, t < dT σ → iR ρ5 (41, 10, 0) t = nI (vl σ s t)) → (∀ c, c < 36 * s + (3 * a + kk) → c % 36 < 3 * dA σ → iR ρ5 (41, 14, 0) c = oI (nxX σ (c / 36) (c % 36))) → (∀ u, u < s + 1 → iR ρ5 (41, 15, 0) u = bI (aimW σ u) ∧ iR ρ5 (41, 16, 0) u = -1) → Y G [] ad0 M Q 74 (fun ad => [(0, .ref (ad (40, 0, 0))), (1, .int (nI s)), (2, .int (nI a)), (3, .int (if holdW σ (dC σ a) s = true then 1 else 0)), (4, .int (nI kk))]) (fun ad => []) ρ5 := by
            intro dk
            induction dk with
            | zero =>
              intro kk ρ5 hdk a5 w10 w14 w15
              have ek : kk = 3 := by omega
              subst ek
              refine T_Mo_lay_74 hG hM _ _ _ _ ρ5 ⟨fun _ => ?_, fun z => absurd (by decide) z⟩
              rw [nI_1 a]
              exact ih2 (a + 1) ρ5 (by omega) a5 w10 (fun c hc hc2 => w14 c (by omega) hc2) w15
            | succ dk ih3 =>
              intro kk ρ5 hdk a5 w10 w14 w15
              have hB5 := (bq a5).1
              have d1 : (36 * s + (3 * a + kk)) / 36 = s := by omega
              have d2 : (36 * s + (3 * a + kk)) % 36 = 3 * a + kk := by omega
              have d3 : (3 * a + kk) / 3 = a := by omega
              have d4 : (3 * a + kk) % 3 = kk := by omega
              have le3 : ((3 : Int32) ≤ nI kk) ↔ 3 ≤ kk := nI_leI (a := 3) (by decide) (by omega)
              -- one number more
              have nxt : ∀ (ρ7 ρ8 : Rs), Ag (fun q => q = (41, 11, 0)) ρ5 ρ7 → ρ8 = pI ρ7 (41, 14, 0) (36 * s + (3 * a + kk)) (oI (nxX σ s (3 * a + kk))) → Y G [] ad0 M Q 74 (fun ad => [(0, .ref (ad (40, 0, 0))), (1, .int (nI s)), (2, .int (nI a)), (3, .int (if holdW σ (dC σ a) s = true then 1 else 0)), (4, .int (nI (kk + 1)))]) (fun ad => []) ρ8 := by
                intro ρ7 ρ8 b7 e8
                have b8 : Ag (fun q => q = (41, 11, 0) ∨ q = (41, 14, 0)) ρ5 ρ8 := Ag_tr (Ag_mono b7 (fun q h => Or.inl h)) (by rw [e8]; exact Ag_pI (Or.inr rfl))
                refine ih3 (kk + 1) ρ8 (by omega) (Ag_tr a5 (Ag_mono b8 (by rintro q (e | e) <;> rw [e] <;> exact PLy_y (by omega) (by omega)))) (by rw [(b8 (41, 10, 0) (by simp)).2.1]; exact w10) (fun c hc hc2 => ?_) (by rw [(b8 (41, 15, 0) (by simp)).2.1, (b8 (41, 16, 0) (by simp)).2.1]; exact w15)
                rw [e8, iR_pI]
                by_cases ec : c = 36 * s + (3 * a + kk)
                · rw [if_pos ⟨rfl, ec⟩, ec, d1, d2]
                · rw [if_neg (fun z => ec z.2), (b7 (41, 14, 0) (by simp)).2.1]
                  exact w14 c (by omega) hc2
              refine T_Mo_lay_74 hG hM _ _ _ _ ρ5 ⟨fun z => absurd (le3.mp z) (by omega), fun _ => ?_⟩
              rw [mul363, nI_clamp (n := 36 * s + (3 * a + kk)) (by omega), nI_clamp (n := a) (by omega), hB5.2.2.2.1 a ha, nI_1 kk, mul3, nI_ad]
              have inn : vp_in (nI (36 * s + (3 * a + kk))) 147456 := vp_in_nI (by omega) (by omega)
              have lek : (nI (dO σ a) ≤ nI kk) ↔ dO σ a ≤ kk := nI_leI (by omega) (by omega)
              rw [lek]
              have nx0 : nxX σ s (3 * a + kk) = if kk < dO σ a then nxW σ s a kk else none := by unfold nxX; rw [d3, d4]
              refine ⟨fun z => ⟨inn, fun ρ7 e7 => ?_⟩, fun z => ⟨vp_in_nI (by omega) (by omega), fun y => ⟨inn, fun ρ7 e7 => ?_⟩, fun y => ?_⟩⟩
              · refine nxt ρ5 ρ7 Ag_rf ?_
                have hh : ¬ holdW σ (dC σ a) s = true := fun x => by rw [if_pos x] at z; exact absurd z (by decide)
                have : nxX σ s (3 * a + kk) = none := by
                  rw [nx0]
                  split
                  · unfold nxW; rw [if_neg hh]
                  · rfl
                rw [this]; exact e7
              · refine nxt ρ5 ρ7 Ag_rf ?_
                have : nxX σ s (3 * a + kk) = none := by rw [nx0, if_neg (by omega)]
                rw [this]; exact e7
              · have hh : holdW σ (dC σ a) s = true := Classical.byContradiction (fun x => z (by rw [if_neg x]))
                have hkk : kk < dO σ a := by omega
                refine c_Mo_goes (s := s) hG hB5.1 (by omega) (hB5.2.2.2.2.2.1 a kk ha hkk) (hW.2.2.2.2.2.2.2.2 a kk ha hkk).2 w10 (fun ad ρ7 b7 => ⟨_, rfl, inn, fun ρ8 e8 => nxt ρ7 ρ8 b7 ?_⟩)
                have : nxX σ s (3 * a + kk) = some (goW σ (dE σ a kk) s) := by
                  rw [nx0, if_pos hkk]
                  unfold nxW; rw [if_pos hh]
                rw [this]; exact e8
          exact k74 3 0 ρ4 (by omega) a4 v10 (fun c hc hc2 => v14 c (by omega) hc2) v15
      refine k57 (dA σ) 0 ρ9 (by omega) a9 (by rw [(c9 (41, 10, 0) (by simp)).2.1]; exact o1) (fun c hc hc2 => ?_) (fun u hu => ?_)
      · rw [(c9 (41, 14, 0) (by simp)).2.1, (o2 (41, 14, 0) (by simp)).2.1]
        exact h14 c (by omega) hc2
      · have r15 : iR ρ9 (41, 15, 0) u = if u = s then bI (aimW σ s) else iR ρ2 (41, 15, 0) u := by rw [e9, iR_pI, if_neg (by simp), e8, iR_pI, (o2 (41, 15, 0) (by simp)).2.1]; simp
        have r16 : iR ρ9 (41, 16, 0) u = if u = s then -1 else iR ρ2 (41, 16, 0) u := by rw [e9, iR_pI, e8, iR_pI, (o2 (41, 16, 0) (by simp)).2.1]; simp
        rw [r15, r16]
        by_cases e1 : u = s
        · rw [if_pos e1, if_pos e1, e1]; exact ⟨rfl, rfl⟩
        · rw [if_neg e1, if_neg e1]; exact h15 u (by omega)
  exact k23 (nS σ) 0 ρ6 (by omega) Ag_rf (fun c hc => absurd hc (by omega)) (fun u hu => absurd hu (by omega))
end B56
