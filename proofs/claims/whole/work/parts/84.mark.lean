/-! KINDS: marking what leads to a state -/
theorem sh1 : ∀ a, a < 13 → (1 : Int32) <<< (nI a &&& 31) = nI (2 ^ a) := by decide
def MKs (ρ : Rs) (σ : Wd) (m wc : Nat) (od pl kd fr un cc cm wt : Nat → Nat) : Prop := KRw ρ (nS σ) m wc od pl kd fr un cc cm wt ∧ PT (nS σ) m od pl kd fr un ∧ PK m od fr un cc cm (dA σ = 0) ∧ PQ m cc wt wc ∧ ∀ s, s < nS σ → cm s < 2 ^ dA σ
/-- what marking keeps and adds -/
def MKx (σ : Wd) (fr un cm cm' wt wt' : Nat → Nat) (wc wc' : Nat) : Prop := wc ≤ wc' ∧ (∀ j, j < wc → wt' j = wt j) ∧ (∀ j, wc ≤ j → j < wc' → fr (wt' j) + 1 < un (wt' j)) ∧ ∀ s a, s < nS σ → (cm s).testBit a = true → (cm' s).testBit a = true
theorem MKx_rf {σ : Wd} {fr un cm wt : Nat → Nat} {wc : Nat} : MKx σ fr un cm cm wt wt wc wc := ⟨Nat.le_refl _, fun _ _ => rfl, fun j h1 h2 => absurd h2 (by omega), fun _ _ _ h => h⟩
theorem MKx_tr {σ : Wd} {fr un cm cm1 cm2 wt wt1 wt2 : Nat → Nat} {wc wc1 wc2 : Nat} (h : MKx σ fr un cm cm1 wt wt1 wc wc1) (h' : MKx σ fr un cm1 cm2 wt1 wt2 wc1 wc2) : MKx σ fr un cm cm2 wt wt2 wc wc2 := by
  obtain ⟨a1, a2, a3, a4⟩ := h
  obtain ⟨b1, b2, b3, b4⟩ := h'
  refine ⟨by omega, fun j hj => by rw [b2 j (by omega), a2 j hj], fun j h1 h2 => ?_, fun s a hs h => b4 s a hs (a4 s a hs h)⟩
  by_cases e : j < wc1
  · rw [b2 j e]; exact a3 j h1 e
  · exact b3 j (by omega) h2
section B30
variable {G : Gc} {ρ : Rs} {K : (Ro → Nat) → Option Value → Rs → Prop}
theorem c_mark (hG : gok G) {σ : Wd} {m wc x : Nat} {od pl kd fr un cc cm wt : Nat → Nat} (hR : RWr ρ σ) (hL : KLn (nR ρ) (nS σ)) (hK : MKs ρ σ m wc od pl kd fr un cc cm wt) (hx : x < nS σ)
    (k : ∀ ad ρ' wc' (od' pl' cc' cm' wt' : Nat → Nat), MKs ρ' σ m wc' od' pl' kd fr un cc' cm' wt' → MKx σ fr un cm cm' wt wt' wc wc' → (∀ s a kk, s < nS σ → a < dA σ → kk < dO σ a → nxW σ s a kk = some x → (cm' s).testBit a = true ∨ un (kd s) ≤ fr (kd s) + 1) → Ag PMk ρ ρ' → nR ρ' = nR ρ → K ad none ρ') :
    semV G r_Ki_markThoseBefore [] (fun ad => [.ref (ad (7, 0, 0)), .ref (ad (1, 0, 0)), .int (nI x)]) ρ K := by
  have h12 := hR.2.1
  have h4 := hR.1.2.2.2.1
  have hmN := PT_m hK.2.1
  have hL0 := hL
  obtain ⟨l1, -⟩ := hL
  have l2 := l1 2 (by omega); have l6 := l1 6 (by omega); have l7 := l1 7 (by omega); have l9 := l1 9 (by omega)
  have hRw : ∀ {ρ1 : Rs}, Ag PMk ρ ρ1 → RWr ρ1 σ := fun hag => RWr_ag hR (Ag_mono hag (fun _ h => PKi_nW (PMk_Ki h)))
  obtain ⟨ch, hch⟩ := hR.2.2.2.2.2.2
  obtain ⟨c1, c2, c3⟩ := hch x hx
  have cl := ed_len h12 (fun a ha => (hR.2.2.2.1 a ha).2.2.1) c3 (fun E hE => ((c2 E).mp hE).1)
  refine semV_intro yk_Ki_markThoseBefore.2.2.2.2 (fun _ => Nat.le_of_ble_eq_true rfl) (fun M Q ad0 hM => ?_)
  have key : ∀ (l : List Nat) (v3 : Int32) (c : Nat) ρ1 wc1 (od1 pl1 cc1 cm1 wt1 : Nat → Nat), c + l.length = (ch x).length → (∀ E, E ∈ l → E ∈ ch x) → Lk ρ1 l v3 → Ag PMk ρ ρ1 → nR ρ1 = nR ρ → MKs ρ1 σ m wc1 od1 pl1 kd fr un cc1 cm1 wt1 → MKx σ fr un cm cm1 wt wt1 wc wc1 → (∀ E, E ∈ ch x → E ∉ l → (cm1 (E % 4096)).testBit (E / 16384) = true ∨ un (kd (E % 4096)) ≤ fr (kd (E % 4096)) + 1) → Y G [] ad0 M Q 10 (fun ad => [(0, .ref (ad (7, 0, 0))), (1, .ref (ad (1, 0, 0))), (3, .int v3), (4, .int (nI c))]) (fun ad => []) ρ1 := by
    intro l
    induction l with
    | nil =>
      intro v3 c ρ1 wc1 od1 pl1 cc1 cm1 wt1 hc hl hlk hag hnr hK1 hX1 hcl
      have done : ∀ ad, K ad none ρ1 := by
        intro ad
        refine k ad ρ1 wc1 od1 pl1 cc1 cm1 wt1 hK1 hX1 (fun s a kk hs ha hkk hnx => ?_) hag hnr
        have hO := hR.2.2.2.1 a ha
        have hOx := hO.2.1
        have hOy := hO.2.2.1
        have q1 := ed_a (a := a) (k := kk) (s := s) (by omega) (by omega)
        have q2 := ed_k (a := a) (k := kk) (s := s) (by omega) (by omega)
        have q3 := ed_s (a := a) (k := kk) (s := s) (by omega) (by omega)
        have := hcl (a * 16384 + kk * 4096 + s) ((c2 _).mpr ⟨⟨by rw [q1]; exact ha, by rw [q1, q2]; exact hkk, by rw [q3]; exact hs⟩, by omega, by unfold nxE; rw [q1, q2, q3]; exact hnx⟩) List.not_mem_nil
        rw [q1, q3] at this
        exact this
      have hlk : v3 = -1 := hlk
      exact T_Ki_markThoseBefore_10 hG hM _ _ ρ1 ⟨fun _ => done, fun _ => ⟨fun _ => done, fun z => absurd hlk z⟩⟩
    | cons E l ihl =>
      intro v3 c ρ1 wc1 od1 pl1 cc1 cm1 wt1 hc hl hlk hag hnr hK1 hX1 hcl
      have hc : c + (l.length + 1) = (ch x).length := hc
      obtain ⟨hv3, hlk2⟩ := hlk
      obtain ⟨hvE, hEc, hnE⟩ := (c2 E).mp (hl E List.mem_cons_self)
      obtain ⟨v1, v2, v3'⟩ := hvE
      have hR1 := hRw hag
      have hO := hR1.2.2.2.1 _ v1
      have hOx := hO.2.1
      have hOy := hO.2.2.1
      have hE31 : E < 2 ^ 31 := by omega
      have hE0 : ¬ nI E = -1 := fun z => by have := (oI_m1 (o := some E) (fun m hm => by cases hm; exact hE31)).mp z; cases this
      obtain ⟨hW1, hP1, hC1, hQ1, hb1⟩ := hK1
      have hK1 : MKs ρ1 σ m wc1 od1 pl1 kd fr un cc1 cm1 wt1 := ⟨hW1, hP1, hC1, hQ1, hb1⟩
      obtain ⟨r4, r5, r2, r6, r7, r8, r9, r10, q0, q11⟩ := hW1
      have hW1 := hK1.1
      obtain ⟨s, es⟩ : ∃ s, s = E % 4096 := ⟨_, rfl⟩
      have hs : s < nS σ := by rw [es]; exact v3'
      obtain ⟨hb, hbf, hbu⟩ := hP1.2.2.2.1 s hs
      have hun := (hP1.2.2.1 _ hb)
      have nz : ¬ (dA σ = 0) := by omega
      have hcms := hb1 s hs
      have hp12 : 2 ^ dA σ ≤ 2 ^ 12 := Nat.pow_le_pow_right (by omega) h12
      have hcms2 : cm1 s < 4096 := by omega
      -- on to the next edge
      have go : ∀ ρ3 wc3 (od3 pl3 cc3 cm3 wt3 : Nat → Nat), Lk ρ3 l (iR ρ3 (24, E / 16384, E / 4096 % 4) (E % 4096)) → Ag PMk ρ ρ3 → nR ρ3 = nR ρ → MKs ρ3 σ m wc3 od3 pl3 kd fr un cc3 cm3 wt3 → MKx σ fr un cm cm3 wt wt3 wc wc3 → (∀ E', E' ∈ ch x → E' ∉ l → (cm3 (E' % 4096)).testBit (E' / 16384) = true ∨ un (kd (E' % 4096)) ≤ fr (kd (E' % 4096)) + 1) → semV G r_Wo_nextInto [] (fun ad => [.ref (ad (1, 0, 0)), .int (nI E)]) ρ3 (fun ad u8 ρ7 => ∃ x10 : Int32, u8 = some (.int x10) ∧ (Y G [] ad0 M Q 10 (fun ad => [(0, .ref (ad (7, 0, 0))), (1, .ref (ad (1, 0, 0))), (3, .int x10), (4, .int (nI c + 1))]) (fun ad => []) ρ7)) := by
        intro ρ3 wc3 od3 pl3 cc3 cm3 wt3 k1 k2 k3 k4 k5 k6
        have hR3 := hRw k2
        refine c_nextInto hG (by omega) (by omega) (Nat.lt_of_lt_of_le v3' (hR3.2.2.2.2.2.1 _ v1 _ v2).2.1) (fun ad => ⟨_, rfl, ?_⟩)
        rw [nI_1]
        exact ihl _ (c + 1) ρ3 wc3 od3 pl3 cc3 cm3 wt3 (by omega) (fun E' hE' => hl E' (List.mem_cons_of_mem _ hE')) k1 k2 k3 k4 k5 k6
      -- the mark itself
      have k74 : ¬ un (kd s) ≤ fr (kd s) + 1 → ∀ ρ2 wc2 (od2 pl2 cc2 wt2 : Nat → Nat), Ag PMk ρ1 ρ2 → nR ρ2 = nR ρ → KRw ρ2 (nS σ) m wc2 od2 pl2 kd fr un cc2 cm1 wt2 → PT (nS σ) m od2 pl2 kd fr un → PK m od2 fr un cc2 (va_up cm1 s (cm1 s ||| 2 ^ (E / 16384))) (dA σ = 0) → PQ m cc2 wt2 wc2 → (wc1 ≤ wc2 ∧ (∀ j, j < wc1 → wt2 j = wt1 j) ∧ ∀ j, wc1 ≤ j → j < wc2 → fr (wt2 j) + 1 < un (wt2 j)) → Y G [] ad0 M Q 74 (fun ad => [(0, .ref (ad (7, 0, 0))), (1, .ref (ad (1, 0, 0))), (3, .int (nI E)), (4, .int (nI c)), (5, .int (nI s))]) (fun ad => []) ρ2 := by
        intro hns ρ2 wc2 od2 pl2 cc2 wt2 hag2 hnr2 hW2 hP2 hC2 hQ2 hx2
        obtain ⟨t4, t5, t2, t6, t7, t8, t9, t10, u0, u11⟩ := hW2
        refine T_Ki_markThoseBefore_74 hG hM _ _ _ ρ2 ⟨in_nI (by rw [hnr2]; omega) (by omega), ?_⟩
        rw [nI_clamp (n := s) (by omega), t9 s hs]
        refine c_actOf hG hE31 (fun ad => ⟨_, rfl, in_nI (by rw [hnr2]; omega) (by omega), ?_⟩)
        rw [sh1 _ (by omega), nI_or]
        intro ρ6 e6
        have a6 : Ag PMk ρ1 ρ6 := Ag_tr hag2 (by rw [e6]; exact Ag_pI (Or.inr (Or.inr (Or.inr (Or.inr (Or.inl rfl))))))
        have lk6 : Lk ρ6 l (iR ρ6 (24, E / 16384, E / 4096 % 4) (E % 4096)) := by
          rw [(a6 (24, E / 16384, E / 4096 % 4) (by simp [PMk])).2.1]
          exact Lk_ag a6 (fun a kk => by simp [PMk]) hlk2
        refine go ρ6 wc2 od2 pl2 cc2 (va_up cm1 s (cm1 s ||| 2 ^ (E / 16384))) wt2 lk6 (Ag_tr hag a6) (by rw [e6]; exact hnr2) ⟨⟨?_, ?_, ?_, ?_, ?_, ?_, ?_, ?_, ?_, ?_⟩, hP2, hC2, hQ2, fun u hu => ?_⟩ (MKx_tr hX1 ⟨hx2.1, hx2.2.1, hx2.2.2, fun u a hu h => ?_⟩) (fun E' hE' hn' => ?_)
        · rw [e6]; exact Hv_o (by decide) t4
        · rw [e6]; exact Hv_o (by decide) t5
        · rw [e6]; exact Hv_o (by decide) t2
        · rw [e6]; exact Hv_o (by decide) t6
        · rw [e6]; exact Hv_o (by decide) t7
        · rw [e6]; exact Hv_o (by decide) t8
        · rw [e6]; exact Hv_s t9
        · rw [e6]; exact Hv_o (by decide) t10
        · rw [e6, iR_pI, if_neg (by simp)]; exact u0
        · rw [e6, iR_pI, if_neg (by simp)]; exact u11
        · by_cases e : u = s
          · rw [e, ups]
            exact Nat.or_lt_two_pow hcms (Nat.pow_lt_pow_right (by omega) v1)
          · rw [upn e]; exact hb1 u hu
        · by_cases e : u = s
          · rw [e, ups, Nat.testBit_or]
            rw [e] at h
            rw [h]; rfl
          · rw [upn e]; exact h
        · by_cases e : E' = E
          · left
            rw [e, ← es, ups, Nat.testBit_or, Nat.testBit_two_pow_self]
            exact Bool.or_true _
          · rcases hcl E' hE' (fun y => by rcases List.mem_cons.mp y with y | y; exact e y; exact hn' y) with h | h
            · left
              by_cases e2 : E' % 4096 = s
              · rw [e2, ups, Nat.testBit_or]
                rw [e2] at h
                rw [h]; rfl
              · rw [upn e2]; exact h
            · exact Or.inr h
      have bne : ∀ y : Nat, y ||| 2 ^ (E / 16384) ≠ 0 := by
        intro y h
        have : (y ||| 2 ^ (E / 16384)).testBit (E / 16384) = true := by rw [Nat.testBit_or, Nat.testBit_two_pow_self]; exact Bool.or_true _
        rw [h, Nat.zero_testBit] at this
        cases this
      subst hv3
      refine T_Ki_markThoseBefore_10 hG hM _ _ ρ1 ⟨fun z => absurd ((nI_leI (a := 147456) (by decide) (by omega)).mp z) (by omega), fun _ => ⟨fun z => absurd z hE0, fun _ => ?_⟩⟩
      refine c_stateOf hG hE31 (fun ad => ⟨_, rfl, ?_⟩)
      rw [← es, nI_clamp (n := s) (by omega), r2 s hs, nI_clamp (n := kd s) (by omega), r6 _ hb, r7 _ hb, r9 s hs, nI_sb (by omega)]
      refine ⟨in_nI (by rw [hnr]; omega) (by omega), in_nI (by rw [hnr]; omega) (by omega), in_nI (by rw [hnr]; omega) (by omega), fun z => ?_, fun z => ⟨in_nI (by rw [hnr]; omega) (by omega), fun y => ?_, fun y => ?_⟩⟩
      · have z := (nI_leI (b := 1) (by omega) (by decide)).mp z
        refine go ρ1 wc1 od1 pl1 cc1 cm1 wt1 hlk2 hag hnr hK1 hX1 (fun E' hE' hn' => ?_)
        by_cases e : E' = E
        · right
          rw [e, ← es]; omega
        · exact hcl E' hE' (fun y => by rcases List.mem_cons.mp y with y | y; exact e y; exact hn' y)
      · have z : ¬ un (kd s) ≤ fr (kd s) + 1 := fun x => z ((nI_leI (b := 1) (by omega) (by decide)).mpr (by omega))
        have y : cm1 s = 0 := (nI_eq (b := 0) (by omega) (by decide)).mp y
        refine c_move hG (by rw [hnr]; exact hL0) h4 hW1 hP1 hC1 nz hQ1 hs y (fun ad ρ2 g1 g2 g3 => ⟨rfl, ?_⟩)
        obtain ⟨p1, p2, p3⟩ := PK_move (x := cm1 s ||| 2 ^ (E / 16384)) hP1 hC1 nz hs y (bne _)
        refine k74 z ρ2 _ _ _ _ _ g2 (by rw [g3]; exact hnr) g1 (PT_swap hP1 hs (by omega) p2) p3 (PQ_up hQ1 hb) ?_
        by_cases hcc : cc1 (kd s) = 0
        · rw [if_pos hcc, if_pos hcc]
          refine ⟨by omega, fun j hj => upn (by omega), fun j h1 h2 => ?_⟩
          rw [show j = wc1 by omega, ups]; omega
        · rw [if_neg hcc, if_neg hcc]
          exact ⟨Nat.le_refl _, fun _ _ => rfl, fun j h1 h2 => absurd h2 (by omega)⟩
      · have z : ¬ un (kd s) ≤ fr (kd s) + 1 := fun x => z ((nI_leI (b := 1) (by omega) (by decide)).mpr (by omega))
        have y : cm1 s ≠ 0 := fun x => y (by rw [x]; rfl)
        exact k74 z ρ1 wc1 od1 pl1 cc1 wt1 Ag_rf hnr hW1 hP1 (PK_more hP1 hC1 hs y (bne _)) hQ1 ⟨Nat.le_refl _, fun _ _ => rfl, fun j h1 h2 => absurd h2 (by omega)⟩
  have hP7 := hR.2.2.2.2.1.2.1
  refine T_Ki_markThoseBefore_0 hG hM _ ρ ⟨in_nI (by omega) (by omega), ?_⟩
  rw [nI_clamp (by omega)]
  exact key (ch x) _ 0 ρ wc od pl cc cm wt (by omega) (fun _ h => h) c1 Ag_rf rfl hK MKx_rf (fun E hE hn => absurd hE hn)
end B30
