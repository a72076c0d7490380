/-! KINDS: the splitting as a whole -/
theorem cnt_compl {p p' : Nat → Bool} : ∀ {n : Nat}, (∀ j, j < n → p' j = !p j) → cnt p n + cnt p' n = n
  | 0, _ => rfl
  | n + 1, h => by
    have h1 := cnt_compl (p := p) (p' := p') (n := n) (fun j hj => h j (by omega))
    show cnt p n + (if p n = true then 1 else 0) + (cnt p' n + (if p' n = true then 1 else 0)) = n + 1
    rw [h n (by omega)]
    cases p n <;> simp <;> omega
/-- the class's kinds stand -/
def RKd (ρ : Rs) (σ : Wd) : Prop := ∃ (kd : Nat → Nat) (m : Nat), (∀ s, s < nS σ → iR ρ (34, 2, 0) s = nI (kd s) ∧ kd s < m) ∧ m ≤ nS σ ∧ nS σ ≤ nR ρ (34, 2, 0) ∧ nS σ ≤ nR ρ (34, 3, 0) ∧ iR ρ (7, 0, 0) 0 = nI m ∧ (∃ f : Nat → Bool, (∀ s, s < nS σ → (f s = true ↔ isF (alk σ) s)) ∧ m = cnt f (nS σ)) ∧ ∀ s, s < nS σ → ∃ f, f ≤ s ∧ alk σ f s ∧ isF (alk σ) f ∧ iR ρ (34, 3, 0) (kd s) = nI f
section B37
variable {G : Gc} {ρ : Rs} {K : (Ro → Nat) → Option Value → Rs → Prop}
theorem c_split (hG : gok G) {σ : Wd} (hR : RWr ρ σ) (hN1 : 1 ≤ nS σ) (hKm : KRm (nR ρ)) (hM1 : nS σ ≤ nR ρ (33, 0, 0)) (hM2 : ∀ s, s < nS σ → iR ρ (33, 0, 0) s = bI (aimW σ s)) (k : ∀ ad ρ', RKd ρ' σ → KRm (nR ρ') → Ag PKi ρ ρ' → K ad none ρ') : semV G r_Ki_split [34] (fun ad => [.ref (ad (7, 0, 0)), .ref (ad (1, 0, 0)), .ref (ad (33, 0, 0))]) ρ K := by
  have h12 := hR.2.1
  have h4 := hR.1.2.2.2.1
  have h1 := hR.1.2.1
  refine semV_intro yk_Ki_split.2.2.2.2 (fun _ => Nat.le_of_ble_eq_true rfl) (fun M Q ad0 hM => ?_)
  have hRw : ∀ {ρ1 : Rs}, Ag PKi ρ ρ1 → RWr ρ1 σ ∧ nS σ ≤ nR ρ1 (33, 0, 0) ∧ ∀ s, s < nS σ → iR ρ1 (33, 0, 0) s = bI (aimW σ s) := fun hag => ⟨RWr_ag hR (Ag_mono hag (fun _ h => PKi_nW h)), by rw [(hag (33, 0, 0) (by simp [PKi])).1]; exact hM1, by rw [(hag (33, 0, 0) (by simp [PKi])).2.1]; exact hM2⟩
  have hgo : ∀ s a k, s < nS σ → a < dA σ → k < dO σ a → goA σ s a k < nS σ := fun s a k hs ha hk => goW_lt hR.1.2.2.2.2.1 ((hR.2.2.2.1 a ha).2.2.2.2.2 k hk).2
  -- the turns
  have k39 : ∀ P t ρ1 m wc (od pl kd fr un cc cm wt : Nat → Nat), P = wc + pot (nS σ) m → t + P ≤ 6290434 → Ag PKi ρ ρ1 → KRm (nR ρ1) → KLn (nR ρ1) (nS σ) → MKs ρ1 σ m wc od pl kd fr un cc cm wt → PS σ kd (fun s a => (cm s).testBit a = true) → Y G [34] ad0 M Q 39 (fun ad => [(0, .ref (ad (7, 0, 0))), (1, .ref (ad (1, 0, 0))), (4, .int (nI t))]) (fun ad => []) ρ1 := by
    intro P
    induction P using Nat.strongRecOn with
    | ind P ih =>
      intro t ρ1 m wc od pl kd fr un cc cm wt hPe htP hag hKr hLn hK hS
      obtain ⟨hR1, -, -⟩ := hRw hag
      obtain ⟨hW, hP, hC, hQ, hcm⟩ := hK
      have hmN := PT_m hP
      have hwm := PQ_le hQ
      obtain ⟨r4, r5, r2, r6, r7, r8, r9, r10, q0, q11⟩ := hW
      have hKr0 := hKr
      obtain ⟨rr, rr1, rr2, -⟩ := hKr
      have n3 := rr2 3 (by omega)
      have n13 := rr2 13 (by omega)
      have n10 := hLn.1 10 (by omega)
      refine T_Ki_split_39 hG hM _ ρ1 ⟨fun z => absurd ((nI_leI (a := 8000000) (by decide) (by omega)).mp z) (by omega), fun _ => ?_⟩
      rw [q11, hR1.1.2.1]
      refine ⟨fun z => ?_, fun z => ?_⟩
      · have z : wc ≤ 0 := (nI_leI (b := 0) (by omega) (by decide)).mp z
        have hcc0 : ∀ b, b < m → cc b = 0 := by
          intro b hb
          rcases Nat.eq_zero_or_pos (cc b) with y | y
          · exact y
          · obtain ⟨j, hj, -⟩ := hQ.2.2 b hb y; omega
        have hcm0 : ∀ s, s < nS σ → cm s = 0 := by
          intro s hs
          have p := hP.2.2.2.1 s hs
          have := hC.2.2 (kd s) (pl s) p.1 (by rw [hcc0 _ p.1]; omega) p.2.2
          rw [(hP.2.1 s hs).2] at this; exact this
        have hal := PS_end hgo hS (fun s a hs (y : (cm s).testBit a = true) => by rw [hcm0 s hs, Nat.zero_testBit] at y; cases y)
        refine c_findLeast hG h4 hLn (by omega) r2 (fun s hs => (hP.2.2.2.1 s hs).1) hmN q0 (fun ad ρ2 f1 f2 f3 => ⟨rfl, fun ad => ?_⟩)
        have a2 : Ag PKi ρ1 ρ2 := Ag_mono f2 (fun q h => Or.inr (by rw [h]))
        refine k ad ρ2 ⟨kd, m, fun s hs => ⟨by rw [(f2 (34, 2, 0) (by simp)).2.1]; exact r2 s hs, (hP.2.2.2.1 s hs).1⟩, hmN, by rw [f3]; exact hLn.1 2 (by omega), by rw [f3]; exact hLn.1 3 (by omega), by rw [(f2 (7, 0, 0) (by simp)).2.1]; exact q0, ?_, fun s hs => ?_⟩ (by rw [f3]; exact hKr0) (Ag_tr hag a2)
        · have dec : ∃ f : Nat → Bool, ∀ s, f s = true ↔ isF (alk σ) s := ⟨fun s => @decide (isF (alk σ) s) (Classical.propDecidable _), fun s => @decide_eq_true_iff _ (Classical.propDecidable _)⟩
          obtain ⟨f, hf⟩ := dec
          refine ⟨f, fun s _ => hf s, ?_⟩
          have hall : cnt (fun _ => true) m = m := by
            have x1 := inj_cnt (f := fun j => j) (N := m) (e := m) (p := fun _ => true) (fun j hj => ⟨hj, rfl⟩) (fun j l hj _ z => by omega)
            have x2 := cnt_le (fun _ => true) m
            omega
          rw [← hall]
          refine (cnt_first (p := kd) (N := nS σ) (fun s hs => ?_) (fun b hb => ?_) (fun s hs => (hP.2.2.2.1 s hs).1)).symm
          · rw [hf s]
            constructor
            · intro hF q hq e; exact hF q hq ((hal q s (by omega) hs).mp e)
            · intro hF q hq e; exact hF q hq ((hal q s (by omega) hs).mpr e)
          · have p := hP.2.2.1 b hb
            exact ⟨fun _ => ⟨od (fr b), (hP.1 (fr b) (by omega)).1, hP.2.2.2.2 b (fr b) hb (Nat.le_refl _) p.1⟩, fun _ => rfl⟩
        · obtain ⟨f, g1, g2, g3, g4⟩ := f1 s hs
          exact ⟨f, g1, (hal f s (by omega) hs).mp g2, fun q hq e => g3 q hq (by rw [← g2]; exact (hal q f (by omega) (by omega)).mpr e), g4⟩
      · have z : 0 < wc := Nat.not_le.mp (fun y => z ((nI_leI (b := 0) (by omega) (by decide)).mpr y))
        have em : nI wc - 1 = nI (wc - 1) := nI_sb (b := 1) z
        rw [em]
        intro ρ9 e9
        have s9 : iR ρ9 (7, 0, 0) 11 = nI (wc - 1) := by rw [e9, iR_pI, if_pos ⟨rfl, rfl⟩]
        have a9 : Ag (fun q => q = (7, 0, 0)) ρ1 ρ9 := by rw [e9]; exact Ag_pI rfl
        have nr9 : nR ρ9 = nR ρ1 := by rw [e9]; rfl
        rw [s9, nI_clamp (n := wc - 1) (by omega), Hv_ag r10 a9 (by simp) (wc - 1) (by omega), nI_1]
        refine ⟨in_nI (by rw [nr9]; omega) (by omega), ?_⟩
        have hb := (hQ.1 (wc - 1) (by omega)).1
        have ag9 : Ag PKi ρ ρ9 := Ag_tr hag (Ag_mono a9 (fun q h => Or.inl (by rw [h])))
        refine c_settle (b := wt (wc - 1)) (wc := wc - 1) hG (hRw ag9).1 (by rw [nr9]; exact hLn) (by rw [nr9]; omega) ⟨Hv_ag r4 a9 (by simp), Hv_ag r5 a9 (by simp), Hv_ag r2 a9 (by simp), Hv_ag r6 a9 (by simp), Hv_ag r7 a9 (by simp), Hv_ag r8 a9 (by simp), Hv_ag r9 a9 (by simp), fun j hj => Hv_ag r10 a9 (by simp) j (by omega), by rw [e9, iR_pI, if_neg (by simp)]; exact q0, s9⟩ hP hC ⟨fun j hj => ⟨(hQ.1 j (by omega)).1, (hQ.1 j (by omega)).2, hQ.2.1 j (wc - 1) hj (by omega)⟩, fun j l hj hl => hQ.2.1 j l hj (by omega), fun c hc hne hp => ?_⟩ hcm hS hb (fun ad ρ3 m3 wc3 od3 pl3 kd3 fr3 un3 cc3 cm3 wt3 g1 g2 g3 g4 g5 => ⟨rfl, ?_⟩)
        · obtain ⟨j, hj, hjw⟩ := hQ.2.2 c hc hp
          exact ⟨j, by
            by_cases e : j = wc - 1
            · rw [e] at hjw; exact absurd hjw.symm hne
            · omega, hjw⟩
        · exact ih (wc3 + pot (nS σ) m3) (by omega) (t + 1) ρ3 m3 wc3 od3 pl3 kd3 fr3 un3 cc3 cm3 wt3 rfl (by omega) (Ag_tr ag9 g4) (by rw [g5, nr9]; exact hKr0) (by rw [g5, nr9]; exact hLn) g1 g2
  refine T_Ki_split_0 hG hM ρ ?_
  rw [h1]
  refine c_makeRoom hG h4 hN1 hKm (fun ad ρ1 m1 m2 m3 => ⟨rfl, fun ρ5 e5 ρ6 e6 => ?_⟩)
  have nr6 : nR ρ6 = nR ρ1 := by rw [e6, e5]; rfl
  have ag6 : Ag PKi ρ ρ6 := Ag_tr (Ag_mono m3 (fun q h => Or.inr h)) (by rw [e6, e5]; exact Ag_tr (Ag_pI (Or.inl rfl)) (Ag_pI (Or.inl rfl)))
  obtain ⟨hR6, hM61, hM62⟩ := hRw ag6
  have W6 : KRw ρ6 (nS σ) 0 0 (fun i => (iR ρ6 (34, 4, 0) i).toBitVec.toNat) (fun i => (iR ρ6 (34, 5, 0) i).toBitVec.toNat) (fun i => (iR ρ6 (34, 2, 0) i).toBitVec.toNat) (fun _ => 0) (fun _ => 0) (fun _ => 0) (fun i => (iR ρ6 (34, 9, 0) i).toBitVec.toNat) (fun _ => 0) := ⟨Hv_any, Hv_any, Hv_any, fun i hi => absurd hi (by omega), fun i hi => absurd hi (by omega), fun i hi => absurd hi (by omega), Hv_any, fun i hi => absurd hi (by omega), by rw [e6, iR_pI, if_neg (by simp), e5, iR_pI, if_pos ⟨rfl, rfl⟩]; rfl, by rw [e6, iR_pI, if_pos ⟨rfl, rfl⟩]; rfl⟩
  refine c_place (W := true) (a0 := 0) hG hR6 (by rw [nr6]; exact m2) hM61 hM62 W6 (by have := cnt_le (cW σ true) (nS σ); omega) (Nat.le_refl _) (Nat.le_refl _) (fun ad ρ7 A ma wa od1 pl1 kd1 fr1 un1 cc1 cm1 wt1 x0 x1 x2 x3 x4 x5 x6 x7 x8 => ⟨_, rfl, ?_⟩)
  have ag7 : Ag PKi ρ ρ7 := Ag_tr ag6 x7
  obtain ⟨hR7, hM71, hM72⟩ := hRw ag7
  have hcA : A + cnt (cW σ false) (nS σ) = nS σ := by
    have := cnt_compl (p := cW σ true) (p' := cW σ false) (n := nS σ) (fun j _ => by unfold cW; cases aimW σ j <;> rfl)
    omega
  have hma : ma ≤ A ∧ wa ≤ A ∧ wa = ma := by
    rcases x6 with ⟨y1, y2, y3, -⟩ | ⟨y1, y2, y3, -⟩ <;> omega
  refine c_place (W := false) (a0 := A) hG hR7 (by rw [x8, nr6]; exact m2) hM71 hM72 x1 (by omega) hma.1 hma.2.1 (fun ad ρ8 B mb wb od2 pl2 kd2 fr2 un2 cc2 cm2 wt2 z0 z1 z2 z3 z4 z5 z6 z7 z8 => ⟨_, rfl, ?_⟩)
  have eB : B = nS σ := by omega
  subst eB
  have ag8 : Ag PKi ρ ρ8 := Ag_tr ag7 z7
  -- the two classes
  have FA : 0 < A → 0 < mb ∧ fr2 0 = 0 ∧ un2 0 = A ∧ cc2 0 = A := by
    intro hA
    rcases x6 with ⟨-, y2, y3, y4, y5, y6, -⟩ | ⟨y1, -⟩
    · rcases z6 with ⟨-, w2, w3, w4, w5, w6, -⟩ | ⟨-, w2, w3, w4, w5, w6, -⟩
      · refine ⟨by omega, ?_, ?_, ?_⟩
        · rw [w4, upn (by omega), y4, ups]
        · rw [w5, upn (by omega), y5, ups]
        · rw [w6, upn (by omega), y6, ups]; omega
      · refine ⟨by omega, ?_, ?_, ?_⟩
        · rw [w4, y4, ups]
        · rw [w5, y5, ups]
        · rw [w6, y6, ups]; omega
    · omega
  have FB : A < nS σ → ma < mb ∧ fr2 ma = A ∧ un2 ma = nS σ ∧ cc2 ma = nS σ - A := by
    intro hA
    rcases z6 with ⟨-, w2, w3, w4, w5, w6, -⟩ | ⟨w1, -⟩
    · exact ⟨by omega, by rw [w4, ups], by rw [w5, ups], by rw [w6, ups]⟩
    · omega
  have FC : ∀ b, b < mb → (b = 0 ∧ 0 < A) ∨ (b = ma ∧ A < nS σ) := by
    intro b hb
    rcases x6 with ⟨y1, y2, -⟩ | ⟨y1, y2, -⟩ <;> rcases z6 with ⟨w1, w2, -⟩ | ⟨w1, w2, -⟩ <;> omega
  have FQ : wb = mb ∧ ∀ j, j < mb → wt2 j = j := by
    rcases x6 with ⟨y1, y2, y3, -, -, -, y7⟩ | ⟨y1, y2, y3, -, -, -, y7⟩ <;> rcases z6 with ⟨w1, w2, w3, -, -, -, w7⟩ | ⟨w1, w2, w3, -, -, -, w7⟩
    · refine ⟨by omega, fun j hj => ?_⟩
      rw [w7, y7]
      by_cases e : j = wa
      · rw [e, ups]; omega
      · rw [upn e, show j = 0 by omega, ups]
    · refine ⟨by omega, fun j hj => ?_⟩
      rw [w7, y7, show j = 0 by omega, ups]
    · refine ⟨by omega, fun j hj => ?_⟩
      rw [w7, show j = wa by omega, ups]; omega
    · omega
  have aimc : ∀ s, aimW σ s = true ∨ aimW σ s = false := fun s => by cases aimW σ s <;> simp
  have sT : ∀ s, s < nS σ → aimW σ s = true → pl2 s < A ∧ od2 (pl2 s) = s ∧ cm2 s = 2 ^ dA σ - 1 ∧ kd2 s = 0 := by
    intro s hs ha
    obtain ⟨y1, y2, y3, y4, y5⟩ := x4 s hs ha
    obtain ⟨w1, w2, w3⟩ := z5 s hs (by rw [ha]; simp)
    rw [w1, w2, w3, z2 _ y2]
    exact ⟨y2, y3, y4, y5⟩
  have sF : ∀ s, s < nS σ → aimW σ s = false → A ≤ pl2 s ∧ pl2 s < nS σ ∧ od2 (pl2 s) = s ∧ cm2 s = 2 ^ dA σ - 1 ∧ kd2 s = ma := z4
  have hP : PT (nS σ) mb od2 pl2 kd2 fr2 un2 := by
    refine ⟨fun i hi => ?_, fun s hs => ?_, fun b hb => ?_, fun s hs => ?_, fun b i hb i1 i2 => ?_⟩
    · by_cases e : i < A
      · obtain ⟨y1, y2, y3⟩ := x3 i (Nat.zero_le _) e
        rw [z2 i e]
        exact ⟨y1, by rw [(z5 _ y1 (by rw [y2]; simp)).1]; exact y3⟩
      · obtain ⟨y1, y2, y3⟩ := z3 i (by omega) hi
        exact ⟨y1, y3⟩
    · rcases aimc s with e | e
      · have := sT s hs e; exact ⟨by omega, this.2.1⟩
      · have := sF s hs e; exact ⟨by omega, this.2.2.1⟩
    · rcases FC b hb with ⟨e, h⟩ | ⟨e, h⟩
      · obtain ⟨-, f1, f2, -⟩ := FA h
        rw [e, f1, f2]; omega
      · obtain ⟨-, f1, f2, -⟩ := FB h
        rw [e, f1, f2]; omega
    · rcases aimc s with e | e
      · have := sT s hs e
        obtain ⟨f0, f1, f2, -⟩ := FA (by omega)
        rw [this.2.2.2, f1, f2]; exact ⟨f0, by omega, this.1⟩
      · have := sF s hs e
        obtain ⟨f0, f1, f2, -⟩ := FB (by omega)
        rw [this.2.2.2.2, f1, f2]; exact ⟨f0, this.1, this.2.1⟩
    · rcases FC b hb with ⟨e, h⟩ | ⟨e, h⟩
      · obtain ⟨-, f1, f2, -⟩ := FA h
        rw [e, f2] at i2
        obtain ⟨y1, y2, y3⟩ := x3 i (Nat.zero_le _) i2
        rw [z2 i i2, e]
        exact (sT _ y1 y2).2.2.2
      · obtain ⟨-, f1, f2, -⟩ := FB h
        rw [e, f1] at i1
        rw [e, f2] at i2
        obtain ⟨y1, y2, y3⟩ := z3 i i1 i2
        rw [e]
        exact (sF _ y1 y2).2.2.2.2
  have cmA : ∀ s, s < nS σ → cm2 s = 2 ^ dA σ - 1 := fun s hs => by
    rcases aimc s with e | e
    · exact (sT s hs e).2.2.1
    · exact (sF s hs e).2.2.2.1
  have cfull : ∀ b, b < mb → fr2 b + cc2 b = un2 b ∧ 0 < cc2 b := by
    intro b hb
    rcases FC b hb with ⟨e, h⟩ | ⟨e, h⟩
    · obtain ⟨-, f1, f2, f3⟩ := FA h
      rw [e, f1, f2, f3]; omega
    · obtain ⟨-, f1, f2, f3⟩ := FB h
      rw [e, f1, f2, f3]; omega
  have hp2 : 0 < 2 ^ dA σ := Nat.pow_pos (by omega)
  have hC : PK mb od2 fr2 un2 cc2 cm2 (dA σ = 0) := by
    refine ⟨fun b hb => by have := cfull b hb; omega, fun b i hb i1 i2 => ?_, fun b i hb i1 i2 => ?_⟩
    · have := cfull b hb
      have hu := (hP.2.2.1 b hb).2
      rw [cmA _ (hP.1 i (by omega)).1]
      by_cases e : dA σ = 0
      · exact Or.inr e
      · left
        have : 2 ^ 1 ≤ 2 ^ dA σ := Nat.pow_le_pow_right (by omega) (by omega)
        omega
    · have := cfull b hb; omega
  have hQ : PQ mb cc2 wt2 wb := by
    rw [FQ.1]
    exact ⟨fun j hj => by rw [FQ.2 j hj]; exact ⟨hj, (cfull j hj).2⟩, fun j l hj hl => by rw [FQ.2 j (by omega), FQ.2 l hl]; omega, fun b hb _ => ⟨b, hb, FQ.2 b hb⟩⟩
  have hS : PS σ kd2 (fun s a => (cm2 s).testBit a = true) := by
    refine ⟨fun s t hs ht e => ?_, fun s t hs ht e => ?_, fun s t a hs ht ha e n1 n2 => ?_⟩
    · rcases aimc s with es | es <;> rcases aimc t with et | et
      · rw [es, et]
      · exfalso
        have q1 := sT s hs es
        have q2 := sF t ht et
        rw [q1.2.2.2, q2.2.2.2.2] at e
        rcases x6 with ⟨y1, y2, -⟩ | ⟨y1, y2, -⟩ <;> omega
      · exfalso
        have q1 := sT t ht et
        have q2 := sF s hs es
        rw [q1.2.2.2, q2.2.2.2.2] at e
        rcases x6 with ⟨y1, y2, -⟩ | ⟨y1, y2, -⟩ <;> omega
      · rw [es, et]
    · have e0 : aimW σ s = aimW σ t := e 0
      rcases aimc s with es | es
      · rw [(sT s hs es).2.2.2, (sT t ht (by rw [← e0]; exact es)).2.2.2]
      · rw [(sF s hs es).2.2.2.2, (sF t ht (by rw [← e0]; exact es)).2.2.2.2]
    · exfalso
      apply n1
      show (cm2 s).testBit a = true
      rw [cmA s hs, Nat.testBit_two_pow_sub_one]
      exact decide_eq_true ha
  have hpot := pot_le (N := nS σ) (m := mb) h4
  have hmb : mb ≤ 2 := by
    rcases x6 with ⟨y1, y2, -⟩ | ⟨y1, y2, -⟩ <;> rcases z6 with ⟨w1, w2, -⟩ | ⟨w1, w2, -⟩ <;> omega
  refine k39 _ 0 ρ8 mb wb od2 pl2 kd2 fr2 un2 cc2 cm2 wt2 rfl (by rw [FQ.1]; omega) ag8 (by rw [z8, x8, nr6]; exact m1) (by rw [z8, x8, nr6]; exact m2) ⟨z1, hP, hC, hQ, fun s hs => by rw [cmA s hs]; omega⟩ hS
end B37
