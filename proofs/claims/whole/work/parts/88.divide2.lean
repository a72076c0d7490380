/-! KINDS: a class is divided -/
def PDv (q : Ro) : Prop := PMk q ∨ POp q ∨ q = (34, 13, 0) ∨ q = (34, 14, 0) ∨ q = (34, 15, 0)
theorem PDv_Ki {q : Ro} (h : PDv q) : PKi q := by
  rcases h with h | h | h | h | h
  · exact PMk_Ki h
  · rcases h with h | h | h | h | h <;> rw [h] <;> first | exact Or.inl rfl | exact Or.inr rfl
  · rw [h]; exact Or.inr rfl
  · rw [h]; exact Or.inr rfl
  · rw [h]; exact Or.inr rfl
section B34
variable {G : Gc} {ρ : Rs} {K : (Ro → Nat) → Option Value → Rs → Prop}
theorem c_divide (hG : gok G) {σ : Wd} {m wc b T gs : Nat} {od pl kd fr un cc cm wt tl st gp : Nat → Nat} (hR : RWr ρ σ) (hL : KLn (nR ρ) (nS σ)) (hK : MKs ρ σ m wc od pl kd fr un cc cm wt) (hb : b < m) (hcc : cc b = 0) (hT : fr b + T ≤ un b) (h2 : 2 ≤ gs) (hgN : gs ≤ nS σ) (hst : st = stf tl (fr b) gs) (hsum : sm tl gs = T) (h13 : Hv ρ (34, 13, 0) gs tl) (h14 : Hv ρ (34, 14, 0) gs (fun g => st g + tl g)) (h15 : ∀ p, fr b ≤ p → p < fr b + T → iR ρ (34, 15, 0) p = nI (od p))
    (hpos : ∀ g, g < gs → 0 < va_up tl 0 (tl 0 + (un b - (fr b + T))) g) (hgp : ∀ s, s < nS σ → kd s = b → gp s < gs ∧ st (gp s) ≤ pl s ∧ pl s < st (gp s) + va_up tl 0 (tl 0 + (un b - (fr b + T))) (gp s)) (hmN : m + gs - 1 ≤ nS σ)
    (k : ∀ ad ρ' wc' (od' pl' kd' fr' un' cc' cm' wt' : Nat → Nat), MKs ρ' σ (m + gs - 1) wc' od' pl' kd' fr' un' cc' cm' wt' → (∀ s t, s < nS σ → t < nS σ → (kd' s = kd' t ↔ kd s = kd t ∧ (kd s = b → gp s = gp t))) → MKx σ fr' un' cm cm' wt wt' wc wc' → (∀ s a kk x, s < nS σ → a < dA σ → kk < dO σ a → x < nS σ → nxW σ s a kk = some x → kd' x ≠ kd x → (cm' s).testBit a = true ∨ un' (kd' s) ≤ fr' (kd' s) + 1) → Ag PDv ρ ρ' → nR ρ' = nR ρ → K ad none ρ') :
    semV G r_Ki_divide [] (fun ad => [.ref (ad (7, 0, 0)), .ref (ad (1, 0, 0)), .int (nI b), .int (nI (fr b + T)), .int (nI gs)]) ρ K := by
  have h12 := hR.2.1
  have h4 := hR.1.2.2.2.1
  obtain ⟨hW, hP, hC, hQ, hcm⟩ := hK
  have hmN0 := PT_m hP
  have hL0 := hL
  obtain ⟨l1, -⟩ := hL
  have l4 := l1 4 (by omega); have l6 := l1 6 (by omega); have l7 := l1 7 (by omega); have l13 := l1 13 (by omega); have l14 := l1 14 (by omega); have l15 := l1 15 (by omega)
  obtain ⟨r4, r5, r2, r6, r7, r8, r9, r10, q0, q11⟩ := hW
  have hun := hP.2.2.1 b hb
  obtain ⟨tl', et⟩ : ∃ tl' : Nat → Nat, tl' = va_up tl 0 (tl 0 + (un b - (fr b + T))) := ⟨_, rfl⟩
  rw [← et] at hpos hgp
  have hst' : st = stf tl' (fr b) gs := by
    rw [hst]
    funext g
    unfold stf
    rw [sm_congr (g := fun y => tl' (y + 1)) (fun y _ => by rw [et, upn (by omega)])]
  have hsum' : fr b + sm tl' gs = un b := by
    have := sm_one (f := tl) (g := tl') (x := 0) (c := un b - (fr b + T)) (n := gs) (by omega) (fun j _ hj => by rw [et, upn hj]) (by rw [et, ups])
    omega
  have hin : ∀ g, g < gs → fr b ≤ st g ∧ st g + tl' g ≤ un b := by
    intro g hg
    have := st_in (tl := tl') (at0 := fr b) hg
    rw [← hst', hsum'] at this; exact this
  have h0e : st 0 + tl' 0 = un b := by
    have := st_end (tl := tl') (at0 := fr b) (gs := gs) (by omega)
    rw [← hst', hsum'] at this; exact this
  have tls : ∀ g, g < gs → tl g ≤ tl' g := by
    intro g hg
    rw [et]
    by_cases e : g = 0
    · rw [e, ups]; omega
    · rw [upn e]; exact Nat.le_refl _
  have hoN : ∀ i, i < nS σ → od i < nS σ := fun i hi => (hP.1 i hi).1
  have hRw : ∀ {ρ1 : Rs}, Ag PDv ρ ρ1 → RWr ρ1 σ := fun hag => RWr_ag hR (Ag_mono hag (fun _ h => PKi_nW (PDv_Ki h)))
  refine semV_intro yk_Ki_divide.2.2.2.2 (fun _ => Nat.le_of_ble_eq_true rfl) (fun M Q ad0 hM => ?_)
  -- marking, once the classes stand
  have k185 : ∀ L (kd' fr' un' cc' : Nat → Nat), L < gs → PT (nS σ) (m + gs - 1) od pl kd' fr' un' → (∀ s t, s < nS σ → t < nS σ → (kd' s = kd' t ↔ kd s = kd t ∧ (kd s = b → gp s = gp t))) → (∀ s, s < nS σ → kd' s ≠ kd s → m ≤ kd' s) → (∀ g, g < gs → g ≠ L → fr' (nnf b m L g) = st g ∧ un' (nnf b m L g) = st g + tl' g) →
      ∀ dn n ρ1 wc1 (od1 pl1 cc1 cm1 wt1 : Nat → Nat), n + dn = m + gs - 1 → m ≤ n → Ag PDv ρ ρ1 → nR ρ1 = nR ρ → MKs ρ1 σ (m + gs - 1) wc1 od1 pl1 kd' fr' un' cc1 cm1 wt1 → MKx σ fr' un' cm cm1 wt wt1 wc wc1 → (∀ g p, g < gs → g ≠ L → st g ≤ p → p < st g + tl' g → iR ρ1 (34, 15, 0) p = nI (od p)) → (∀ s a kk x, s < nS σ → a < dA σ → kk < dO σ a → x < nS σ → nxW σ s a kk = some x → m ≤ kd' x → kd' x < n → (cm1 s).testBit a = true ∨ un' (kd' s) ≤ fr' (kd' s) + 1) → Y G [] ad0 M Q 185 (fun ad => [(0, .ref (ad (7, 0, 0))), (1, .ref (ad (1, 0, 0))), (8, .int (nI n))]) (fun ad => []) ρ1 := by
    intro L kd' fr' un' cc' hLg hP' hkk hnew hfu dn
    induction dn with
    | zero =>
      intro n ρ1 wc1 od1 pl1 cc1 cm1 wt1 hdn hmn hag hnr hK1 hX1 hs1 hm1
      have en : n = m + gs - 1 := by omega
      subst en
      refine T_Ki_divide_185 hG hM _ ρ1 ⟨fun _ ad => k ad ρ1 wc1 od1 pl1 kd' fr' un' cc1 cm1 wt1 hK1 hkk hX1 (fun s a kk x hs ha hk2 hx hnx hne => hm1 s a kk x hs ha hk2 hx hnx (hnew x hx hne) (hP'.2.2.2.1 x hx).1) hag hnr, fun z => absurd (by rw [hK1.1.2.2.2.2.2.2.2.2.1]; exact (nI_leI (by omega) (by omega)).mpr (Nat.le_refl _)) z⟩
    | succ dn ih =>
      intro n ρ1 wc1 od1 pl1 cc1 cm1 wt1 hdn hmn hag hnr hK1 hX1 hs1 hm1
      have hn : n < m + gs - 1 := by omega
      obtain ⟨g, g1, g2, g3⟩ := nn_ex (b := b) hLg hmn hn
      obtain ⟨f1, f2⟩ := hfu g g1 g2
      rw [← g3] at f1 f2
      have hig := hin g g1
      refine T_Ki_divide_185 hG hM _ ρ1 ⟨fun z => absurd (by rw [hK1.1.2.2.2.2.2.2.2.2.1] at z; exact (nI_leI (by omega) (by omega)).mp z) (by omega), fun _ => ⟨in_nI (by rw [hnr]; omega) (by omega), ?_⟩⟩
      rw [nI_clamp (n := n) (by omega), hK1.1.2.2.2.1 n hn, f1]
      have k203 : ∀ dp p ρ2 wc2 (od2 pl2 cc2 cm2 wt2 : Nat → Nat), p + dp = st g + tl' g → st g ≤ p → Ag PDv ρ ρ2 → nR ρ2 = nR ρ → MKs ρ2 σ (m + gs - 1) wc2 od2 pl2 kd' fr' un' cc2 cm2 wt2 → MKx σ fr' un' cm cm2 wt wt2 wc wc2 → (∀ g p, g < gs → g ≠ L → st g ≤ p → p < st g + tl' g → iR ρ2 (34, 15, 0) p = nI (od p)) → (∀ s a kk x, s < nS σ → a < dA σ → kk < dO σ a → x < nS σ → nxW σ s a kk = some x → m ≤ kd' x → (kd' x < n ∨ (kd' x = n ∧ pl x < p)) → (cm2 s).testBit a = true ∨ un' (kd' s) ≤ fr' (kd' s) + 1) → Y G [] ad0 M Q 203 (fun ad => [(0, .ref (ad (7, 0, 0))), (1, .ref (ad (1, 0, 0))), (8, .int (nI n)), (9, .int (nI p))]) (fun ad => []) ρ2 := by
        intro dp
        induction dp with
        | zero =>
          intro p ρ2 wc2 od2 pl2 cc2 cm2 wt2 hdp hsp hag2 hnr2 hK2 hX2 hs2 hm2
          refine T_Ki_divide_203 hG hM _ _ ρ2 ⟨in_nI (by rw [hnr2]; omega) (by omega), ?_⟩
          rw [nI_clamp (n := n) (by omega), hK2.1.2.2.2.2.1 n hn, f2, nI_1]
          refine ⟨fun _ => ?_, fun z => absurd ((nI_leI (by omega) (by omega)).mpr (by omega)) z⟩
          refine ih (n + 1) ρ2 wc2 od2 pl2 cc2 cm2 wt2 (by omega) (by omega) hag2 hnr2 hK2 hX2 hs2 (fun s a kk x hs ha hk2 hx hnx hmx hlt => hm2 s a kk x hs ha hk2 hx hnx hmx ?_)
          by_cases e : kd' x = n
          · right
            have := (hP'.2.2.2.1 x hx).2.2
            rw [e, f2] at this
            exact ⟨e, by omega⟩
          · left; omega
        | succ dp ih2 =>
          intro p ρ2 wc2 od2 pl2 cc2 cm2 wt2 hdp hsp hag2 hnr2 hK2 hX2 hs2 hm2
          have hpN : p < nS σ := by omega
          refine T_Ki_divide_203 hG hM _ _ ρ2 ⟨in_nI (by rw [hnr2]; omega) (by omega), ?_⟩
          rw [nI_clamp (n := n) (by omega), hK2.1.2.2.2.2.1 n hn, f2, nI_clamp (n := p) (by omega), hs2 g p g1 g2 hsp (by omega), nI_1 n, nI_1 p]
          refine ⟨fun z => absurd ((nI_leI (by omega) (by omega)).mp z) (by omega), fun _ => ⟨in_nI (by rw [hnr2]; omega) (by omega), ?_⟩⟩
          refine c_mark hG (hRw hag2) (by rw [hnr2]; exact hL0) hK2 (hoN p hpN) (fun ad ρ3 wc3 od3 pl3 cc3 cm3 wt3 m1 m2 m3 m4 m5 => ⟨rfl, ?_⟩)
          refine ih2 (p + 1) ρ3 wc3 od3 pl3 cc3 cm3 wt3 (by omega) (by omega) (Ag_tr hag2 (Ag_mono m4 (fun q h => Or.inl h))) (by rw [m5]; exact hnr2) m1 (MKx_tr hX2 m2) (fun g' p' x1 x2 x3 x4 => by rw [(m4 (34, 15, 0) (by simp [PMk])).2.1]; exact hs2 g' p' x1 x2 x3 x4) (fun s a kk x hs ha hk2 hx hnx hmx hor => ?_)
          by_cases e : x = od p
          · subst e
            exact m3 s a kk hs ha hk2 hnx
          · have hor2 : kd' x < n ∨ (kd' x = n ∧ pl x < p) := by
              rcases hor with y | ⟨y1, y2⟩
              · exact Or.inl y
              · right
                refine ⟨y1, ?_⟩
                by_cases e2 : pl x = p
                · exfalso
                  apply e
                  rw [← e2]; exact (hP.2.1 x hx).2.symm
                · omega
            rcases hm2 s a kk x hs ha hk2 hx hnx hmx hor2 with y | y
            · exact Or.inl (m2.2.2.2 s a hs y)
            · exact Or.inr y
      refine k203 (tl' g) (st g) ρ1 wc1 od1 pl1 cc1 cm1 wt1 (by omega) (Nat.le_refl _) hag hnr hK1 hX1 hs1 (fun s a kk x hs ha hk2 hx hnx hmx hor => hm1 s a kk x hs ha hk2 hx hnx hmx ?_)
      rcases hor with y | ⟨y1, y2⟩
      · exact y
      · exfalso
        have := (hP'.2.2.2.1 x hx).2.1
        rw [y1, f1] at this
        omega
  -- the classes are opened
  have k100 : ∀ L, L < gs → ∀ dg g ρ1 (kd1 fr1 un1 cc1 : Nat → Nat), g + dg = gs → Ag PDv ρ ρ1 → nR ρ1 = nR ρ → Hv ρ1 (34, 4, 0) (nS σ) od → Hv ρ1 (34, 5, 0) (nS σ) pl → Hv ρ1 (34, 9, 0) (nS σ) cm → Hv ρ1 (34, 10, 0) wc wt → iR ρ1 (7, 0, 0) 11 = nI wc → Hv ρ1 (34, 13, 0) gs tl' → Hv ρ1 (34, 14, 0) gs (fun g => st g + tl' g) → (∀ g p, g < gs → g ≠ L → st g ≤ p → p < st g + tl' g → iR ρ1 (34, 15, 0) p = nI (od p)) → iR ρ1 (7, 0, 0) 0 = nI (m + (if g ≤ L then g else g - 1)) → Hv ρ1 (34, 2, 0) (nS σ) kd1 → Hv ρ1 (34, 6, 0) (m + (if g ≤ L then g else g - 1)) fr1 → Hv ρ1 (34, 7, 0) (m + (if g ≤ L then g else g - 1)) un1 → Hv ρ1 (34, 8, 0) (m + (if g ≤ L then g else g - 1)) cc1 → (∀ c, c < m → fr1 c = fr c ∧ un1 c = un c ∧ cc1 c = cc c) → (∀ g', g' < g → g' ≠ L → fr1 (nnf b m L g') = st g' ∧ un1 (nnf b m L g') = st g' + tl' g' ∧ cc1 (nnf b m L g') = 0) → (∀ s, s < nS σ → kd s ≠ b → kd1 s = kd s) → (∀ s, s < nS σ → kd s = b → kd1 s = if gp s < g ∧ gp s ≠ L then nnf b m L (gp s) else b) → Y G [] ad0 M Q 100 (fun ad => [(0, .ref (ad (7, 0, 0))), (1, .ref (ad (1, 0, 0))), (2, .int (nI b)), (4, .int (nI gs)), (6, .int (nI L)), (7, .int (nI m)), (8, .int (nI g))]) (fun ad => []) ρ1 := by
    intro L hLg dg
    induction dg with
    | zero =>
      intro g ρ1 kd1 fr1 un1 cc1 hdg hag hnr o1 c1 m1 w1 w11 t1 s1 z1 x0 d1 f1 u1 k1 y1 y2 y3 y4
      have eg : g = gs := by omega
      subst eg
      rw [if_neg (by omega : ¬ g ≤ L)] at x0 f1 u1 k1
      have hLi := hin L hLg
      refine T_Ki_divide_100 hG hM _ _ _ _ _ ρ1 ⟨fun _ => ⟨in_nI (by rw [hnr]; omega) (by omega), in_nI (by rw [hnr]; omega) (by omega), in_nI (by rw [hnr]; omega) (by omega), ?_⟩, fun z => absurd ((nI_leI (by omega) (by omega)).mpr (Nat.le_refl _)) z⟩
      have s1L : iR ρ1 (34, 14, 0) L = nI (st L + tl' L) := s1 L hLg
      rw [nI_clamp (n := L) (by omega), s1L, t1 L hLg, nI_sb (Nat.le_add_left _ _), Nat.add_sub_cancel, nI_clamp (n := b) (by omega)]
      intro ρ3 e3
      have a3 : Ag (fun q => q = (34, 6, 0)) ρ1 ρ3 := by rw [e3]; exact Ag_pI rfl
      have s3 : iR ρ3 (34, 14, 0) L = nI (st L + tl' L) := Hv_ag s1 a3 (by simp) L hLg
      rw [s3]
      refine ⟨in_nI (by rw [e3, nR_pI, hnr]; omega) (by omega), in_nI (by rw [e3, nR_pI, hnr]; omega) (by omega), fun ρ5 e5 => ?_⟩
      have a5 : Ag (fun q => q = (34, 6, 0) ∨ q = (34, 7, 0)) ρ1 ρ5 := by rw [e5]; exact Ag_tr (Ag_mono a3 (fun q h => Or.inl h)) (Ag_pI (Or.inr rfl))
      have hnb : ∀ g', g' ≠ L → nnf b m L g' ≠ b := fun g' h e => by have := nn_new (b := b) (m := m) h; omega
      have hfu : ∀ g', g' < g → va_up fr1 b (st L) (nnf b m L g') = st g' ∧ va_up un1 b (st L + tl' L) (nnf b m L g') = st g' + tl' g' := by
        intro g' hg'
        by_cases e : g' = L
        · rw [e, nn_L, ups, ups]; exact ⟨rfl, rfl⟩
        · rw [upn (hnb g' e), upn (hnb g' e)]
          exact ⟨(y2 g' hg' e).1, (y2 g' hg' e).2.1⟩
      have hk2 : ∀ s, s < nS σ → kd s = b → kd1 s = nnf b m L (gp s) := by
        intro s hs e
        rw [y4 s hs e]
        by_cases eL : gp s = L
        · rw [if_neg (fun z => z.2 eL), eL, nn_L]
        · rw [if_pos ⟨(hgp s hs e).1, eL⟩]
      have hff : ∀ c, c < m → c ≠ b → va_up fr1 b (st L) c = fr c ∧ va_up un1 b (st L + tl' L) c = un c := fun c hc hcb => by
        rw [upn hcb, upn hcb]; exact ⟨(y1 c hc).1, (y1 c hc).2.1⟩
      obtain ⟨hP', hkk⟩ := PT_div hP hb hLg hst' hsum' hpos hgp y3 hk2 hff hfu
      have hcl : ∀ c, c < m + g - 1 → (c < m ∧ c ≠ b) ∨ (cc1 c = 0 ∧ ∃ g', g' < g ∧ c = nnf b m L g') := by
        intro c hc
        by_cases e : c < m
        · by_cases e2 : c = b
          · exact Or.inr ⟨by rw [e2, (y1 b hb).2.2]; exact hcc, L, hLg, by rw [nn_L]; exact e2⟩
          · exact Or.inl ⟨e, e2⟩
        · obtain ⟨g', q1, q2, q3⟩ := nn_ex (b := b) hLg (by omega) hc
          exact Or.inr ⟨by rw [q3]; exact (y2 g' q1 q2).2.2, g', q1, q3⟩
      have cmb : ∀ i, fr b ≤ i → i < un b → cm (od i) = 0 := fun i q1 q2 => hC.2.2 b i hb (by rw [hcc]; omega) q2
      have hC' : PK (m + g - 1) od (va_up fr1 b (st L)) (va_up un1 b (st L + tl' L)) cc1 cm (dA σ = 0) := by
        refine ⟨fun c hc => ?_, fun c i hc q1 q2 => ?_, fun c i hc q1 q2 => ?_⟩
        · rcases hcl c hc with ⟨z1, z2⟩ | ⟨z1, g', z2, z3⟩
          · rw [(hff c z1 z2).1, (hff c z1 z2).2, (y1 c z1).2.2]; exact hC.1 c z1
          · rw [z1, z3, (hfu g' z2).1, (hfu g' z2).2]; omega
        · rcases hcl c hc with ⟨z1, z2⟩ | ⟨z1, g', z2, z3⟩
          · rw [(hff c z1 z2).1] at q1 q2
            rw [(y1 c z1).2.2] at q2
            exact hC.2.1 c i z1 q1 q2
          · rw [z1] at q2; omega
        · rcases hcl c hc with ⟨z1, z2⟩ | ⟨z1, g', z2, z3⟩
          · rw [(hff c z1 z2).1, (y1 c z1).2.2] at q1
            rw [(hff c z1 z2).2] at q2
            exact hC.2.2 c i z1 q1 q2
          · rw [z1, z3, (hfu g' z2).1] at q1
            rw [z3, (hfu g' z2).2] at q2
            have := hin g' z2
            exact cmb i (by omega) (by omega)
      have hQ' : PQ (m + g - 1) cc1 wt wc := by
        refine ⟨fun j hj => ⟨by have := (hQ.1 j hj).1; omega, by rw [(y1 _ (hQ.1 j hj).1).2.2]; exact (hQ.1 j hj).2⟩, hQ.2.1, fun c hc hp => ?_⟩
        rcases hcl c hc with ⟨z1, z2⟩ | ⟨z1, -⟩
        · rw [(y1 c z1).2.2] at hp; exact hQ.2.2 c z1 hp
        · omega
      refine k185 L kd1 (va_up fr1 b (st L)) (va_up un1 b (st L + tl' L)) cc1 hLg hP' hkk (fun s hs hne => ?_) (fun g' q1 q2 => hfu g' q1) (g - 1) m ρ5 wc od pl cc1 cm wt (by omega) (Nat.le_refl _) (Ag_tr hag (Ag_mono a5 (fun q h => h.elim (fun h => Or.inr (Or.inl (Or.inr (Or.inr (Or.inl h))))) (fun h => Or.inr (Or.inl (Or.inr (Or.inr (Or.inr (Or.inl h))))))))) (by rw [e5, e3]; exact hnr) ⟨⟨Hv_ag o1 a5 (by simp), Hv_ag c1 a5 (by simp), Hv_ag d1 a5 (by simp), ?_, ?_, ?_, Hv_ag m1 a5 (by simp), Hv_ag w1 a5 (by simp), ?_, ?_⟩, hP', hC', hQ', hcm⟩ MKx_rf (fun g' p q1 q2 q3 q4 => by rw [(a5 (34, 15, 0) (by simp)).2.1]; exact z1 g' p q1 q2 q3 q4) (fun s a kk x _ _ _ _ _ q1 q2 => absurd q2 (by omega))
      · by_cases e : kd s = b
        · rw [hk2 s hs e] at hne ⊢
          exact nn_new (fun z => hne (by rw [z, nn_L, e]))
        · exact absurd (y3 s hs e) hne
      · rw [e5, e3, show m + g - 1 = m + (g - 1) by omega]
        exact Hv_o (by decide) (Hv_s f1)
      · rw [e5, e3, show m + g - 1 = m + (g - 1) by omega]
        exact Hv_s (Hv_o (by decide) u1)
      · rw [show m + g - 1 = m + (g - 1) by omega]
        exact Hv_ag k1 a5 (by simp)
      · rw [(a5 (7, 0, 0) (by simp)).2.1, x0, show m + (g - 1) = m + g - 1 by omega]
      · rw [(a5 (7, 0, 0) (by simp)).2.1]; exact w11
    | succ dg ih =>
      intro g ρ1 kd1 fr1 un1 cc1 hdg hag hnr o1 c1 m1 w1 w11 t1 s1 z1 x0 d1 f1 u1 k1 y1 y2 y3 y4
      have hgg : g < gs := by omega
      refine T_Ki_divide_100 hG hM _ _ _ _ _ ρ1 ⟨fun z => absurd ((nI_leI (by omega) (by omega)).mp z) (by omega), fun _ => ?_⟩
      rw [nI_eq (by omega) (by omega), nI_1]
      refine ⟨fun z => ?_, fun z => ⟨in_nI (by rw [hnr]; omega) (by omega), in_nI (by rw [hnr]; omega) (by omega), in_nI (by rw [hnr]; omega) (by omega), ?_⟩⟩
      · rw [if_pos (by omega : g ≤ L)] at x0 f1 u1 k1
        have ei : (if g + 1 ≤ L then g + 1 else g + 1 - 1) = g := by rw [if_neg (by omega)]; omega
        refine ih (g + 1) ρ1 kd1 fr1 un1 cc1 (by omega) hag hnr o1 c1 m1 w1 w11 t1 s1 z1 (by rw [ei]; exact x0) d1 (by rw [ei]; exact f1) (by rw [ei]; exact u1) (by rw [ei]; exact k1) y1 (fun g' q1 q2 => y2 g' (by omega) q2) y3 (fun s hs e => ?_)
        rw [y4 s hs e]
        by_cases e2 : gp s < g ∧ gp s ≠ L
        · rw [if_pos e2, if_pos ⟨by omega, e2.2⟩]
        · rw [if_neg e2, if_neg (fun q => e2 ⟨by omega, q.2⟩)]
      · have eg : nnf b m L g = m + (if g ≤ L then g else g - 1) := by
          unfold nnf
          rw [if_neg z]
          by_cases e : g < L
          · rw [if_pos e, if_pos (by omega)]
          · rw [if_neg e, if_neg (by omega)]
        have eg1 : m + (if g + 1 ≤ L then g + 1 else g + 1 - 1) = nnf b m L g + 1 := by
          rw [eg]
          by_cases e : g < L
          · rw [if_pos (by omega), if_pos (by omega)]; omega
          · rw [if_neg (by omega), if_neg (by omega)]; omega
        have hlt := nn_lt (m := m) hb hLg hgg
        have hge := nn_new (b := b) (m := m) z
        have hig := hin g hgg
        rw [← eg] at x0 f1 u1 k1
        have s1g : iR ρ1 (34, 14, 0) g = nI (st g + tl' g) := s1 g hgg
        rw [nI_clamp (n := g) (by omega), s1g, t1 g hgg, nI_sb (Nat.le_add_left _ _), Nat.add_sub_cancel]
        refine c_open hG h4 (by rw [hnr]; exact hL0) o1 (fun i _ hi => hoN i (by omega)) d1 f1 u1 k1 (by omega) x0 (by omega) (by omega) (fun ad ρ2 kd2 g1 g2 g3 g4 g5 g6 g7 g8 g9 g10 => ⟨_, rfl, ?_⟩)
        have npos : ∀ s, s < nS σ → kd s = b → (gp s = g ↔ st g ≤ pl s ∧ pl s < st g + tl' g) := by
          intro s hs e
          obtain ⟨p1, p2, p3⟩ := hgp s hs e
          constructor
          · intro q; rw [← q]; exact ⟨p2, p3⟩
          · rintro ⟨q1, q2⟩
            refine st_dis (tl := tl') (at0 := fr b) (gs := gs) (p := pl s) p1 hgg ?_ ?_ ?_ ?_
            · rw [← hst']; exact p2
            · rw [← hst']; exact p3
            · rw [← hst']; exact q1
            · rw [← hst']; exact q2
        have hout : ∀ s, s < nS σ → ¬ (st g ≤ pl s ∧ pl s < st g + tl' g) → kd2 s = kd1 s := by
          intro s hs hno
          refine g3 s (fun i i1 i2 e => hno ?_)
          have := (hP.1 i (by omega)).2
          rw [e] at this
          rw [this]; exact ⟨i1, i2⟩
        have nne : ∀ g', g' < g → nnf b m L g' ≠ nnf b m L g := fun g' h e => by have := nn_inj hb e; omega
        refine ih (g + 1) ρ2 kd2 _ _ _ (by omega) (Ag_tr hag (Ag_mono g9 (fun q h => Or.inr (Or.inl h)))) (by rw [g10]; exact hnr) (Hv_ag o1 g9 (by simp [POp])) (Hv_ag c1 g9 (by simp [POp])) (Hv_ag m1 g9 (by simp [POp])) (Hv_ag w1 g9 (by simp [POp])) (by rw [g8]; exact w11) (Hv_ag t1 g9 (by simp [POp])) (Hv_ag s1 g9 (by simp [POp])) (fun g' p q1 q2 q3 q4 => by rw [(g9 (34, 15, 0) (by simp [POp])).2.1]; exact z1 g' p q1 q2 q3 q4) (by rw [eg1]; exact g7) g1 (by rw [eg1]; exact g4) (by rw [eg1]; exact g5) (by rw [eg1]; exact g6) (fun c hc => ?_) (fun g' q1 q2 => ?_) (fun s hs e => ?_) (fun s hs e => ?_)
        · rw [upn (by omega), upn (by omega), upn (by omega)]; exact y1 c hc
        · by_cases e : g' = g
          · rw [e, ups, ups, ups]; exact ⟨rfl, rfl, rfl⟩
          · rw [upn (nne g' (by omega)), upn (nne g' (by omega)), upn (nne g' (by omega))]; exact y2 g' (by omega) q2
        · rw [hout s hs (fun q => e ?_)]
          · exact y3 s hs e
          · have := hP.2.2.2.2 b (pl s) hb (by omega) (by omega)
            rw [(hP.2.1 s hs).2] at this; exact this
        · by_cases e2 : gp s = g
          · obtain ⟨p2, p3⟩ := (npos s hs e).mp e2
            rw [if_pos ⟨by omega, by rw [e2]; exact z⟩, e2]
            have := g2 (pl s) p2 p3
            rw [(hP.2.1 s hs).2] at this; exact this
          · rw [hout s hs (fun q => e2 ((npos s hs e).mpr q)), y4 s hs e]
            by_cases e3 : gp s < g ∧ gp s ≠ L
            · rw [if_pos e3, if_pos ⟨by omega, e3.2⟩]
            · rw [if_neg e3, if_neg (fun q => e3 ⟨by omega, q.2⟩)]
  -- the largest
  have k35 : ∀ dg g L ρ1, g + dg = gs → 1 ≤ g → L < g → Ag (fun q => q = (34, 13, 0) ∨ q = (34, 14, 0)) ρ ρ1 → nR ρ1 = nR ρ → Hv ρ1 (34, 13, 0) gs tl' → Hv ρ1 (34, 14, 0) gs (fun g => st g + tl' g) → Y G [] ad0 M Q 35 (fun ad => [(0, .ref (ad (7, 0, 0))), (1, .ref (ad (1, 0, 0))), (2, .int (nI b)), (3, .int (nI (fr b + T))), (4, .int (nI gs)), (5, .int (nI (un b))), (6, .int (nI L)), (7, .int (nI g))]) (fun ad => []) ρ1 := by
    intro dg
    induction dg with
    | zero =>
      intro g L ρ1 hdg hg1 hLg a1 n1 t1 s1
      have eg : g = gs := by omega
      subst eg
      have go : ∀ ρ2, Ag (fun q => q = (34, 13, 0) ∨ q = (34, 14, 0) ∨ q = (34, 15, 0)) ρ ρ2 → nR ρ2 = nR ρ → Hv ρ2 (34, 13, 0) g tl' → Hv ρ2 (34, 14, 0) g (fun g => st g + tl' g) → (∀ g' p, g' < g → g' ≠ L → st g' ≤ p → p < st g' + tl' g' → iR ρ2 (34, 15, 0) p = nI (od p)) → Y G [] ad0 M Q 100 (fun ad => [(0, .ref (ad (7, 0, 0))), (1, .ref (ad (1, 0, 0))), (2, .int (nI b)), (4, .int (nI g)), (6, .int (nI L)), (7, .int (iR ρ2 (7, 0, 0) 0)), (8, .int 0)]) (fun ad => []) ρ2 := by
        intro ρ2 a2 n2 t2 s2 z2
        have x2 : iR ρ2 (7, 0, 0) 0 = nI m := by rw [(a2 (7, 0, 0) (by simp)).2.1]; exact q0
        rw [x2]
        have e0 : m + (if 0 ≤ L then 0 else 0 - 1) = m := by rw [if_pos (by omega)]; omega
        refine k100 L hLg g 0 ρ2 kd fr un cc (by omega) (Ag_mono a2 (fun q h => Or.inr (Or.inr h))) n2 (Hv_ag r4 a2 (by simp)) (Hv_ag r5 a2 (by simp)) (Hv_ag r9 a2 (by simp)) (Hv_ag r10 a2 (by simp)) (by rw [(a2 (7, 0, 0) (by simp)).2.1]; exact q11) t2 s2 z2 (by rw [e0]; exact x2) (Hv_ag r2 a2 (by simp)) (by rw [e0]; exact Hv_ag r6 a2 (by simp)) (by rw [e0]; exact Hv_ag r7 a2 (by simp)) (by rw [e0]; exact Hv_ag r8 a2 (by simp)) (fun c _ => ⟨rfl, rfl, rfl⟩) (fun g' h => absurd h (by omega)) (fun s _ _ => rfl) (fun s _ e => ?_)
        rw [if_neg (fun h => by omega)]; exact e
      refine T_Ki_divide_35 hG hM _ _ _ _ _ _ ρ1 ⟨fun _ => ⟨fun z => ?_, fun z => ?_⟩, fun z => absurd ((nI_leI (by omega) (by omega)).mpr (Nat.le_refl _)) z⟩
      · have z : L = 0 := (nI_eq (b := 0) (by omega) (by decide)).mp z
        refine go ρ1 (Ag_mono a1 (fun q h => h.elim Or.inl (fun h => Or.inr (Or.inl h)))) n1 t1 s1 (fun g' p q1 q2 q3 q4 => ?_)
        have hsep := st_sep (tl := tl') (at0 := fr b) (gs := g) (g := g') (g' := 0) q1 (by omega) (Or.inr ⟨by omega, rfl⟩)
        rw [← hst'] at hsep
        have hig := hin g' q1
        have h0T : st 0 + tl 0 = fr b + T := by
          have := st_end (tl := tl) (at0 := fr b) (gs := g) (by omega)
          rw [← hst, hsum] at this; exact this
        rw [(a1 (34, 15, 0) (by simp)).2.1]
        exact h15 p (by omega) (by omega)
      · have e1 : nI (un b) - nI (fr b + T) = nI (un b - (fr b + T)) := nI_sb (by omega)
        rw [e1, nI_clamp (n := fr b + T) (by omega), nI_clamp (n := un b - (fr b + T)) (by omega)]
        refine ⟨nI_pos (by omega), nI_pos (by omega), nI_pos (by omega), by rw [n1]; omega, by rw [n1]; omega, fun ρ3 e3 => ?_⟩
        have a3 : Ag (fun q => q = (34, 15, 0)) ρ1 ρ3 := by rw [e3]; exact Ag_uI rfl
        refine go ρ3 (Ag_tr (Ag_mono a1 (fun q h => h.elim Or.inl (fun h => Or.inr (Or.inl h)))) (Ag_mono a3 (fun q h => Or.inr (Or.inr h)))) (by rw [e3]; exact n1) (Hv_ag t1 a3 (by simp)) (Hv_ag s1 a3 (by simp)) (fun g' p q1 q2 q3 q4 => ?_)
        have hig := hin g' q1
        have hu : ∀ F : Nat → Int32, iR (uI ρ1 (34, 15, 0) F) (34, 15, 0) = F := fun F => by show upR (iR ρ1) (34, 15, 0) F (34, 15, 0) = F; exact uR_s
        have o1 : Hv ρ1 (34, 4, 0) (nS σ) od := Hv_ag r4 a1 (by simp)
        rw [e3, hu]
        show (if fr b + T ≤ p ∧ p < fr b + T + (un b - (fr b + T)) then iR ρ1 (34, 4, 0) (fr b + T + (p - (fr b + T))) else iR ρ1 (34, 15, 0) p) = nI (od p)
        by_cases e : p < fr b + T
        · rw [if_neg (by omega), (a1 (34, 15, 0) (by simp)).2.1]; exact h15 p (by omega) e
        · rw [if_pos (by omega), show fr b + T + (p - (fr b + T)) = p by omega]; exact o1 p (by omega)
    | succ dg ih =>
      intro g L ρ1 hdg hg1 hLg a1 n1 t1 s1
      refine T_Ki_divide_35 hG hM _ _ _ _ _ _ ρ1 ⟨fun z => absurd ((nI_leI (by omega) (by omega)).mp z) (by omega), fun _ => ⟨in_nI (by rw [n1]; omega) (by omega), in_nI (by rw [n1]; omega) (by omega), fun z12 e12 => ?_⟩⟩
      rw [nI_1]
      by_cases e : (iR ρ1 (34, 13, 0) (Int32.toNatClampNeg (nI g))) ≤ (iR ρ1 (34, 13, 0) (Int32.toNatClampNeg (nI L)))
      · rw [if_pos e] at e12
        rw [e12]
        exact ih (g + 1) L ρ1 (by omega) (by omega) (by omega) a1 n1 t1 s1
      · rw [if_neg e] at e12
        rw [e12]
        exact ih (g + 1) g ρ1 (by omega) (by omega) (by omega) a1 n1 t1 s1
  refine T_Ki_divide_0 hG hM _ _ _ ρ ⟨in_nI (by omega) (by omega), in_nI (s := 0) (by omega) (by omega), in_nI (s := 0) (by omega) (by omega), ?_⟩
  rw [show Int32.toNatClampNeg 0 = 0 from rfl, nI_clamp (n := b) (by omega), r7 b hb, nI_sb (by omega), h13 0 (by omega), nI_ad]
  intro ρ3 e3
  refine ⟨in_nI (s := 0) (by rw [e3, nR_pI]; omega) (by omega), fun ρ4 e4 => ?_⟩
  have a4 : Ag (fun q => q = (34, 13, 0) ∨ q = (34, 14, 0)) ρ ρ4 := by rw [e4, e3]; exact Ag_tr (Ag_pI (Or.inl rfl)) (Ag_pI (Or.inr rfl))
  refine k35 (gs - 1) 1 0 ρ4 (by omega) (Nat.le_refl _) (by omega) a4 (by rw [e4, e3]; rfl) ?_ (fun g hg => ?_)
  · rw [e4, e3, et]; exact Hv_o (by decide) (Hv_s h13)
  · show iR ρ4 (34, 14, 0) g = nI (st g + tl' g)
    have h14g : iR ρ (34, 14, 0) g = nI (st g + tl g) := h14 g hg
    rw [e4, iR_pI]
    by_cases e : g = 0
    · rw [if_pos ⟨rfl, e⟩, e, h0e]
    · rw [if_neg (fun z => e z.2), e3, iR_pI, if_neg (by simp), h14g, et, upn e]
end B34
