/-! KINDS: the changed states of a class sorted by their groups -/
theorem DS_full {od srt h st sp : Nat → Nat} {at0 T gs : Nat} (h0 : 1 ≤ gs) (hst : st = stf (fun g => tlf h at0 T g) at0 gs) (hh : ∀ y, y < T → h (at0 + y) < gs) (H : DS od srt h st sp at0 T gs) : (∀ p, at0 ≤ p → p < at0 + T → ∃ g y, g < gs ∧ st g ≤ p ∧ p < sp g ∧ y < T ∧ srt p = od (at0 + y) ∧ h (at0 + y) = g) ∧ ∀ p p', at0 ≤ p → p < at0 + T → at0 ≤ p' → p' < at0 + T → srt p = srt p' → p = p' := by
  obtain ⟨h1, h2, h3, h4⟩ := H
  have at1 : ∀ p, at0 ≤ p → p < at0 + T → ∃ g y, g < gs ∧ st g ≤ p ∧ p < sp g ∧ y < T ∧ srt p = od (at0 + y) ∧ h (at0 + y) = g := by
    intro p p1 p2
    obtain ⟨g, g1, g2, g3⟩ := st_cov (tl := fun g => tlf h at0 T g) (at0 := at0) (gs := gs) (p := p) h0 p1 (by rw [tlf_sum hh]; exact p2)
    rw [← hst] at g2 g3
    have g4 : p < sp g := by rw [h1 g g1]; exact g3
    obtain ⟨y, y1, y2, y3⟩ := h2 g p g1 g2 g4
    exact ⟨g, y, g1, g2, g4, y1, y2, y3⟩
  refine ⟨at1, fun p p' p1 p2 q1 q2 e => ?_⟩
  obtain ⟨g, y, c1, c2, c3, -⟩ := at1 p p1 p2
  obtain ⟨g', y', d1, d2, d3, -⟩ := at1 p' q1 q2
  exact h4 g p g' p' c1 d1 c2 c3 d2 d3 e
def PSo (q : Ro) : Prop := q = (34, 4, 0) ∨ q = (34, 5, 0) ∨ q = (34, 13, 0) ∨ q = (34, 14, 0) ∨ q = (34, 15, 0)
section B33
variable {G : Gc} {ρ : Rs} {K : (Ro → Nat) → Option Value → Rs → Prop}
theorem c_sort (hG : gok G) {N m b T gs : Nat} {od pl kd fr un gr : Nat → Nat} (hN : N ≤ 4096) (hL : KLn (nR ρ) N) (hn13 : nR ρ (34, 13, 0) < 2 ^ 31) (hod : Hv ρ (34, 4, 0) N od) (hpl : Hv ρ (34, 5, 0) N pl) (hP : PT N m od pl kd fr un) (hb : b < m) (hT : fr b + T ≤ un b) (hgr : Hv ρ (34, 12, 0) N gr) (hg : ∀ i, fr b ≤ i → i < fr b + T → gr (od i) < gs) (h0 : 1 ≤ gs) (hgN : gs ≤ N)
    (k : ∀ ad ρ' (od' pl' : Nat → Nat), Hv ρ' (34, 4, 0) N od' → Hv ρ' (34, 5, 0) N pl' → PT N m od' pl' kd fr un → Hv ρ' (34, 13, 0) gs (fun g => tlf (fun i => gr (od i)) (fr b) T g) → Hv ρ' (34, 14, 0) gs (fun g => stf (fun g => tlf (fun i => gr (od i)) (fr b) T g) (fr b) gs g + tlf (fun i => gr (od i)) (fr b) T g) → (∀ p, fr b ≤ p → p < fr b + T → iR ρ' (34, 15, 0) p = nI (od' p)) → (∀ p, fr b ≤ p → p < fr b + T → ∃ g, g < gs ∧ stf (fun g => tlf (fun i => gr (od i)) (fr b) T g) (fr b) gs g ≤ p ∧ p < stf (fun g => tlf (fun i => gr (od i)) (fr b) T g) (fr b) gs g + tlf (fun i => gr (od i)) (fr b) T g ∧ gr (od' p) = g) → (∀ p, ¬ (fr b ≤ p ∧ p < fr b + T) → od' p = od p) → Ag PSo ρ ρ' → nR ρ' = nR ρ → K ad none ρ') :
    semV G r_Ki_sortByGroup [] (fun ad => [.ref (ad (7, 0, 0)), .int (nI (fr b)), .int (nI (fr b + T)), .int (nI gs)]) ρ K := by
  obtain ⟨l1, -⟩ := hL
  have l4 := l1 4 (by omega); have l5 := l1 5 (by omega); have l12 := l1 12 (by omega); have l13 := l1 13 (by omega); have l14 := l1 14 (by omega); have l15 := l1 15 (by omega)
  have hun := (hP.2.2.1 b hb).2
  obtain ⟨h, eh⟩ : ∃ h : Nat → Nat, h = fun i => gr (od i) := ⟨_, rfl⟩
  obtain ⟨tl, etl⟩ : ∃ tl : Nat → Nat, tl = fun g => tlf h (fr b) T g := ⟨_, rfl⟩
  obtain ⟨st, est⟩ : ∃ st : Nat → Nat, st = stf tl (fr b) gs := ⟨_, rfl⟩
  have hh : ∀ y, y < T → h (fr b + y) < gs := fun y hy => by rw [eh]; exact hg _ (by omega) (by omega)
  have hoN : ∀ i, i < N → od i < N := fun i hi => (hP.1 i hi).1
  have hoi : ∀ i j, i < N → j < N → od i = od j → i = j := fun i j hi hj e => by rw [← (hP.1 i hi).2, e]; exact (hP.1 j hj).2
  have hod2 : ∀ y y', y < y' → y' < T → od (fr b + y) ≠ od (fr b + y') := fun y y' h1 h2 e => by have := hoi _ _ (by omega) (by omega) e; omega
  have tlT : ∀ n g, n ≤ T → tlf h (fr b) n g ≤ T := fun n g hn => Nat.le_trans (by unfold tlf; exact cnt_le _ _) hn
  have stin : ∀ g, g < gs → fr b ≤ st g ∧ st g + tl g ≤ fr b + T := by
    intro g hg2
    have := st_in (tl := tl) (at0 := fr b) hg2
    rw [← est] at this
    refine ⟨this.1, ?_⟩
    have e2 : sm tl gs = T := by rw [etl]; exact tlf_sum hh
    rw [e2] at this
    exact this.2
  rw [← eh] at k
  rw [← etl] at k
  rw [← est] at k
  refine semV_intro yk_Ki_sortByGroup.2.2.2.2 (fun _ => Nat.le_of_ble_eq_true rfl) (fun M Q ad0 hM => ?_)
  -- putting back
  have k155 : ∀ (srt sp : Nat → Nat), DS od srt h st sp (fr b) T gs → ∀ dd i ρ1 (pl1 : Nat → Nat), i + dd = fr b + T → fr b ≤ i → Ag PSo ρ ρ1 → nR ρ1 = nR ρ → (∀ p, p < N → iR ρ1 (34, 4, 0) p = nI (if fr b ≤ p ∧ p < i then srt p else od p)) → Hv ρ1 (34, 5, 0) N pl1 → (∀ p, fr b ≤ p → p < i → pl1 (srt p) = p) → (∀ s, (∀ p, fr b ≤ p → p < i → srt p ≠ s) → pl1 s = pl s) → Hv ρ1 (34, 13, 0) gs tl → Hv ρ1 (34, 14, 0) gs sp → (∀ p, fr b ≤ p → p < fr b + T → iR ρ1 (34, 15, 0) p = nI (srt p)) → Y G [] ad0 M Q 155 (fun ad => [(0, .ref (ad (7, 0, 0))), (2, .int (nI (fr b + T))), (5, .int (nI i))]) (fun ad => []) ρ1 := by
    intro srt sp hDS
    obtain ⟨ds1, ds2⟩ := DS_full h0 (by rw [est, etl]) hh hDS
    have srN : ∀ p, fr b ≤ p → p < fr b + T → srt p < N := by
      intro p p1 p2
      obtain ⟨g, y, -, -, -, y1, y2, -⟩ := ds1 p p1 p2
      rw [y2]; exact hoN _ (by omega)
    intro dd
    induction dd with
    | zero =>
      intro i ρ1 pl1 hdd hi a1 n1 o1 c1 c2 c3 t1 s1 r1
      have ei : i = fr b + T := by omega
      subst ei
      refine T_Ki_sortByGroup_155 hG hM _ _ ρ1 ⟨fun _ ad => ?_, fun z => absurd ((nI_leI (by omega) (by omega)).mpr (Nat.le_refl _)) z⟩
      obtain ⟨p1, p2⟩ := PT_sort (od' := fun p => if fr b ≤ p ∧ p < fr b + T then srt p else od p) (pl' := pl1) hP hb hT h0 (by rw [est, etl]) hh hDS (fun _ => rfl) c2 c3
      refine k ad ρ1 (fun p => if fr b ≤ p ∧ p < fr b + T then srt p else od p) pl1 o1 c1 p1 t1 (fun g hg2 => ?_) (fun p h1 h2 => ?_) (fun p h1 h2 => ?_) (fun p hp => if_neg hp) a1 n1
      · rw [s1 g hg2, hDS.1 g hg2]
      · rw [r1 p h1 h2, if_pos ⟨h1, h2⟩]
      · obtain ⟨g, y, g1, g2, g3, g4, g5, g6⟩ := p2 p h1 h2
        refine ⟨g, g1, g2, g3, ?_⟩
        rw [g5, ← g6, eh]
    | succ dd ih =>
      intro i ρ1 pl1 hdd hi a1 n1 o1 c1 c2 c3 t1 s1 r1
      have hiN : i < N := by omega
      have hsr := srN i hi (by omega)
      refine T_Ki_sortByGroup_155 hG hM _ _ ρ1 ⟨fun z => absurd ((nI_leI (by omega) (by omega)).mp z) (by omega), fun _ => ⟨in_nI (by rw [n1]; omega) (by omega), in_nI (by rw [n1]; omega) (by omega), ?_⟩⟩
      rw [nI_clamp (n := i) (by omega), r1 i hi (by omega), nI_1]
      intro ρ3 e3
      have g4 : iR ρ3 (34, 4, 0) i = nI (srt i) := by rw [e3, iR_pI, if_pos ⟨rfl, rfl⟩]
      rw [g4, nI_clamp (n := srt i) (by omega)]
      refine ⟨in_nI (by rw [e3, nR_pI, n1]; omega) (by omega), in_nI (by rw [e3, nR_pI, n1]; omega) (by omega), fun ρ5 e5 => ?_⟩
      have a5 : Ag (fun q => q = (34, 4, 0) ∨ q = (34, 5, 0)) ρ1 ρ5 := by rw [e5, e3]; exact Ag_tr (Ag_pI (Or.inl rfl)) (Ag_pI (Or.inr rfl))
      refine ih (i + 1) ρ5 (va_up pl1 (srt i) i) (by omega) (by omega) (Ag_tr a1 (Ag_mono a5 (fun q h => h.elim Or.inl (fun h => Or.inr (Or.inl h))))) (by rw [e5, e3]; exact n1) (fun p hp => ?_) ?_ (fun p h1 h2 => ?_) (fun s hs => ?_) (Hv_ag t1 a5 (by simp)) (Hv_ag s1 a5 (by simp)) (fun p h1 h2 => by rw [(a5 (34, 15, 0) (by simp)).2.1]; exact r1 p h1 h2)
      · rw [e5, iR_pI, if_neg (by simp), e3, iR_pI]
        by_cases e : p = i
        · rw [if_pos ⟨rfl, e⟩, e, if_pos ⟨hi, by omega⟩]
        · rw [if_neg (fun z => e z.2), o1 p hp]
          by_cases e2 : fr b ≤ p ∧ p < i
          · rw [if_pos e2, if_pos ⟨e2.1, by omega⟩]
          · rw [if_neg e2, if_neg (fun z => e2 ⟨z.1, by omega⟩)]
      · rw [e5]
        refine Hv_s ?_
        rw [e3]; exact Hv_o (by decide) c1
      · by_cases e : p = i
        · rw [e, ups]
        · have : srt p ≠ srt i := fun z => e (ds2 p i h1 (by omega) hi (by omega) z)
          rw [upn this]; exact c2 p h1 (by omega)
      · rw [upn (fun z => hs i hi (by omega) z.symm)]
        exact c3 s (fun p h1 h2 => hs p h1 (by omega))
  -- distributing
  have k96 : ∀ dd n ρ1 (srt sp : Nat → Nat), n + dd = T → Ag PSo ρ ρ1 → nR ρ1 = nR ρ → Hv ρ1 (34, 4, 0) N od → Hv ρ1 (34, 5, 0) N pl → Hv ρ1 (34, 13, 0) gs tl → Hv ρ1 (34, 14, 0) gs sp → (∀ g p, g < gs → st g ≤ p → p < sp g → iR ρ1 (34, 15, 0) p = nI (srt p)) → DS od srt h st sp (fr b) n gs → Y G [] ad0 M Q 96 (fun ad => [(0, .ref (ad (7, 0, 0))), (1, .int (nI (fr b))), (2, .int (nI (fr b + T))), (5, .int (nI (fr b + n)))]) (fun ad => []) ρ1 := by
    intro dd
    induction dd with
    | zero =>
      intro n ρ1 srt sp hdd a1 n1 o1 c1 t1 s1 r1 hDS
      have en : n = T := by omega
      subst en
      refine T_Ki_sortByGroup_96 hG hM _ _ _ ρ1 ⟨fun _ => ?_, fun z => absurd ((nI_leI (by omega) (by omega)).mpr (Nat.le_refl _)) z⟩
      obtain ⟨ds1, -⟩ := DS_full h0 (by rw [est, etl]) hh hDS
      exact k155 srt sp hDS n (fr b) ρ1 pl (by omega) (Nat.le_refl _) a1 n1 (fun p hp => by rw [if_neg (by omega)]; exact o1 p hp) c1 (fun p h1 h2 => absurd h2 (by omega)) (fun _ _ => rfl) t1 s1 (fun p h1 h2 => by
        obtain ⟨g, y, g1, g2, g3, -⟩ := ds1 p h1 h2
        exact r1 g p g1 g2 g3)
    | succ dd ih =>
      intro n ρ1 srt sp hdd a1 n1 o1 c1 t1 s1 r1 hDS
      have hnT : n < T := by omega
      have hiN : fr b + n < N := by omega
      have hso := hoN _ hiN
      have hgn := hh n hnT
      obtain ⟨dn, p1, p2⟩ := DS_nx (by rw [est, etl]) hod2 hnT hh hDS
      have ehn : gr (od (fr b + n)) = h (fr b + n) := by rw [eh]
      have g1 : Hv ρ1 (34, 12, 0) N gr := Hv_ag hgr a1 (by simp [PSo])
      refine T_Ki_sortByGroup_96 hG hM _ _ _ ρ1 ⟨fun z => absurd ((nI_leI (by omega) (by omega)).mp z) (by omega), fun _ => ⟨in_nI (by rw [n1]; omega) (by omega), ?_⟩⟩
      rw [nI_clamp (n := fr b + n) (by omega), o1 _ hiN, nI_clamp (n := od (fr b + n)) (by omega), g1 _ hso, ehn, nI_clamp (n := h (fr b + n)) (by omega), s1 _ hgn, nI_clamp (n := sp (h (fr b + n))) (by omega), nI_1]
      refine ⟨in_nI (by rw [n1]; omega) (by omega), in_nI (by rw [n1]; omega) (by omega), in_nI (by rw [n1]; omega) (by omega), in_nI (by rw [n1]; omega) (by omega), fun ρ9 e9 => ?_⟩
      have s9 : iR ρ9 (34, 14, 0) (h (fr b + n)) = nI (sp (h (fr b + n))) := by rw [e9, iR_pI, if_neg (by simp)]; exact s1 _ hgn
      rw [s9, nI_1]
      refine ⟨in_nI (by rw [e9, nR_pI, n1]; omega) (by omega), in_nI (by rw [e9, nR_pI, n1]; omega) (by omega), fun ρ11 e11 => ?_⟩
      have a11 : Ag (fun q => q = (34, 15, 0) ∨ q = (34, 14, 0)) ρ1 ρ11 := by rw [e11, e9]; exact Ag_tr (Ag_pI (Or.inl rfl)) (Ag_pI (Or.inr rfl))
      refine ih (n + 1) ρ11 _ _ (by omega) (Ag_tr a1 (Ag_mono a11 (fun q h => h.elim (fun h => Or.inr (Or.inr (Or.inr (Or.inr h)))) (fun h => Or.inr (Or.inr (Or.inr (Or.inl h))))))) (by rw [e11, e9]; exact n1) (Hv_ag o1 a11 (by simp)) (Hv_ag c1 a11 (by simp)) (Hv_ag t1 a11 (by simp)) ?_ (fun g p hgs q1 q2 => ?_) dn
      · rw [e11]
        refine Hv_s ?_
        rw [e9]; exact Hv_o (by decide) s1
      · rw [e11, iR_pI, if_neg (by simp), e9, iR_pI]
        by_cases e : p = sp (h (fr b + n))
        · rw [if_pos ⟨rfl, e⟩, e, ups]
        · rw [if_neg (fun z => e z.2), upn e]
          refine r1 g p hgs q1 ?_
          by_cases e2 : g = h (fr b + n)
          · rw [e2, ups] at q2
            rw [e2]; omega
          · rw [upn e2] at q2; exact q2
  -- where groups begin
  have k52 : ∀ dd g ρ1 (s0 : Nat → Nat), g + dd = gs → 1 ≤ g → Ag PSo ρ ρ1 → nR ρ1 = nR ρ → Hv ρ1 (34, 4, 0) N od → Hv ρ1 (34, 5, 0) N pl → Hv ρ1 (34, 13, 0) gs tl → (∀ g', 1 ≤ g' → g' < g → iR ρ1 (34, 14, 0) g' = nI (st g')) → Y G [] ad0 M Q 52 (fun ad => [(0, .ref (ad (7, 0, 0))), (1, .int (nI (fr b))), (2, .int (nI (fr b + T))), (3, .int (nI gs)), (4, .int (nI (fr b + sm (fun y => tl (y + 1)) (g - 1)))), (5, .int (nI g))]) (fun ad => []) ρ1 := by
    intro dd
    induction dd with
    | zero =>
      intro g ρ1 s0 hdd hg1 a1 n1 o1 c1 t1 s1
      have eg : g = gs := by omega
      subst eg
      refine T_Ki_sortByGroup_52 hG hM _ _ _ _ _ ρ1 ⟨fun _ => ⟨in_nI (s := 0) (by rw [n1]; omega) (by omega), ?_⟩, fun z => absurd ((nI_leI (by omega) (by omega)).mpr (Nat.le_refl _)) z⟩
      rw [show Int32.toNatClampNeg 0 = 0 from rfl]
      intro ρ2 e2
      have a2 : Ag (fun q => q = (34, 14, 0)) ρ1 ρ2 := by rw [e2]; exact Ag_pI rfl
      have hst0 : st 0 = fr b + sm (fun y => tl (y + 1)) (g - 1) := by rw [est]; unfold stf; rw [if_pos rfl]
      refine k96 T 0 ρ2 (fun _ => 0) st (by omega) (Ag_tr a1 (Ag_mono a2 (fun q h => Or.inr (Or.inr (Or.inr (Or.inl h)))))) (by rw [e2]; exact n1) (Hv_ag o1 a2 (by simp)) (Hv_ag c1 a2 (by simp)) (Hv_ag t1 a2 (by simp)) (fun g' hg' => ?_) (fun g' p _ q1 q2 => absurd q2 (by omega)) ⟨fun g' _ => rfl, fun g' p _ q1 q2 => absurd q2 (by omega), fun y hy => absurd hy (by omega), fun g' p g'' p' _ _ q1 q2 => absurd q2 (by omega)⟩
      rw [e2, iR_pI]
      by_cases e : g' = 0
      · rw [if_pos ⟨rfl, e⟩, e, hst0]
      · rw [if_neg (fun z => e z.2)]; exact s1 g' (by omega) hg'
    | succ dd ih =>
      intro g ρ1 s0 hdd hg1 a1 n1 o1 c1 t1 s1
      have hgg : g < gs := by omega
      have hstg : st g = fr b + sm (fun y => tl (y + 1)) (g - 1) := by rw [est]; unfold stf; rw [if_neg (by omega)]
      have hsi := stin g hgg
      refine T_Ki_sortByGroup_52 hG hM _ _ _ _ _ ρ1 ⟨fun z => absurd ((nI_leI (by omega) (by omega)).mp z) (by omega), fun _ => ⟨in_nI (by rw [n1]; omega) (by omega), ?_⟩⟩
      rw [nI_clamp (n := g) (by omega), ← hstg]
      intro ρ3 e3
      have a3 : Ag (fun q => q = (34, 14, 0)) ρ1 ρ3 := by rw [e3]; exact Ag_pI rfl
      have t3 : iR ρ3 (34, 13, 0) g = nI (tl g) := Hv_ag t1 a3 (by simp) g hgg
      rw [t3, nI_ad, nI_1]
      refine ⟨in_nI (by rw [e3, nR_pI, n1]; omega) (by omega), ?_⟩
      have enx : st g + tl g = fr b + sm (fun y => tl (y + 1)) (g + 1 - 1) := by
        rw [hstg, show g + 1 - 1 = (g - 1) + 1 by omega]
        show _ = fr b + (sm (fun y => tl (y + 1)) (g - 1) + tl (g - 1 + 1))
        rw [show g - 1 + 1 = g by omega]; omega
      rw [enx]
      refine ih (g + 1) ρ3 s0 (by omega) (by omega) (Ag_tr a1 (Ag_mono a3 (fun q h => Or.inr (Or.inr (Or.inr (Or.inl h)))))) (by rw [e3]; exact n1) (Hv_ag o1 a3 (by simp)) (Hv_ag c1 a3 (by simp)) (Hv_ag t1 a3 (by simp)) (fun g' q1 q2 => ?_)
      rw [e3, iR_pI]
      by_cases e : g' = g
      · rw [if_pos ⟨rfl, e⟩, e]
      · rw [if_neg (fun z => e z.2)]; exact s1 g' q1 (by omega)
  -- counting
  have k13 : ∀ dd n ρ1, n + dd = T → Ag PSo ρ ρ1 → nR ρ1 = nR ρ → Hv ρ1 (34, 4, 0) N od → Hv ρ1 (34, 5, 0) N pl → Hv ρ1 (34, 13, 0) gs (fun g => tlf h (fr b) n g) → Y G [] ad0 M Q 13 (fun ad => [(0, .ref (ad (7, 0, 0))), (1, .int (nI (fr b))), (2, .int (nI (fr b + T))), (3, .int (nI gs)), (4, .int (nI (fr b + n)))]) (fun ad => []) ρ1 := by
    intro dd
    induction dd with
    | zero =>
      intro n ρ1 hdd a1 n1 o1 c1 t1
      have en : n = T := by omega
      subst en
      refine T_Ki_sortByGroup_13 hG hM _ _ _ _ ρ1 ⟨fun _ => ?_, fun z => absurd ((nI_leI (by omega) (by omega)).mpr (Nat.le_refl _)) z⟩
      have := k52 (gs - 1) 1 ρ1 (fun _ => 0) (by omega) (Nat.le_refl _) a1 n1 o1 c1 (by rw [etl]; exact t1) (fun g' q1 q2 => absurd q2 (by omega))
      exact this
    | succ dd ih =>
      intro n ρ1 hdd a1 n1 o1 c1 t1
      have hnT : n < T := by omega
      have hiN : fr b + n < N := by omega
      have hso := hoN _ hiN
      have hgn := hh n hnT
      have ehn : gr (od (fr b + n)) = h (fr b + n) := by rw [eh]
      have g1 : Hv ρ1 (34, 12, 0) N gr := Hv_ag hgr a1 (by simp [PSo])
      refine T_Ki_sortByGroup_13 hG hM _ _ _ _ ρ1 ⟨fun z => absurd ((nI_leI (by omega) (by omega)).mp z) (by omega), fun _ => ⟨in_nI (by rw [n1]; omega) (by omega), ?_⟩⟩
      rw [nI_clamp (n := fr b + n) (by omega), o1 _ hiN, nI_clamp (n := od (fr b + n)) (by omega), g1 _ hso, ehn, nI_clamp (n := h (fr b + n)) (by omega), t1 _ hgn, nI_1, nI_1]
      refine ⟨in_nI (by rw [n1]; omega) (by omega), in_nI (by rw [n1]; omega) (by omega), in_nI (by rw [n1]; omega) (by omega), fun ρ7 e7 => ?_⟩
      have a7 : Ag (fun q => q = (34, 13, 0)) ρ1 ρ7 := by rw [e7]; exact Ag_pI rfl
      refine ih (n + 1) ρ7 (by omega) (Ag_tr a1 (Ag_mono a7 (fun q h => Or.inr (Or.inr (Or.inl h))))) (by rw [e7]; exact n1) (Hv_ag o1 a7 (by simp)) (Hv_ag c1 a7 (by simp)) (fun g hg2 => ?_)
      show iR ρ7 (34, 13, 0) g = nI (tlf h (fr b) (n + 1) g)
      rw [e7, iR_pI, tlf_s]
      by_cases e : g = h (fr b + n)
      · rw [if_pos ⟨rfl, e⟩, if_pos e.symm, e]
      · rw [if_neg (fun z => e z.2), if_neg (fun z => e z.symm)]; exact t1 g hg2
  refine T_Ki_sortByGroup_0 hG hM _ _ _ ρ ?_
  refine c_fill (a := 0) (b := gs) hG rfl rfl (by omega) (by omega) hn13 (fun ad => ⟨rfl, ?_⟩)
  have a2 : Ag (fun q => q = (34, 13, 0)) ρ (uI ρ (34, 13, 0) (filR (iR ρ (34, 13, 0)) 0 gs 0)) := Ag_uI rfl
  refine k13 T 0 _ (by omega) (Ag_mono a2 (fun q h => Or.inr (Or.inr (Or.inl h)))) rfl (Hv_ag hod a2 (by simp)) (Hv_ag hpl a2 (by simp)) (fun g hg2 => ?_)
  show upR (iR ρ) (34, 13, 0) _ (34, 13, 0) g = 0
  rw [uR_s]
  exact if_pos ⟨by omega, hg2⟩
end B33
