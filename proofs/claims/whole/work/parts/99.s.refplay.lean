/-! THE REFERENCE ANSWERS: play, plays -/
theorem MR_l {ρ : Rs} {σ : Wd} (h : ML ρ σ) : MR ρ σ := ⟨h.1, h.2.1, h.2.2.1⟩
section B60
variable {G : Gc} {ρ : Rs} {K : (Ro → Nat) → Option Value → Rs → Prop}
theorem cM_play (hG : gok G) {σ : Wd} {v w : Int32} (h : RMo ρ σ) (hW : Wok σ) (k : ∀ ad ρ' r, RMo ρ' σ → anPy σ v w r → Ag PMo ρ ρ' → K ad (some (.int r)) ρ') : semV G r_Mo_play [] (fun ad => [.ref (ad (40, 0, 0)), .int v, .int w]) ρ K := by
  have hN := hW.2.2.1
  have hB := hW.2.2.2.1
  have h12 := hW.2.2.2.2.1
  have h3 : ∀ a, a < dA σ → dO σ a ≤ 3 := fun a ha => (hW.2.2.2.2.2.1 a ha).2
  refine semV_intro yk_Mo_play.2.2.2.2 (fun _ => Nat.le_of_ble_eq_true rfl) (fun M Q ad0 hM => ?_)
  refine T_Mo_play_0 hG hM _ _ ρ ?_
  refine c_isIn hG (fun hw ad => ⟨_, rfl, fun z => absurd z (by decide), fun _ => ?_⟩) (fun hw ad => ⟨_, rfl, fun _ ad => k ad ρ _ h (Or.inl ⟨fun z => hw (in_3.mpr z), rfl⟩) Ag_rf, fun z => absurd rfl z⟩)
  have hw3 := in_3.mp hw
  refine c_Mo_lay hG h hW (fun ad ρ1 hr hl hag => ⟨rfl, ?_⟩)
  have hR1 := MR_l hl
  obtain ⟨l1, l2, l3, -, l7⟩ := hl
  obtain ⟨d, n1, m1, r1⟩ := l7 1 (by omega) (by omega)
  have r1 : ∀ s, s < nS σ → iR ρ1 (41, 20, 0) s = oI (d s) := r1
  have hd : ∀ s n, d s = some n ↔ isL (CZ σ ZMay) (aimP σ) s n := n1
  rw [hr.1.2.1, nI_clamp (by omega), r1 _ hB]
  refine ⟨vp_in_nI (by omega) (by omega), ?_⟩
  have no : ¬ (∃ i m, v = nI i ∧ d (dB σ) = some m ∧ i < m) → ∀ ad, K ad (some (.int (-1))) ρ1 := fun hno ad => k ad ρ1 _ hr (Or.inr ⟨hw3, d, n1, Or.inl ⟨hno, rfl⟩⟩) hag
  cases hdB : d (dB σ) with
  | none =>
    refine c_isIn hG (fun hin => ?_) (fun _ ad => ⟨_, rfl, fun _ => no (fun ⟨i, m, _, z, _⟩ => by rw [hdB] at z; cases z), fun z => absurd rfl z⟩)
    exfalso
    obtain ⟨h1, h2⟩ := hin
    rw [Int32.lt_iff_toInt_lt] at h1 h2
    have e0 : (0 : Int32).toInt = 0 := rfl
    have e2 : (oI none - 1).toInt = -2 := by decide
    omega
  | some m =>
    have hmN := (m1 _ m hdB).2
    refine c_isIn0 (n := m) hG (by omega) (fun hin ad => ⟨_, rfl, fun z => absurd z (by decide), fun _ => ?_⟩) (fun hin ad => ⟨_, rfl, fun _ => no (fun ⟨i, m', e, z, y⟩ => by
      rw [hdB] at z; cases z
      exact hin (by rw [e]; exact in_nI y (by omega))), fun z => absurd rfl z⟩)
    obtain ⟨i, hi, ev⟩ := vp_in_of hin (by omega)
    subst ev
    rw [hr.1.2.1]
    have k48 : ∀ (dk kk s x : Nat), kk + dk = i + 1 → s < nS σ → x < 36 → d s = some (m - kk) → ((kk = 0 ∧ s = dB σ) ∨ ∃ k', kk = k' + 1 ∧ pthX σ d k' x s) → Y G [] ad0 M Q 48 (fun ad => [(0, .ref (ad (40, 0, 0))), (1, .int (nI i)), (2, .int w), (3, .int (nI s)), (4, .int (nI x)), (5, .int (nI kk))]) (fun ad => []) ρ1 := by
      intro dk
      induction dk with
      | zero =>
        intro kk s x hk hs hx hds hJ
        have ek : kk = i + 1 := by omega
        subst ek
        refine T_Mo_play_48 hG hM _ _ _ _ _ ρ1 ⟨fun _ z1 e1 ad => ?_, fun z => absurd ((nI_ltI (by omega) (by omega)).mpr (by omega)) z⟩
        have hp : pthX σ d i x s := by
          rcases hJ with ⟨z, _⟩ | ⟨k', z, hp⟩
          · omega
          · have : k' = i := by omega
            subst this; exact hp
        rw [rem3 (by omega), div3 (by omega)] at e1
        refine k ad ρ1 _ hr (Or.inr ⟨hw3, d, n1, Or.inr ⟨i, m, x, s, rfl, hdB, hi, by omega, hp, ?_⟩⟩) hag
        obtain ⟨z, hz, ez⟩ := vp_in_of hw3 (by omega)
        have : z = 0 ∨ z = 1 ∨ z = 2 := by omega
        rcases this with y | y | y <;> subst y
        · left; refine ⟨ez, ?_⟩
          rw [e1, if_pos (show w = 0 from ez)]
        · right; left; refine ⟨ez, ?_⟩
          rw [e1, if_neg (by rw [ez]; decide), if_pos (show w = 1 from ez)]
        · right; right; refine ⟨ez, ?_⟩
          rw [e1, if_neg (by rw [ez]; decide), if_neg (by rw [ez]; decide)]
      | succ dk ih =>
        intro kk s x hk hs hx hds hJ
        refine T_Mo_play_48 hG hM _ _ _ _ _ ρ1 ⟨fun z => absurd ((nI_ltI (by omega) (by omega)).mp z) (by omega), fun _ => ?_⟩
        obtain ⟨n, en⟩ : ∃ n, m - kk = n + 1 := ⟨m - kk - 1, by omega⟩
        rw [en] at hds
        obtain ⟨q1, t0, q2, q3⟩ := may_step hd hs hds
        obtain ⟨x0, hx0, hxt0⟩ := (nxX_stp h3).mp q2
        have k57 : ∀ (dx y : Nat), y + dx = x0 → (∀ y' u, y' < y → nxX σ s y' = some u → d u ≠ some n) → Y G [] ad0 M Q 57 (fun ad => [(0, .ref (ad (40, 0, 0))), (1, .int (nI i)), (2, .int w), (3, .int (nI s)), (4, .int (nI y)), (5, .int (nI kk))]) (fun ad => []) ρ1 := by
          intro dx
          -- the step is found
          have found : ∀ y t, y < 3 * dA σ → nxX σ s y = some t → d t = some n → (∀ y' u, y' < y → nxX σ s y' = some u → d u ≠ some n) → Y G [] ad0 M Q 48 (fun ad => [(0, .ref (ad (40, 0, 0))), (1, .int (nI i)), (2, .int w), (3, .int (nI t)), (4, .int (nI y)), (5, .int (nI (kk + 1)))]) (fun ad => []) ρ1 := by
            intro y t hy ht hdt hmin
            have hf : fstX σ d s y t := ⟨n, hds, hy, ht, hdt, hmin⟩
            refine ih (kk + 1) t y (by omega) (nxX_lt hW hy ht) (by omega) (by rw [hdt]; congr 1; omega) (Or.inr ⟨kk, rfl, ?_⟩)
            rcases hJ with ⟨z, zs⟩ | ⟨k', z, hp⟩
            · subst z; subst zs; exact hf
            · subst z; exact ⟨x, s, hp, hf⟩
          have go : ∀ y, y < 3 * dA σ → (∀ y' u, y' < y → nxX σ s y' = some u → d u ≠ some n) → ((∀ t, nxX σ s y = some t → d t ≠ some n) → Y G [] ad0 M Q 57 (fun ad => [(0, .ref (ad (40, 0, 0))), (1, .int (nI i)), (2, .int w), (3, .int (nI s)), (4, .int (nI (y + 1))), (5, .int (nI kk))]) (fun ad => []) ρ1) → Y G [] ad0 M Q 57 (fun ad => [(0, .ref (ad (40, 0, 0))), (1, .int (nI i)), (2, .int w), (3, .int (nI s)), (4, .int (nI y)), (5, .int (nI kk))]) (fun ad => []) ρ1 := by
            intro y hy hmin hnx
            refine T_Mo_play_57 hG hM _ _ _ _ _ ρ1 ?_
            rw [mul36, nI_clamp (n := 36 * s + y) (by omega), l2 s y hs hy, nI_clamp (n := s) (by omega), r1 s hs, hds, nI_1 y, nI_1 kk]
            refine ⟨vp_in_nI (by omega) (by omega), ?_⟩
            cases ht : nxX σ s y with
            | none => exact ⟨fun _ => hnx (fun t z => by rw [ht] at z; cases z), fun z => absurd rfl z⟩
            | some t =>
              have htN := nxX_lt hW hy ht
              refine ⟨fun z => absurd z (nI_m1 (by omega)), fun _ => ⟨vp_in_nI (by omega) (by omega), vp_in_nI (n := t) (by omega) (by omega), vp_in_nI (by omega) (by omega), ?_⟩⟩
              show (iR ρ1 (41, 20, 0) (Int32.toNatClampNeg (nI t)) = nI (n + 1) - 1 → _) ∧ (¬ iR ρ1 (41, 20, 0) (Int32.toNatClampNeg (nI t)) = nI (n + 1) - 1 → _)
              rw [nI_clamp (n := t) (by omega), r1 t htN, nI_pred]
              have hnN := (m1 s _ hds).2
              have eq : (oI (d t) = nI n) ↔ d t = some n := by
                cases hdt : d t with
                | none =>
                  refine ⟨fun z => absurd z.symm (nI_m1 (by omega)), fun z => by cases z⟩
                | some q =>
                  have hq := (m1 t q hdt).2
                  exact ⟨fun z => by rw [(nI_eq (by omega) (by omega)).mp z], fun z => by cases z; rfl⟩
              rw [eq]
              exact ⟨fun z => ⟨vp_in_nI (by omega) (by omega), found y t hy ht z hmin⟩, fun z => hnx (fun u hu => by rw [ht] at hu; cases hu; exact z)⟩
          induction dx with
          | zero =>
            intro y hy hmin
            have ey : y = x0 := by omega
            subst ey
            exact go y hx0 hmin (fun z => absurd q3 (z t0 hxt0))
          | succ dx ih2 =>
            intro y hy hmin
            refine go y (by omega) hmin (fun z => ih2 (y + 1) (by omega) (fun y' u hy' hu => ?_))
            by_cases e : y' = y
            · subst e; exact z u hu
            · exact hmin y' u (by omega) hu
        exact k57 x0 0 (by omega) (fun y' u hy' => absurd hy' (by omega))
    exact k48 (i + 1) 0 (dB σ) 0 (by omega) hB (by omega) (by rw [hdB]; rfl) (Or.inl ⟨rfl, rfl⟩)
theorem cM_plays (hG : gok G) {σ : Wd} (h : RMo ρ σ) (hW : Wok σ) (k : ∀ ad ρ' r, RMo ρ' σ → anPl σ r → Ag PMo ρ ρ' → K ad (some (.long r)) ρ') : semV G r_Mo_plays [] (fun ad => [.ref (ad (40, 0, 0))]) ρ K := by
  have hN := hW.2.2.1
  have hB := hW.2.2.2.1
  have h12 := hW.2.2.2.2.1
  have h3 := hW.2.2.2.2.2.1
  have hnx := Wok_stp hW
  refine semV_intro yk_Mo_plays.2.2.2.2 (fun _ => Nat.le_of_ble_eq_true rfl) (fun M Q ad0 hM => ?_)
  refine T_Mo_plays_0 hG hM ρ ?_
  refine c_Mo_lay hG h hW (fun ad ρ1 hr hl hag => ⟨rfl, ?_⟩)
  obtain ⟨l1, l2, l3, -, l7⟩ := hl
  obtain ⟨d, n1, m1, r1⟩ := l7 1 (by omega) (by omega)
  have r1 : ∀ s, s < nS σ → iR ρ1 (41, 20, 0) s = oI (d s) := r1
  have hdL : ∀ s n, d s = some n ↔ isL (CZ σ ZMay) (aimP σ) s n := n1
  have eC : CZ σ ZMay = CMay σ := by
    funext P s; exact propext CZ_may
  have hdW : ∀ s n, s < nS σ → (d s = some n ↔ isW σ s n) := fun s n _ => by rw [hdL, eC]; exact isW_isL
  have d0iff : ∀ s, s < nS σ → (d s = some 0 ↔ aimW σ s = true) := fun s hs => by
    rw [hdW s 0 hs]
    exact ⟨fun z => z.1.2, fun z => ⟨⟨hs, z⟩, fun m hm => absurd hm (by omega)⟩⟩
  rw [hr.1.2.1, nI_clamp (by omega), r1 _ hB]
  refine ⟨vp_in_nI (by omega) (by omega), ?_⟩
  cases hdB : d (dB σ) with
  | none =>
    refine ⟨fun _ ad => k ad ρ1 _ hr ⟨0, Or.inr ⟨fun n hn => ?_, rfl⟩, rfl⟩ hag, fun z => absurd rfl z⟩
    obtain ⟨m, h1, h2⟩ := pk_least (fun n => wlk σ n (dB σ)) ⟨n, hn⟩
    have := (hdW _ m hB).mpr ⟨h1, h2⟩
    rw [hdB] at this; cases this
  | some m =>
    have hmN := (m1 _ m hdB).2
    refine ⟨fun z => absurd z (nI_m1 (by omega)), fun _ => ?_⟩
    -- the store: only the ways change
    have bq : ∀ {ρ2}, Ag (fun q => q = (41, 33, 0)) ρ1 ρ2 → RMo ρ2 σ ∧ iR ρ2 (40, 0, 0) 13 = nI (nS σ) ∧ iR ρ2 (40, 0, 0) 2 = nI (dB σ) ∧ iR ρ2 (40, 0, 0) 3 = nI (dA σ) ∧ iR ρ2 (41, 20, 0) = iR ρ1 (41, 20, 0) ∧ iR ρ2 (41, 14, 0) = iR ρ1 (41, 14, 0) := fun ha => by
      have i := (ha (40, 0, 0) (by simp)).2.1
      exact ⟨RMo_p hr ha (by simp) (fun f f1 f2 f3 => by simp; omega), by rw [i]; exact l1, by rw [i]; exact hr.1.2.1, by rw [i]; exact hr.1.2.2.1, (ha (41, 20, 0) (by simp)).2.1, (ha (41, 14, 0) (by simp)).2.1⟩
    have k59 : ∀ (dn n : Nat) (ρ2 : Rs), n + dn = m → Ag (fun q => q = (41, 33, 0)) ρ1 ρ2 → (∀ u j, u < nS σ → d u = some j → lR ρ2 (41, 33, 0) u = if j ≤ n then lN (wkB σ j u) else 0) → Y G [] ad0 M Q 59 (fun ad => [(0, .ref (ad (40, 0, 0))), (2, .int (nI (n + 1)))]) (fun ad => []) ρ2 := by
      intro dn
      induction dn with
      | zero =>
        intro n ρ2 hn a2 hw
        obtain ⟨b1, b2, b3, b4, b5, b6⟩ := bq a2
        have en : n = m := by omega
        subst en
        refine T_Mo_plays_59 hG hM _ ρ2 ?_
        rw [b3, nI_clamp (by omega), b5, r1 _ hB, hdB]
        refine ⟨vp_in_nI (by omega) (by omega), fun _ => ⟨vp_in_nI (by omega) (by omega), fun ad => ?_⟩, fun z => absurd (show nI n < nI (n + 1) from (nI_ltI (by omega) (by omega)).mpr (by omega)) z⟩
        rw [hw _ n hB hdB, if_pos (Nat.le_refl _)]
        exact k ad ρ2 _ b1 ⟨_, Or.inl ⟨n, (hdW _ n hB).mp hdB, rfl⟩, rfl⟩ (Ag_tr hag (Ag_mono a2 (fun q e => by rw [e]; unfold PMo; decide)))
      | succ dn ih =>
        intro n ρ2 hn a2 hw
        obtain ⟨b1, b2, b3, b4, b5, b6⟩ := bq a2
        refine T_Mo_plays_59 hG hM _ ρ2 ?_
        rw [b3, nI_clamp (by omega), b5, r1 _ hB, hdB]
        refine ⟨vp_in_nI (by omega) (by omega), fun z => absurd (show nI m < nI (n + 1) from z) (fun z => by have := (nI_ltI (by omega) (by omega)).mp z; omega), fun _ => ?_⟩
        have k76 : ∀ (ds s : Nat) (ρ3 : Rs), s + ds = nS σ → Ag (fun q => q = (41, 33, 0)) ρ1 ρ3 → (∀ u j, u < nS σ → d u = some j → lR ρ3 (41, 33, 0) u = if j ≤ n ∨ (j = n + 1 ∧ u < s) then lN (wkB σ j u) else 0) → Y G [] ad0 M Q 76 (fun ad => [(0, .ref (ad (40, 0, 0))), (1, .int (nI (n + 1))), (2, .int (nI (n + 1))), (3, .int (nI s))]) (fun ad => []) ρ3 := by
          intro ds
          induction ds with
          | zero =>
            intro s ρ3 hs a3 hw3
            obtain ⟨c1, c2, c3, c4, c5, c6⟩ := bq a3
            refine T_Mo_plays_76 hG hM _ _ _ ρ3 ⟨fun _ => ?_, fun z => absurd (by rw [c2]; exact (nI_leI (by omega) (by omega)).mpr (by omega)) z⟩
            rw [nI_1 (n + 1)]
            refine ih (n + 1) ρ3 (by omega) a3 (fun u j hu hj => ?_)
            rw [hw3 u j hu hj]
            by_cases e : j ≤ n + 1
            · rw [if_pos (by omega), if_pos e]
            · rw [if_neg (by omega), if_neg e]
          | succ ds ih2 =>
            intro s ρ3 hs a3 hw3
            obtain ⟨c1, c2, c3, c4, c5, c6⟩ := bq a3
            have hsN : s < nS σ := by omega
            refine T_Mo_plays_76 hG hM _ _ _ ρ3 ⟨fun z => absurd (by rw [c2] at z; exact (nI_leI (by omega) (by omega)).mp z) (by omega), fun _ => ?_⟩
            have eqL : ∀ q u, q < 2 ^ 30 → u < nS σ → ((oI (d u) = nI q) ↔ d u = some q) := fun q u hq hu => by
              cases hdt : d u with
              | none => exact ⟨fun z => absurd z.symm (nI_m1 (by omega)), fun z => by cases z⟩
              | some q' =>
                have hq := (m1 u q' hdt).2
                exact ⟨fun z => by rw [(nI_eq (by omega) (by omega)).mp z], fun z => by cases z; rfl⟩
            -- another level: nothing is done
            have skip : ∀ ρ4, Ag (fun q => q = (41, 33, 0)) ρ1 ρ4 → (∀ u j, u < nS σ → d u = some j → lR ρ4 (41, 33, 0) u = if j ≤ n ∨ (j = n + 1 ∧ u < s + 1) then lN (wkB σ j u) else 0) → Y G [] ad0 M Q 76 (fun ad => [(0, .ref (ad (40, 0, 0))), (1, .int (nI (n + 1))), (2, .int (nI (n + 1))), (3, .int (nI (s + 1)))]) (fun ad => []) ρ4 := fun ρ4 a4 hw4 => ih2 (s + 1) ρ4 (by omega) a4 hw4
            by_cases hds : d s = some (n + 1)
            · have lev := wkB_lev hnx hdW hsN hds
              rw [← sm_x h3] at lev
              have k87 : ∀ (dx x : Nat) (ρ4 : Rs), x + dx = 3 * dA σ → Ag (fun q => q = (41, 33, 0)) ρ1 ρ4 → (∀ u j, u < nS σ → u ≠ s → d u = some j → lR ρ4 (41, 33, 0) u = if j ≤ n ∨ (j = n + 1 ∧ u < s) then lN (wkB σ j u) else 0) → lR ρ4 (41, 33, 0) s = lN (sm (fun x => gO (fun t => if d t = some n then wkB σ n t else 0) (nxX σ s x)) x) → Y G [] ad0 M Q 87 (fun ad => [(0, .ref (ad (40, 0, 0))), (1, .int (nI (n + 1))), (2, .int (nI (n + 1))), (3, .int (nI s)), (4, .int (nI x))]) (fun ad => []) ρ4 := by
                intro dx
                induction dx with
                | zero =>
                  intro x ρ4 hx a4 hw4 hw5
                  obtain ⟨e1, e2, e3, e4, e5, e6⟩ := bq a4
                  have ex : x = 3 * dA σ := by omega
                  subst ex
                  refine T_Mo_plays_87 hG hM _ _ _ _ ρ4 ⟨fun _ => ?_, fun z => absurd (by rw [e4, mul3]; exact (nI_leI (by omega) (by omega)).mpr (Nat.le_refl _)) z⟩
                  rw [nI_1 s]
                  refine skip ρ4 a4 (fun u j hu hj => ?_)
                  by_cases eu : u = s
                  · subst eu
                    rw [hds] at hj
                    cases hj
                    rw [if_pos (by omega), hw5, lev]
                  · rw [hw4 u j hu eu hj]
                    by_cases y : j ≤ n ∨ (j = n + 1 ∧ u < s)
                    · rw [if_pos y, if_pos (by omega)]
                    · rw [if_neg y, if_neg (by omega)]
                | succ dx ih3 =>
                  intro x ρ4 hx a4 hw4 hw5
                  obtain ⟨e1, e2, e3, e4, e5, e6⟩ := bq a4
                  have hxA : x < 3 * dA σ := by omega
                  refine T_Mo_plays_87 hG hM _ _ _ _ ρ4 ⟨fun z => absurd (by rw [e4, mul3] at z; exact (nI_leI (by omega) (by omega)).mp z) (by omega), fun _ => ⟨vp_in_nI (by omega) (by omega), ?_⟩⟩
                  rw [mul36, nI_clamp (n := 36 * s + x) (by omega), nI_clamp (n := s) (by omega), e5, e6, r1 s hsN, l2 s x hsN hxA, hds, hw5, nI_1 x, nI_pred]
                  refine ⟨fun _ => ⟨vp_in_nI (by omega) (by omega), vp_in_nI (by omega) (by omega), ?_⟩, fun z => absurd rfl z⟩
                  have step : ∀ z11 : Int64, z11 = lN (gO (fun t => if d t = some n then wkB σ n t else 0) (nxX σ s x)) → vp_in (nI s) 4096 ∧ ∀ ρ12 : Rs, ρ12 = pL ρ4 (41, 33, 0) s (lN (sm (fun x => gO (fun t => if d t = some n then wkB σ n t else 0) (nxX σ s x)) x) + z11) → Y G [] ad0 M Q 87 (fun ad => [(0, .ref (ad (40, 0, 0))), (1, .int (nI (n + 1))), (2, .int (nI (n + 1))), (3, .int (nI s)), (4, .int (nI (x + 1)))]) (fun ad => []) ρ12 := by
                    intro z11 e11
                    refine ⟨vp_in_nI (by omega) (by omega), fun ρ12 e12 => ?_⟩
                    rw [e11, lN_add] at e12
                    refine ih3 (x + 1) ρ12 (by omega) (Ag_tr a4 (by rw [e12]; exact Ag_pL rfl)) (fun u j hu hus hj => by rw [e12, lR_pL, if_neg (fun z => hus z.2)]; exact hw4 u j hu hus hj) (by rw [e12, lR_pL, if_pos ⟨rfl, rfl⟩]; rfl)
                  cases ht : nxX σ s x with
                  | none =>
                    refine ⟨fun z => absurd rfl z, fun z11 e11 => ?_⟩
                    rw [if_pos (by rfl)] at e11
                    exact step z11 (by rw [e11, ht]; rfl)
                  | some t =>
                    have htN := nxX_lt hW hxA ht
                    refine ⟨fun _ => ⟨vp_in_nI (n := t) (by omega) (by omega), fun _ => vp_in_nI (n := t) (by omega) (by omega)⟩, fun z11 e11 => ?_⟩
                    rw [show oI (some t) = nI t from rfl, if_neg (nI_m1 (by omega)), nI_clamp (n := t) (by omega), r1 t htN] at e11
                    refine step z11 ?_
                    rw [e11, ht]
                    show _ = lN (if d t = some n then wkB σ n t else 0)
                    have eq := eqL n t (by omega) htN
                    by_cases hdt : d t = some n
                    · have hts : t ≠ s := fun z => by rw [z, hds] at hdt; cases hdt
                      rw [if_pos (eq.mpr hdt), if_pos hdt, hw4 t n htN hts hdt, if_pos (Or.inl (Nat.le_refl _))]
                    · rw [if_neg (fun z => hdt (eq.mp z)), if_neg hdt]; rfl
              refine k87 (3 * dA σ) 0 ρ3 (by omega) a3 (fun u j hu _ hj => hw3 u j hu hj) ?_
              rw [hw3 s (n + 1) hsN hds, if_neg (by omega)]; rfl
            · have hw4 : ∀ u j, u < nS σ → d u = some j → lR ρ3 (41, 33, 0) u = if j ≤ n ∨ (j = n + 1 ∧ u < s + 1) then lN (wkB σ j u) else 0 := fun u j hu hj => by
                rw [hw3 u j hu hj]
                by_cases y : j ≤ n ∨ (j = n + 1 ∧ u < s)
                · rw [if_pos y, if_pos (by omega)]
                · rw [if_neg y, if_neg (fun z => by
                    have : u = s := by omega
                    subst this
                    have : j = n + 1 := by omega
                    subst this
                    exact hds hj)]
              refine T_Mo_plays_87 hG hM _ _ _ _ ρ3 ?_
              rw [c4, mul3, c5, nI_clamp (n := s) (by omega), r1 s hsN, nI_1 s, eqL (n + 1) s (by omega) hsN]
              exact ⟨fun _ => skip ρ3 a3 hw4, fun _ => ⟨vp_in_nI (by omega) (by omega), fun z => absurd z hds, fun _ => skip ρ3 a3 hw4⟩⟩
        refine k76 (nS σ) 0 ρ2 (by omega) a2 (fun u j hu hj => ?_)
        rw [hw u j hu hj]
        by_cases e : j ≤ n
        · rw [if_pos e, if_pos (Or.inl e)]
        · rw [if_neg e, if_neg (by omega)]
    have k21 : ∀ (ds s : Nat) (ρ2 : Rs), s + ds = nS σ → Ag (fun q => q = (41, 33, 0)) ρ1 ρ2 → (∀ u, u < s → lR ρ2 (41, 33, 0) u = if aimW σ u = true then 1 else 0) → Y G [] ad0 M Q 21 (fun ad => [(0, .ref (ad (40, 0, 0))), (1, .int (nI s))]) (fun ad => []) ρ2 := by
      intro ds
      induction ds with
      | zero =>
        intro s ρ2 hs a2 hw
        obtain ⟨b1, b2, b3, b4, b5, b6⟩ := bq a2
        refine T_Mo_plays_21 hG hM _ ρ2 ⟨fun _ => ?_, fun z => absurd (by rw [b2]; exact (nI_leI (by omega) (by omega)).mpr (by omega)) z⟩
        refine k59 m 0 ρ2 (by omega) a2 (fun u j hu hj => ?_)
        rw [hw u (by omega)]
        by_cases ha : aimW σ u = true
        · have := (d0iff u hu).mpr ha
          rw [this] at hj
          cases hj
          rw [if_pos ha, if_pos (by omega)]
          show (1 : Int64) = lN (if aimW σ u = true then 1 else 0)
          rw [if_pos ha]; rfl
        · rw [if_neg ha, if_neg (fun z => by
            have : j = 0 := by omega
            subst this
            exact ha ((d0iff u hu).mp hj))]
      | succ ds ih =>
        intro s ρ2 hs a2 hw
        obtain ⟨b1, b2, b3, b4, b5, b6⟩ := bq a2
        refine T_Mo_plays_21 hG hM _ ρ2 ⟨fun z => absurd (by rw [b2] at z; exact (nI_leI (by omega) (by omega)).mp z) (by omega), fun _ => ⟨vp_in_nI (by omega) (by omega), ?_⟩⟩
        rw [nI_clamp (n := s) (by omega), (a2 (41, 15, 0) (by simp)).2.1, l3 s (by omega), nI_1 s]
        intro z3 e3
        refine ⟨vp_in_nI (by omega) (by omega), fun ρ4 e4 => ?_⟩
        have e3 : z3 = if aimW σ s = true then 1 else 0 := by rw [e3]; cases aimW σ s <;> rfl
        refine ih (s + 1) ρ4 (by omega) (Ag_tr a2 (by rw [e4]; exact Ag_pL rfl)) (fun u hu => ?_)
        rw [e4, lR_pL]
        by_cases e : u = s
        · rw [if_pos ⟨rfl, e⟩, e, e3]
        · rw [if_neg (fun z => e z.2)]; exact hw u (by omega)
    exact k21 (nS σ) 0 ρ1 (by omega) Ag_rf (fun u hu => absurd hu (by omega))
end B60
