/-! THE REFERENCE: edges into a state, the searches back: may, must -/
theorem div36 {c : Nat} (h : c < 2 ^ 31) : nI c / (36 : Int32) = nI (c / 36) := pk_div (d := 36) h (by omega) (by decide)
theorem rem36 {c : Nat} (h : c < 2 ^ 31) : nI c - nI c / (36 : Int32) * 36 = nI (c % 36) := pk_rem (d := 36) h (by omega) (by decide)
theorem div3 {c : Nat} (h : c < 2 ^ 31) : nI c / (3 : Int32) = nI (c / 3) := pk_div (d := 3) h (by omega) (by decide)
theorem rem3 {c : Nat} (h : c < 2 ^ 31) : nI c - nI c / (3 : Int32) * 3 = nI (c % 3) := pk_rem (d := 3) h (by omega) (by decide)
def Ch (ρ : Rs) (E : Nat) : List Nat → Int32 → Prop
  | [], v => v = -1
  | c :: L, v => ∃ j, j < E ∧ v = nI j ∧ iR ρ (41, 17, 0) j = nI c ∧ Ch ρ E L (iR ρ (41, 18, 0) j)
theorem Ch_of {ρ ρ' : Rs} {E E' : Nat} (hE : E ≤ E') (h17 : ∀ j, j < E → iR ρ' (41, 17, 0) j = iR ρ (41, 17, 0) j) (h18 : ∀ j, j < E → iR ρ' (41, 18, 0) j = iR ρ (41, 18, 0) j) : ∀ {L : List Nat} {v : Int32}, Ch ρ E L v → Ch ρ' E' L v
  | [], _, h => h
  | c :: L, _, ⟨j, h1, h2, h3, h4⟩ => ⟨j, by omega, h2, by rw [h17 j h1]; exact h3, by rw [h18 j h1]; exact Ch_of hE h17 h18 h4⟩
/-- an edge into t, as one number -/
def eg (σ : Wd) (c t : Nat) : Prop := c / 36 < nS σ ∧ c % 36 < 3 * dA σ ∧ nxX σ (c / 36) (c % 36) = some t
def MK (ρ : Rs) (σ : Wd) : Prop := ∀ t, t < nS σ → ∃ L : List Nat, Ch ρ 147456 L (iR ρ (41, 16, 0) t) ∧ L.Nodup ∧ ∀ c, c ∈ L ↔ eg σ c t
theorem MK_ag {P : Ro → Prop} {ρ ρ' : Rs} {σ : Wd} (h : MK ρ σ) (ha : Ag P ρ ρ') (h1 : ¬ P (41, 16, 0)) (h2 : ¬ P (41, 17, 0)) (h3 : ¬ P (41, 18, 0)) : MK ρ' σ := fun t ht => by
  obtain ⟨L, l1, l2⟩ := h t ht
  refine ⟨L, ?_, l2⟩
  rw [(ha _ h1).2.1]
  exact Ch_of (Nat.le_refl _) (fun j _ => by rw [(ha _ h2).2.1]) (fun j _ => by rw [(ha _ h3).2.1]) l1
theorem eg_nx {σ : Wd} {c t : Nat} (h : eg σ c t) : c % 36 / 3 < dA σ ∧ c % 36 % 3 < dO σ (c % 36 / 3) ∧ nxW σ (c / 36) (c % 36 / 3) (c % 36 % 3) = some t := by
  obtain ⟨h1, h2, h3⟩ := h
  unfold nxX at h3
  split at h3
  · exact ⟨by omega, by assumption, h3⟩
  · cases h3
theorem nxX_ak {σ : Wd} {s a k : Nat} (hk : k < dO σ a) (h3 : dO σ a ≤ 3) : nxX σ s (3 * a + k) = nxW σ s a k := by
  have e1 : (3 * a + k) / 3 = a := by omega
  have e2 : (3 * a + k) % 3 = k := by omega
  unfold nxX
  rw [e1, e2, if_pos hk]
theorem eg_of {σ : Wd} {s a k t : Nat} (hW : Wok σ) (hs : s < nS σ) (ha : a < dA σ) (hk : k < dO σ a) (h : nxW σ s a k = some t) : eg σ (36 * s + (3 * a + k)) t := by
  have h3 := (hW.2.2.2.2.2.1 a ha).2
  have h12 := hW.2.2.2.2.1
  have e1 : (36 * s + (3 * a + k)) / 36 = s := by omega
  have e2 : (36 * s + (3 * a + k)) % 36 = 3 * a + k := by omega
  unfold eg
  rw [e1, e2, nxX_ak hk h3]
  exact ⟨hs, by omega, h⟩
theorem eg_uni {σ : Wd} {c t u : Nat} (h : eg σ c t) (h' : eg σ c u) : t = u := by
  have e1 := h.2.2
  rw [h'.2.2] at e1
  cases e1; rfl
theorem CZ_mon {σ : Wd} {Z : (Nat → Prop) → Nat → Nat → Prop} (hZ : ∀ P P' s a, (∀ t, P t → P' t) → Z P s a → Z P' s a) : ∀ (P P' : Nat → Prop) (s : Nat), (∀ t, P t → P' t) → CZ σ Z P s → CZ σ Z P' s := by
  rintro P P' s hp ⟨h0, a, k, t, h1, h2, h3, h4, h5⟩
  exact ⟨h0, a, k, t, h1, h2, h3, hZ P P' s a hp h4, hp t h5⟩
/-- a number that the queue holds is at most one more than that in hand -/
theorem BQ_up {N : Nat} {d : Nat → Option Nat} {q : Nat → Nat} {i e s n m : Nat} (h : BQ N d q i e) (hi : i < e) (hn : d (q i) = some n) (hs : s < N) (hm : d s = some m) : m ≤ n + 1 := by
  obtain ⟨j, hj, ej⟩ := h.2.1 s m hs hm
  exact h.2.2.2.2.1 j n m hj hi hn (by rw [ej]; exact hm)
section B53
variable {G : Gc} {ρ : Rs} {K : (Ro → Nat) → Option Value → Rs → Prop}
theorem c_Mo_backward (hG : gok G) {σ : Wd} (hR : MR ρ σ) (hK : MK ρ σ) (hW : Wok σ) (k : ∀ ad ρ' d, isNo σ 1 d → (∀ s n, d s = some n → s < nS σ ∧ n < nS σ) → (∀ s, s < nS σ → iR ρ' (41, 20, 0) s = oI (d s)) → Ag (fun q => q = (41, 20, 0) ∨ q = (41, 23, 0)) ρ ρ' → K ad none ρ') : semV G r_Mo_backward [] (fun ad => [.ref (ad (40, 0, 0))]) ρ K := by
  have hN := hW.2.2.1
  refine semV_intro yk_Mo_backward.2.2.2.2 (fun _ => Nat.le_of_ble_eq_true rfl) (fun M Q ad0 hM => ?_)
  have fin : ∀ (i : Nat) (ρ1 : Rs) (d : Nat → Option Nat) (q : Nat → Nat) (e : Nat), e ≤ i → i ≤ 4096 → Ag (fun q => q = (41, 20, 0) ∨ q = (41, 23, 0)) ρ ρ1 → KI σ (CZ σ ZMay) d q i e → KC σ ZMay d q i e → KQ ρ1 σ (41, 20, 0) d q e → Y G [] ad0 M Q 11 (fun ad => [(0, .ref (ad (40, 0, 0))), (1, .int (nI e)), (2, .int (nI i))]) (fun ad => []) ρ1 := by
    intro i ρ1 d q e he hi hag hI hC hk
    exact T_Mo_backward_11 hG hM _ _ ρ1 ⟨fun _ ad => k ad ρ1 d (KI_end hI he hC hZ_may) (fun s n hd => ⟨hI.2.1 s n hd, BQ_d hI.1 (hI.2.1 s n hd) hd⟩) hk.1 hag, fun z => absurd ((nI_leI (by omega) (by omega)).mpr he) z⟩
  have k11 : ∀ (dd i : Nat) (ρ1 : Rs) (d : Nat → Option Nat) (q : Nat → Nat) (e : Nat), i + dd = nS σ → Ag (fun q => q = (41, 20, 0) ∨ q = (41, 23, 0)) ρ ρ1 → KI σ (CZ σ ZMay) d q i e → KC σ ZMay d q i e → KQ ρ1 σ (41, 20, 0) d q e → Y G [] ad0 M Q 11 (fun ad => [(0, .ref (ad (40, 0, 0))), (1, .int (nI e)), (2, .int (nI i))]) (fun ad => []) ρ1 := by
    intro dd
    induction dd with
    | zero =>
      intro i ρ1 d q e hdd hag hI hC hk
      have he := BQ_le hI.1
      exact fin i ρ1 d q e (by omega) (by omega) hag hI hC hk
    | succ dd ih =>
      intro i ρ1 d q e hdd hag hI hC hk
      have he := BQ_le hI.1
      by_cases hie : e ≤ i
      · exact fin i ρ1 d q e hie (by omega) hag hI hC hk
      · have hie : i < e := by omega
        obtain ⟨hu, n, hn⟩ := hI.1.1 i hie
        have hnN := BQ_d hI.1 hu hn
        have k28 : ∀ (L : List Nat) (v : Int32) (ρ2 : Rs) (d2 : Nat → Option Nat) (q2 : Nat → Nat) (e2 : Nat), Ch ρ 147456 L v → Ag (fun q => q = (41, 20, 0) ∨ q = (41, 23, 0)) ρ ρ2 → KI σ (CZ σ ZMay) d2 q2 i e2 → KC σ ZMay d2 q2 i e2 → i < e2 → q2 i = q i → d2 (q i) = some n → (∀ c, c ∈ L → eg σ c (q i)) → (∀ c, eg σ c (q i) → c ∈ L ∨ upto d2 (n + 1) (c / 36)) → KQ ρ2 σ (41, 20, 0) d2 q2 e2 → Y G [] ad0 M Q 28 (fun ad => [(0, .ref (ad (40, 0, 0))), (1, .int (nI e2)), (2, .int (nI i)), (3, .int v)]) (fun ad => []) ρ2 := by
          intro L
          induction L with
          | nil =>
            intro v ρ2 d2 q2 e2 hv hag2 hI2 hC2 hi2 hq2 hd2 hin hall hk2
            refine T_Mo_backward_28 hG hM _ _ _ ρ2 ⟨fun _ => ?_, fun z => absurd hv z⟩
            rw [nI_1]
            refine ih (i + 1) ρ2 d2 q2 e2 (by omega) hag2 (KI_nx hI2) (KC_nx hC2 (by rw [hq2]; exact hd2) (fun s a kk hs ha hkk hx _ => ?_)) hk2
            rw [hq2] at hx
            rcases hall _ (eg_of hW hs ha hkk hx) with z | z
            · cases z
            · have h3 := (hW.2.2.2.2.2.1 a ha).2
              have h12 := hW.2.2.2.2.1
              rw [show (36 * s + (3 * a + kk)) / 36 = s by omega] at z
              exact z
          | cons c L ih2 =>
            intro v ρ2 d2 q2 e2 hv hag2 hI2 hC2 hi2 hq2 hd2 hin hall hk2
            obtain ⟨j, hj, ev, e17, hch⟩ := hv
            subst ev
            have hg := hin c List.mem_cons_self
            obtain ⟨n1, n2, n3⟩ := eg_nx hg
            have g1 := hg.1
            have he2 := BQ_le hI2.1
            have r17 : iR ρ2 (41, 17, 0) j = nI c := by rw [(hag2 (41, 17, 0) (by simp)).2.1]; exact e17
            have r18 : ∀ ρ3, Ag (fun q => q = (41, 20, 0) ∨ q = (41, 23, 0)) ρ ρ3 → iR ρ3 (41, 18, 0) j = iR ρ (41, 18, 0) j := fun ρ3 h => by rw [(h (41, 18, 0) (by simp)).2.1]
            refine T_Mo_backward_28 hG hM _ _ _ ρ2 ⟨fun z => absurd z (nI_m1 (by omega)), fun _ => ?_⟩
            rw [nI_clamp (n := j) (by omega), r17, div36 (by omega), nI_clamp (n := c / 36) (by omega), hk2.1 (c / 36) g1]
            refine ⟨vp_in_nI (by omega) (by omega), vp_in_nI (by omega) (by omega), ?_⟩
            cases hds : d2 (c / 36) with
            | none =>
              refine ⟨fun _ => ?_, fun z => absurd rfl z⟩
              have he2' := BQ_lt hI2.1 g1 hds
              rw [nI_clamp (n := i) (by omega), hk2.2 i hi2, hq2, nI_clamp (n := q i) (by omega), hk2.1 (q i) hu, hd2]
              show vp_in (nI i) 4096 ∧ vp_in (nI (q i)) 4096 ∧ vp_in (nI (c / 36)) 4096 ∧ ∀ ρ11 : Rs, ρ11 = pI ρ2 (41, 20, 0) (c / 36) (nI n + 1) → _
              rw [nI_1 n, nI_clamp (n := e2) (by omega), nI_1 e2]
              refine ⟨vp_in_nI (by omega) (by omega), vp_in_nI (by omega) (by omega), vp_in_nI (by omega) (by omega), fun ρ11 e11 => ⟨vp_in_nI (by omega) (by omega), fun ρ12 e12 => ⟨vp_in_nI (by omega) (by omega), ?_⟩⟩⟩
              have e12 : ρ12 = pI (pI ρ2 (41, 20, 0) (c / 36) (nI (n + 1))) (41, 23, 0) e2 (nI (c / 36)) := by rw [e12, e11]
              have a12 : Ag (fun q => q = (41, 20, 0) ∨ q = (41, 23, 0)) ρ ρ12 := Ag_tr hag2 (by rw [e12]; exact Ag_tr (Ag_pI (Or.inl rfl)) (Ag_pI (Or.inr rfl)))
              have hne : q i ≠ c / 36 := fun z => by rw [z, hds] at hd2; cases hd2
              rw [r18 ρ12 a12]
              refine ih2 _ ρ12 (va_up d2 (c / 36) (some (n + 1))) (va_up q2 e2 (c / 36)) (e2 + 1) hch a12 (KI_in (CZ_mon (fun _ _ _ _ _ h => h)) hI2 hi2 (by rw [hq2]; exact hd2) g1 hds ⟨g1, _, _, q i, n1, n2, n3, trivial, ⟨n, Nat.le_refl _, hd2⟩⟩) (KC_in hI2.1 hC2 hi2 (by rw [hq2]; exact hd2) hds) (by omega) (by rw [upn (by omega)]; exact hq2) (by rw [upn hne]; exact hd2) (fun x hx => hin x (List.mem_cons_of_mem _ hx)) (fun x hx => ?_) (by rw [e12]; exact KQ_in (by decide) hk2)
              rcases hall x hx with z | z
              · rcases List.mem_cons.mp z with z | z
                · right; rw [z]; exact ⟨n + 1, Nat.le_refl _, ups⟩
                · exact Or.inl z
              · exact Or.inr (upto_up hds z)
            | some m =>
              have hm := BQ_d hI2.1 g1 hds
              have hm1 := BQ_up hI2.1 hi2 (by rw [hq2]; exact hd2) g1 hds
              refine ⟨fun z => absurd z (nI_m1 (by omega)), fun _ => ⟨vp_in_nI (by omega) (by omega), ?_⟩⟩
              rw [r18 ρ2 hag2]
              refine ih2 _ ρ2 d2 q2 e2 hch hag2 hI2 hC2 hi2 hq2 hd2 (fun x hx => hin x (List.mem_cons_of_mem _ hx)) (fun x hx => ?_) hk2
              rcases hall x hx with z | z
              · rcases List.mem_cons.mp z with z | z
                · right; rw [z]; exact ⟨m, hm1, hds⟩
                · exact Or.inl z
              · exact Or.inr z
        obtain ⟨L, l1, l2, l3⟩ := hK (q i) hu
        refine T_Mo_backward_11 hG hM _ _ ρ1 ⟨fun z => absurd ((nI_leI (by omega) (by omega)).mp z) (by omega), fun _ => ⟨vp_in_nI (by omega) (by omega), ?_⟩⟩
        rw [nI_clamp (n := i) (by omega), hk.2 i hie, nI_clamp (n := q i) (by omega), (hag (41, 16, 0) (by simp)).2.1]
        exact ⟨vp_in_nI (by omega) (by omega), k28 L _ ρ1 d q e l1 hag hI hC hie rfl hn (fun c hc => (l3 c).mp hc) (fun c hc => Or.inl ((l3 c).mpr hc)) hk⟩
  refine T_Mo_backward_0 hG hM ρ ?_
  refine c_Mo_aims hG (Or.inl rfl) hR hN (fun ad ρ1 q e hI hk hag => ⟨_, rfl, ?_⟩)
  exact k11 (nS σ) 0 ρ1 (d0 σ) q e (by omega) hag (hI _) (fun j s a kk n hj => absurd hj (by omega)) hk
end B53
theorem cnt_all {p : Nat → Bool} : ∀ {n : Nat}, (∀ j, j < n → p j = true) → cnt p n = n
  | 0, _ => rfl
  | n + 1, h => by
    show cnt p n + _ = _
    rw [cnt_all (fun j hj => h j (by omega)), h n (by omega)]; rfl
theorem cnt_full {p : Nat → Bool} {n : Nat} (h : n ≤ cnt p n) : ∀ j, j < n → p j = true := fun j hj => by
  cases e : p j with
  | true => rfl
  | false => have := cnt_lt hj e; omega
section B54
variable {G : Gc} {ρ : Rs} {K : (Ro → Nat) → Option Value → Rs → Prop}
def PS2 (q : Ro) : Prop := q = (41, 21, 0) ∨ q = (41, 23, 0) ∨ q = (41, 24, 0)
theorem c_Mo_surely (hG : gok G) {σ : Wd} (hA : iR ρ (40, 0, 0) 3 = nI (dA σ)) (hO : ∀ a, a < dA σ → iR ρ (41, 4, 0) a = nI (dO σ a)) (hR : MR ρ σ) (hK : MK ρ σ) (hW : Wok σ) (k : ∀ ad ρ' d, isNo σ 2 d → (∀ s n, d s = some n → s < nS σ ∧ n < nS σ) → (∀ s, s < nS σ → iR ρ' (41, 21, 0) s = oI (d s)) → Ag PS2 ρ ρ' → K ad none ρ') : semV G r_Mo_surely [] (fun ad => [.ref (ad (40, 0, 0))]) ρ K := by
  have hN := hW.2.2.1
  have h12 := hW.2.2.2.2.1
  have hO3 := hW.2.2.2.2.2.1
  refine semV_intro yk_Mo_surely.2.2.2.2 (fun _ => Nat.le_of_ble_eq_true rfl) (fun M Q ad0 hM => ?_)
  have eC : CZ σ (ZMust σ) = CMust σ := by
    funext P s; exact propext (CZ_must (fun a ha => (hO3 a ha).1))
  have fin : ∀ (i : Nat) (ρ1 : Rs) (d : Nat → Option Nat) (q : Nat → Nat) (e : Nat) (pr : Nat → Bool), e ≤ i → i ≤ 4096 → Ag PS2 ρ ρ1 → KI σ (CMust σ) d q i e → LC σ d (fun s a kk => pr (36 * s + (3 * a + kk))) → (∀ c, pr c = true ↔ ∃ j, j < i ∧ j < e ∧ eg σ c (q j)) → KQ ρ1 σ (41, 21, 0) d q e → Y G [] ad0 M Q 60 (fun ad => [(0, .ref (ad (40, 0, 0))), (1, .int (nI e)), (2, .int (nI i))]) (fun ad => []) ρ1 := by
    intro i ρ1 d q e pr he hi hag hI hL hp hk
    refine T_Mo_surely_60 hG hM _ _ ρ1 ⟨fun _ ad => k ad ρ1 d ?_ (fun s n hd => ⟨hI.2.1 s n hd, BQ_d hI.1 (hI.2.1 s n hd) hd⟩) hk.1 hag, fun z => absurd ((nI_leI (by omega) (by omega)).mpr he) z⟩
    show ∀ s n, d s = some n ↔ isL (CZ σ (ZMust σ)) (aimP σ) s n
    rw [eC]
    refine LC_end hI hL (fun s a kk t n hs ha hkk hx hd => (hp _).mpr ?_)
    obtain ⟨j, hj, ej⟩ := hI.1.2.1 t n (hI.2.1 t n hd) hd
    exact ⟨j, by omega, hj, by rw [ej]; exact eg_of hW hs ha hkk hx⟩
  have k60 : ∀ (dd i : Nat) (ρ1 : Rs) (d : Nat → Option Nat) (q : Nat → Nat) (e : Nat) (pr : Nat → Bool), i + dd = nS σ → Ag PS2 ρ ρ1 → KI σ (CMust σ) d q i e → LC σ d (fun s a kk => pr (36 * s + (3 * a + kk))) → (∀ c, pr c = true ↔ ∃ j, j < i ∧ j < e ∧ eg σ c (q j)) → (∀ s a, s < nS σ → a < dA σ → iR ρ1 (41, 24, 0) (12 * s + a) = nI (dO σ a - cnt (fun kk => pr (36 * s + (3 * a + kk))) (dO σ a))) → KQ ρ1 σ (41, 21, 0) d q e → Y G [] ad0 M Q 60 (fun ad => [(0, .ref (ad (40, 0, 0))), (1, .int (nI e)), (2, .int (nI i))]) (fun ad => []) ρ1 := by
    intro dd
    induction dd with
    | zero =>
      intro i ρ1 d q e pr hdd hag hI hL hp hl hk
      have he := BQ_le hI.1
      exact fin i ρ1 d q e pr (by omega) (by omega) hag hI hL hp hk
    | succ dd ih =>
      intro i ρ1 d q e pr hdd hag hI hL hp hl hk
      have he := BQ_le hI.1
      by_cases hie : e ≤ i
      · exact fin i ρ1 d q e pr hie (by omega) hag hI hL hp hk
      · have hie : i < e := by omega
        obtain ⟨hu, n, hn⟩ := hI.1.1 i hie
        have hnN := BQ_d hI.1 hu hn
        have k77 : ∀ (L : List Nat) (v : Int32) (ρ2 : Rs) (d2 : Nat → Option Nat) (q2 : Nat → Nat) (e2 : Nat) (pr : Nat → Bool), Ch ρ 147456 L v → Ag PS2 ρ ρ2 → KI σ (CMust σ) d2 q2 i e2 → LC σ d2 (fun s a kk => pr (36 * s + (3 * a + kk))) → i < e2 → q2 i = q i → d2 (q i) = some n → L.Nodup → (∀ c, c ∈ L → eg σ c (q i)) → (∀ c, pr c = true ↔ (∃ j, j < i ∧ eg σ c (q2 j)) ∨ (eg σ c (q i) ∧ c ∉ L)) → (∀ s a, s < nS σ → a < dA σ → iR ρ2 (41, 24, 0) (12 * s + a) = nI (dO σ a - cnt (fun kk => pr (36 * s + (3 * a + kk))) (dO σ a))) → KQ ρ2 σ (41, 21, 0) d2 q2 e2 → Y G [] ad0 M Q 77 (fun ad => [(0, .ref (ad (40, 0, 0))), (1, .int (nI e2)), (2, .int (nI i)), (3, .int v)]) (fun ad => []) ρ2 := by
          intro L
          induction L with
          | nil =>
            intro v ρ2 d2 q2 e2 pr hv hag2 hI2 hL2 hi2 hq2 hd2 hnd hin hp2 hl2 hk2
            refine T_Mo_surely_77 hG hM _ _ _ ρ2 ⟨fun _ => ?_, fun z => absurd hv z⟩
            rw [nI_1]
            refine ih (i + 1) ρ2 d2 q2 e2 pr (by omega) hag2 (KI_nx hI2) hL2 (fun c => (hp2 c).trans ⟨?_, ?_⟩) hl2 hk2
            · rintro (⟨j, hj, hx⟩ | ⟨hx, _⟩)
              · exact ⟨j, by omega, by omega, hx⟩
              · exact ⟨i, by omega, hi2, by rw [hq2]; exact hx⟩
            · rintro ⟨j, hj, _, hx⟩
              by_cases ej : j = i
              · subst ej; rw [hq2] at hx; exact Or.inr ⟨hx, by simp⟩
              · exact Or.inl ⟨j, by omega, hx⟩
          | cons c L ih2 =>
            intro v ρ2 d2 q2 e2 pr hv hag2 hI2 hL2 hi2 hq2 hd2 hnd hin hp2 hl2 hk2
            obtain ⟨j, hj, ev, e17, hch⟩ := hv
            subst ev
            have hg := hin c List.mem_cons_self
            have hnd' := List.nodup_cons.mp hnd
            obtain ⟨n1, n2, n3⟩ := eg_nx hg
            have g1 := hg.1
            have he2 := BQ_le hI2.1
            have r17 : iR ρ2 (41, 17, 0) j = nI c := by rw [(hag2 (41, 17, 0) (by simp [PS2])).2.1]; exact e17
            have r18 : ∀ ρ3, Ag PS2 ρ ρ3 → iR ρ3 (41, 18, 0) j = iR ρ (41, 18, 0) j := fun ρ3 h => by rw [(h (41, 18, 0) (by simp [PS2])).2.1]
            obtain ⟨s, es⟩ : ∃ s, s = c / 36 := ⟨_, rfl⟩
            obtain ⟨a, ea⟩ : ∃ a, a = c % 36 / 3 := ⟨_, rfl⟩
            obtain ⟨kk, ek⟩ : ∃ kk, kk = c % 36 % 3 := ⟨_, rfl⟩
            have ec : c = 36 * s + (3 * a + kk) := by omega
            rw [← ea] at n1 n2 n3
            rw [← ek] at n2 n3
            rw [← es] at g1 n3
            have ho := hO3 a n1
            -- c is not gone through yet
            have hpc : pr c = false := by
              cases hx : pr c with
              | false => rfl
              | true =>
                rcases (hp2 c).mp hx with ⟨y, hy, hz⟩ | ⟨_, hz⟩
                · exact absurd ((eg_uni hz hg).trans hq2.symm) (hI2.1.2.2.1 y i hy hi2)
                · exact absurd List.mem_cons_self hz
            obtain ⟨pr', epr⟩ : ∃ pr', pr' = va_up pr c true := ⟨_, rfl⟩
            have hp3 : ∀ x, pr' x = true ↔ (∃ y, y < i ∧ eg σ x (q2 y)) ∨ (eg σ x (q i) ∧ x ∉ L) := fun x => by
              by_cases ex : x = c
              · subst ex
                rw [epr, ups]
                exact ⟨fun _ => Or.inr ⟨hg, hnd'.1⟩, fun _ => rfl⟩
              · rw [epr, upn ex, hp2 x]
                have : x ∉ c :: L ↔ x ∉ L := by simp [ex]
                rw [this]
            have c1 : cnt (fun y => pr' (36 * s + (3 * a + y))) (dO σ a) = cnt (fun y => pr (36 * s + (3 * a + y))) (dO σ a) + 1 := cnt_one n2 (fun y hy hne => by show pr' _ = pr _; rw [epr, upn (by omega)]) (by show pr _ = false; rw [← ec]; exact hpc) (by show pr' _ = true; rw [← ec, epr, ups])
            have c2 := cnt_le (fun y => pr' (36 * s + (3 * a + y))) (dO σ a)
            have lval : nI (dO σ a - cnt (fun y => pr (36 * s + (3 * a + y))) (dO σ a)) - 1 = nI (dO σ a - cnt (fun y => pr' (36 * s + (3 * a + y))) (dO σ a)) := by
              have := nI_sb (a := dO σ a - cnt (fun y => pr (36 * s + (3 * a + y))) (dO σ a)) (b := 1) (by omega)
              rw [c1, show dO σ a - (cnt (fun y => pr (36 * s + (3 * a + y))) (dO σ a) + 1) = dO σ a - cnt (fun y => pr (36 * s + (3 * a + y))) (dO σ a) - 1 by omega]
              exact this
            have e12 : (12 : Int32) * nI s = nI (12 * s) := pk_mul 12 s
            have lc : ∀ d' : Nat → Option Nat, LC σ d' (fun s a kk => pr (36 * s + (3 * a + kk))) → ((∀ y, y < dO σ a → pr' (36 * s + (3 * a + y)) = true) → ∃ y t m, y < dO σ a ∧ nxW σ s a y = some t ∧ d' t = some m ∧ upto d' (m + 1) s) → LC σ d' (fun s a kk => pr' (36 * s + (3 * a + kk))) := by
              intro d' h1 h2 s' a' hs' ha' hf
              by_cases esa : s' = s ∧ a' = a
              · obtain ⟨x1, x2⟩ := esa
                subst x1; subst x2
                exact h2 hf
              · refine h1 s' a' hs' ha' (fun y hy => ?_)
                have := hf y hy
                have h3' := (hO3 a' ha').2
                have hne : 36 * s' + (3 * a' + y) ≠ c := by
                  intro z
                  exact esa ⟨by omega, by omega⟩
                have this : pr' (36 * s' + (3 * a' + y)) = true := this
                rw [epr, upn hne] at this
                exact this
            refine T_Mo_surely_77 hG hM _ _ _ ρ2 ⟨fun z => absurd z (nI_m1 (by omega)), fun _ => ?_⟩
            rw [nI_clamp (n := j) (by omega), r17, rem36 (by omega), div36 (by omega), div3 (by omega), ← es, ← ea, e12, nI_ad, nI_clamp (n := 12 * s + a) (by omega), hl2 s a g1 n1, lval, nI_clamp (n := s) (by omega)]
            refine ⟨vp_in_nI (by omega) (by omega), vp_in_nI (by omega) (by omega), vp_in_nI (by omega) (by omega), vp_in_nI (by omega) (by omega), fun ρ7 e7 => ⟨vp_in_nI (by omega) (by omega), ?_⟩⟩
            have a7 : Ag PS2 ρ ρ7 := Ag_tr hag2 (by rw [e7]; exact Ag_pI (Or.inr (Or.inr rfl)))
            have b7 : Ag (fun q => q = (41, 24, 0)) ρ2 ρ7 := by rw [e7]; exact Ag_pI rfl
            have k7 : KQ ρ7 σ (41, 21, 0) d2 q2 e2 := KQ_ag hk2 b7 (by simp) (by simp)
            have l7 : ∀ s a, s < nS σ → a < dA σ → iR ρ7 (41, 24, 0) (12 * s + a) = nI (dO σ a - cnt (fun kk => pr' (36 * s + (3 * a + kk))) (dO σ a)) := by
              intro s' a' hs' ha'
              rw [e7, iR_pI]
              by_cases esa : 12 * s' + a' = 12 * s + a
              · have x1 : s' = s := by omega
                have x2 : a' = a := by omega
                rw [if_pos ⟨rfl, esa⟩, x1, x2]
              · rw [if_neg (fun z => esa z.2), hl2 s' a' hs' ha']
                have h3' := (hO3 a' ha').2
                rw [cnt_congr (p := fun kk => pr (36 * s' + (3 * a' + kk))) (p' := fun kk => pr' (36 * s' + (3 * a' + kk))) (fun y hy => by show pr _ = pr' _; rw [epr, upn (by omega)])]
            have r0 : (nI (dO σ a - cnt (fun y => pr' (36 * s + (3 * a + y))) (dO σ a)) = (0 : Int32)) ↔ dO σ a - cnt (fun y => pr' (36 * s + (3 * a + y))) (dO σ a) = 0 := nI_eq (b := 0) (by omega) (by decide)
            rw [l7 s a g1 n1, r0, k7.1 s g1]
            refine ⟨fun z => ⟨vp_in_nI (by omega) (by omega), ?_⟩, fun z => ⟨vp_in_nI (by omega) (by omega), ?_⟩⟩
            · have full := cnt_full (p := fun y => pr' (36 * s + (3 * a + y))) (n := dO σ a) (by omega)
              have must : CMust σ (upto d2 n) s := by
                refine ⟨g1, a, n1, nx_canW n3, fun y t hy ht => ?_⟩
                have hy' : pr' (36 * s + (3 * a + y)) = true := full y hy
                have he := eg_of hW g1 n1 hy ht
                rcases (hp3 _).mp hy' with ⟨x, hx, hz⟩ | ⟨hz, _⟩
                · rw [eg_uni he hz]
                  obtain ⟨_, m, hm⟩ := hI2.1.1 x (by omega)
                  exact ⟨m, hI2.1.2.2.2.1 x i m n (by omega) hi2 hm (by rw [hq2]; exact hd2), hm⟩
                · rw [eg_uni he hz]
                  exact ⟨n, Nat.le_refl _, hd2⟩
              cases hds : d2 s with
              | none =>
                refine ⟨fun _ => ?_, fun z => absurd rfl z⟩
                have he2' := BQ_lt hI2.1 g1 hds
                rw [nI_clamp (n := i) (by omega), k7.2 i hi2, hq2, nI_clamp (n := q i) (by omega), k7.1 (q i) hu, hd2]
                show vp_in (nI i) 4096 ∧ vp_in (nI (q i)) 4096 ∧ vp_in (nI s) 4096 ∧ ∀ ρ11 : Rs, ρ11 = pI ρ7 (41, 21, 0) s (nI n + 1) → _
                rw [nI_1 n, nI_clamp (n := e2) (by omega), nI_1 e2]
                refine ⟨vp_in_nI (by omega) (by omega), vp_in_nI (by omega) (by omega), vp_in_nI (by omega) (by omega), fun ρ11 e11 => ⟨vp_in_nI (by omega) (by omega), fun ρ12 e12 => ⟨vp_in_nI (by omega) (by omega), ?_⟩⟩⟩
                have e12 : ρ12 = pI (pI ρ7 (41, 21, 0) s (nI (n + 1))) (41, 23, 0) e2 (nI s) := by rw [e12, e11]
                have a12 : Ag PS2 ρ ρ12 := Ag_tr a7 (by rw [e12]; exact Ag_tr (Ag_pI (Or.inl rfl)) (Ag_pI (Or.inr (Or.inl rfl))))
                have hne : q i ≠ s := fun z => by rw [z, hds] at hd2; cases hd2
                rw [r18 ρ12 a12]
                have hCm : ∀ (P P' : Nat → Prop) (s : Nat), (∀ t, P t → P' t) → CMust σ P s → CMust σ P' s := fun P P' s hp ⟨h0, x, h1, h2, h3⟩ => ⟨h0, x, h1, h2, fun y t hy ht => hp t (h3 y t hy ht)⟩
                refine ih2 _ ρ12 (va_up d2 s (some (n + 1))) (va_up q2 e2 s) (e2 + 1) pr' hch a12 (KI_in hCm hI2 hi2 (by rw [hq2]; exact hd2) g1 hds must) (lc _ (LC_in hL2 hds) (fun _ => ⟨kk, q i, n, n2, n3, by rw [upn hne]; exact hd2, n + 1, Nat.le_refl _, ups⟩)) (by omega) (by rw [upn (by omega)]; exact hq2) (by rw [upn hne]; exact hd2) hnd'.2 (fun x hx => hin x (List.mem_cons_of_mem _ hx)) (fun x => (hp3 x).trans ?_) (fun s' a' hs' ha' => by rw [e12, iR_pI, if_neg (by simp), iR_pI, if_neg (by simp)]; exact l7 s' a' hs' ha') (by rw [e12]; exact KQ_in (by decide) k7)
                have : (∃ y, y < i ∧ eg σ x (va_up q2 e2 s y)) ↔ ∃ y, y < i ∧ eg σ x (q2 y) := ⟨fun ⟨y, hy, hz⟩ => ⟨y, hy, by rw [upn (by omega)] at hz; exact hz⟩, fun ⟨y, hy, hz⟩ => ⟨y, hy, by rw [upn (by omega)]; exact hz⟩⟩
                rw [this]
              | some m =>
                have hm := BQ_d hI2.1 g1 hds
                have hm1 := BQ_up hI2.1 hi2 (by rw [hq2]; exact hd2) g1 hds
                refine ⟨fun z => absurd z (nI_m1 (by omega)), fun _ => ⟨vp_in_nI (by omega) (by omega), ?_⟩⟩
                rw [r18 ρ7 a7]
                exact ih2 _ ρ7 d2 q2 e2 pr' hch a7 hI2 (lc _ hL2 (fun _ => ⟨kk, q i, n, n2, n3, hd2, m, hm1, hds⟩)) hi2 hq2 hd2 hnd'.2 (fun x hx => hin x (List.mem_cons_of_mem _ hx)) hp3 l7 k7
            · rw [r18 ρ7 a7]
              refine ih2 _ ρ7 d2 q2 e2 pr' hch a7 hI2 (lc _ hL2 (fun hf => ?_)) hi2 hq2 hd2 hnd'.2 (fun x hx => hin x (List.mem_cons_of_mem _ hx)) hp3 l7 k7
              have := cnt_all (p := fun y => pr' (36 * s + (3 * a + y))) hf
              omega
        obtain ⟨L, l1, l2, l3⟩ := hK (q i) hu
        refine T_Mo_surely_60 hG hM _ _ ρ1 ⟨fun z => absurd ((nI_leI (by omega) (by omega)).mp z) (by omega), fun _ => ⟨vp_in_nI (by omega) (by omega), ?_⟩⟩
        rw [nI_clamp (n := i) (by omega), hk.2 i hie, nI_clamp (n := q i) (by omega), (hag (41, 16, 0) (by simp [PS2])).2.1]
        refine ⟨vp_in_nI (by omega) (by omega), k77 L _ ρ1 d q e pr l1 hag hI hL hie rfl hn l2 (fun c hc => (l3 c).mp hc) (fun c => (hp c).trans ⟨?_, ?_⟩) hl hk⟩
        · rintro ⟨j, hj, _, hx⟩
          exact Or.inl ⟨j, hj, hx⟩
        · rintro (⟨j, hj, hx⟩ | ⟨hx, hy⟩)
          · exact ⟨j, hj, by omega, hx⟩
          · exact absurd ((l3 c).mpr hx) hy
  have st : ∀ {ρ1}, Ag (fun q => q = (41, 24, 0)) ρ ρ1 → iR ρ1 (40, 0, 0) 13 = nI (nS σ) ∧ iR ρ1 (40, 0, 0) 3 = nI (dA σ) ∧ iR ρ1 (41, 4, 0) = iR ρ (41, 4, 0) := fun ha => by
    rw [(ha (40, 0, 0) (by simp)).2.1]
    exact ⟨hR.1, hA, (ha (41, 4, 0) (by simp)).2.1⟩
  have k2 : ∀ (dd s : Nat) (ρ1 : Rs), s + dd = nS σ → Ag (fun q => q = (41, 24, 0)) ρ ρ1 → (∀ u a, u < s → a < dA σ → iR ρ1 (41, 24, 0) (12 * u + a) = nI (dO σ a)) → Y G [] ad0 M Q 2 (fun ad => [(0, .ref (ad (40, 0, 0))), (1, .int (nI s))]) (fun ad => []) ρ1 := by
    intro dd
    induction dd with
    | zero =>
      intro s ρ1 hdd hag hv
      have es : s = nS σ := by omega
      subst es
      refine T_Mo_surely_2 hG hM _ ρ1 ⟨fun _ => ?_, fun z => absurd (by rw [(st hag).1]; exact (nI_leI (by omega) (by omega)).mpr (Nat.le_refl _)) z⟩
      refine c_Mo_aims hG (Or.inr (Or.inl rfl)) (MR_ag hR hag (by simp) (by simp) (by simp)) hN (fun ad ρ2 q e hI hk hag2 => ⟨_, rfl, ?_⟩)
      refine k60 (nS σ) 0 ρ2 (d0 σ) q e (fun _ => false) (by omega) (Ag_tr (Ag_mono hag (fun q h => Or.inr (Or.inr h))) (Ag_mono hag2 (fun q h => h.elim Or.inl (fun h => Or.inr (Or.inl h))))) (hI _) ?_ (fun c => ⟨fun z => (by cases z), fun ⟨j, hj, _⟩ => absurd hj (by omega)⟩) (fun s a hs ha => ?_) hk
      · intro s a hs ha hf
        have := hf 0 (hO3 a ha).1
        cases this
      · rw [(hag2 (41, 24, 0) (by simp)).2.1, hv s a hs ha, cnt_0 (fun _ _ => rfl)]; rfl
    | succ dd ih =>
      intro s ρ1 hdd hag hv
      have hs : s < nS σ := by omega
      refine T_Mo_surely_2 hG hM _ ρ1 ⟨fun z => absurd (by rw [(st hag).1] at z; exact (nI_leI (by omega) (by omega)).mp z) (by omega), fun _ => ?_⟩
      have k12 : ∀ (da a : Nat) (ρ2 : Rs), a + da = dA σ → Ag (fun q => q = (41, 24, 0)) ρ ρ2 → (∀ u b, u < s → b < dA σ → iR ρ2 (41, 24, 0) (12 * u + b) = nI (dO σ b)) → (∀ b, b < a → iR ρ2 (41, 24, 0) (12 * s + b) = nI (dO σ b)) → Y G [] ad0 M Q 12 (fun ad => [(0, .ref (ad (40, 0, 0))), (1, .int (nI s)), (2, .int (nI a))]) (fun ad => []) ρ2 := by
        intro da
        induction da with
        | zero =>
          intro a ρ2 hda hag2 hv2 hv3
          refine T_Mo_surely_12 hG hM _ _ ρ2 ⟨fun _ => ?_, fun z => absurd (by rw [(st hag2).2.1]; exact (nI_leI (by omega) (by omega)).mpr (by omega)) z⟩
          rw [nI_1]
          refine ih (s + 1) ρ2 (by omega) hag2 (fun u b hu hb => ?_)
          by_cases e1 : u = s
          · subst e1; exact hv3 b (by omega)
          · exact hv2 u b (by omega) hb
        | succ da ih2 =>
          intro a ρ2 hda hag2 hv2 hv3
          have ha : a < dA σ := by omega
          have e12 : (12 : Int32) * nI s = nI (12 * s) := pk_mul 12 s
          refine T_Mo_surely_12 hG hM _ _ ρ2 ⟨fun z => absurd (by rw [(st hag2).2.1] at z; exact (nI_leI (by omega) (by omega)).mp z) (by omega), fun _ => ⟨vp_in_nI (by omega) (by omega), ?_⟩⟩
          rw [e12, nI_ad, nI_clamp (n := 12 * s + a) (by omega), nI_clamp (n := a) (by omega), (st hag2).2.2, hO a ha, nI_1 a]
          refine ⟨vp_in_nI (by omega) (by omega), fun ρ3 e3 => ?_⟩
          refine ih2 (a + 1) ρ3 (by omega) (Ag_tr hag2 (by rw [e3]; exact Ag_pI rfl)) (fun u b hu hb => ?_) (fun b hb => ?_)
          · rw [e3, iR_pI, if_neg (fun z => by have := z.2; omega)]; exact hv2 u b hu hb
          · rw [e3, iR_pI]
            by_cases e1 : b = a
            · subst e1; rw [if_pos ⟨rfl, rfl⟩]
            · rw [if_neg (fun z => by have := z.2; omega)]; exact hv3 b (by omega)
      exact k12 (dA σ) 0 ρ1 (by omega) hag hv (fun b hb => absurd hb (by omega))
  refine T_Mo_surely_0 hG hM ρ ?_
  exact k2 (nS σ) 0 ρ (by omega) Ag_rf (fun u a hu => absurd hu (by omega))
end B54
