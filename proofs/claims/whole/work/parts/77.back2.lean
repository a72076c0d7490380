/-! WINS: the class's search back -/
theorem nd_len {M : Nat} {g : Nat → Nat} : ∀ {l : List Nat} {p : Nat → Bool}, l.Nodup → (∀ x, x ∈ l → g x < M ∧ p (g x) = true) → (∀ x y, x ∈ l → y ∈ l → g x = g y → x = y) → l.length ≤ cnt p M
  | [], _, _, _, _ => Nat.zero_le _
  | x :: l, p, hd, h1, h2 => by
    have hx := List.nodup_cons.mp hd
    have h := nd_len (M := M) (g := g) (l := l) (p := va_up p (g x) false) hx.2 (fun y hy => ⟨(h1 y (List.mem_cons_of_mem _ hy)).1, by
      rw [upn (fun z => ?_)]
      · exact (h1 y (List.mem_cons_of_mem _ hy)).2
      · have := h2 y x (List.mem_cons_of_mem _ hy) List.mem_cons_self z
        rw [this] at hy
        exact hx.1 hy⟩) (fun a b ha hb => h2 a b (List.mem_cons_of_mem _ ha) (List.mem_cons_of_mem _ hb))
    have := cnt_one (p := va_up p (g x) false) (p' := p) (h1 x List.mem_cons_self).1 (fun j _ hj => (upn hj).symm) ups (h1 x List.mem_cons_self).2
    show l.length + 1 ≤ _
    omega
/-- edges are few -/
theorem ed_len {σ : Wd} {l : List Nat} (h12 : dA σ ≤ 12) (h3 : ∀ a, a < dA σ → dO σ a ≤ 3) (hd : l.Nodup) (hv : ∀ e, e ∈ l → vE σ e) : l.length ≤ 147456 := by
  refine Nat.le_trans (nd_len (M := 147456) (g := fun e => e / 16384 * 12288 + e / 4096 % 4 * 4096 + e % 4096) (p := fun _ => true) hd (fun e he => ⟨?_, rfl⟩) (fun e f he hf h => ?_)) (cnt_le _ _)
  · obtain ⟨v1, v2, v3⟩ := hv e he
    have := h3 _ v1
    show e / 16384 * 12288 + e / 4096 % 4 * 4096 + e % 4096 < 147456
    omega
  · obtain ⟨v1, v2, v3⟩ := hv e he
    obtain ⟨u1, u2, u3⟩ := hv f hf
    have := h3 _ v1
    have := h3 _ u1
    have h : e / 16384 * 12288 + e / 4096 % 4 * 4096 + e % 4096 = f / 16384 * 12288 + f / 4096 % 4 * 4096 + f % 4096 := h
    exact ed_inj (by omega) (by omega) (by omega)
def ZW (σ : Wd) (T : Nat → Prop) (w : Nat) : (Nat → Prop) → Nat → Nat → Prop := if w = 1 then ZMay else if w = 2 then ZMust σ else ZFair σ T
def gNo (w : Nat) : Ro := if w = 1 then (33, 3, 0) else if w = 2 then (33, 4, 0) else (33, 5, 0)
theorem ZW_1 {σ : Wd} {T : Nat → Prop} : ZW σ T 1 = ZMay := rfl
theorem ZW_2 {σ : Wd} {T : Nat → Prop} : ZW σ T 2 = ZMust σ := rfl
theorem ZW_3 {σ : Wd} {T : Nat → Prop} : ZW σ T 3 = ZFair σ T := rfl
theorem ZW_mono {σ : Wd} {T : Nat → Prop} {w : Nat} (hw : w = 1 ∨ w = 2 ∨ w = 3) {P P' : Nat → Prop} {s a : Nat} (hp : ∀ t, P t → P' t) (h : ZW σ T w P s a) : ZW σ T w P' s a := by
  rcases hw with e | e | e <;> subst e
  · trivial
  · exact fun k t hk ht => hp t (h k t hk ht)
  · exact h
theorem CZ_mono {σ : Wd} {T : Nat → Prop} {w : Nat} (hw : w = 1 ∨ w = 2 ∨ w = 3) : ∀ (P P' : Nat → Prop) (s : Nat), (∀ t, P t → P' t) → CZ σ (ZW σ T w) P s → CZ σ (ZW σ T w) P' s := by
  rintro P P' s hp ⟨h0, a, k, t, h1, h2, h3, h4, h5⟩
  exact ⟨h0, a, k, t, h1, h2, h3, ZW_mono hw hp h4, hp t h5⟩
theorem hZ_W {σ : Wd} {T : Nat → Prop} {w : Nat} {d : Nat → Option Nat} (hw : w = 1 ∨ w = 2 ∨ w = 3) : ∀ n s, s < nS σ → CZ σ (ZW σ T w) (upto d n) s → ∃ m a k t, m ≤ n ∧ a < dA σ ∧ k < dO σ a ∧ nxW σ s a k = some t ∧ d t = some m ∧ ZW σ T w (upto d m) s a := by
  rcases hw with e | e | e <;> subst e
  · exact hZ_may
  · exact hZ_must
  · exact hZ_fair
section B23
variable {G : Gc} {ρ : Rs} {K : (Ro → Nat) → Option Value → Rs → Prop}
theorem c_mayCome (hG : gok G) {σ : Wd} {T : Nat → Prop} {w n E : Nat} {d : Nat → Option Nat} (hw : w = 1 ∨ w = 2 ∨ w = 3) (hR : RWr ρ σ) (hv : vE σ E) (hc : canW σ (E % 4096) (E / 16384)) (h2 : w = 2 → nS σ ≤ nR ρ (33, 4, 0) ∧ ∀ s, s < nS σ → iR ρ (33, 4, 0) s = oI (d s)) (hdN : ∀ s m, s < nS σ → d s = some m → m < nS σ) (h3 : w = 3 → nS σ ≤ nR ρ (33, 7, 0) ∧ ∀ s, s < nS σ → (iR ρ (33, 7, 0) s = 0 ↔ ¬ T s)) (hn : n < 4096) (k1 : ZW σ T w (upto d n) (E % 4096) (E / 16384) → ∀ ad, K ad (some (.int 1)) ρ) (k0 : ¬ ZW σ T w (upto d n) (E % 4096) (E / 16384) → ∀ ad, K ad (some (.int 0)) ρ) : semV G r_Wi_mayCome [] (fun ad => [.ref (ad (6, 0, 0)), .ref (ad (1, 0, 0)), .int (nI E), .int (nI w), .int (nI n)]) ρ K := by
  have h12 := hR.2.1
  have h4 := hR.1.2.2.2.1
  obtain ⟨v1, v2, v3⟩ := hv
  have hO := hR.2.2.2.1 _ v1
  have hOx := hO.2.1
  have hOy := hO.2.2.1
  have hE : E < 2 ^ 31 := by omega
  refine semV_intro yk_Wi_mayCome.2.2.2.2 (fun _ => Nat.le_of_ble_eq_true rfl) (fun M Q ad0 hM => ?_)
  have key : w ≠ 1 → ∀ dd kk, kk + dd = dO σ (E / 16384) → (∀ j t, j < kk → nxW σ (E % 4096) (E / 16384) j = some t → if w = 2 then upto d n t else T t) → Y G [] ad0 M Q 27 (fun ad => [(0, .ref (ad (6, 0, 0))), (3, .int (nI w)), (4, .int (nI n)), (5, .ref (ad (20, E / 16384, 0))), (6, .int (nI (E % 4096))), (7, .int (nI kk))]) (fun ad => []) ρ := by
    intro hw1 dd
    induction dd with
    | zero =>
      intro kk hd hj
      have ek : kk = dO σ (E / 16384) := by omega
      subst ek
      refine T_Wi_mayCome_27 hG hM _ _ (E / 16384) (by omega) _ _ ρ ⟨fun _ => k1 ?_, fun z => absurd (by rw [hO.1]; exact (nI_leI (by omega) (by omega)).mpr (Nat.le_refl _)) z⟩
      rcases hw with e | e | e
      · exact absurd e hw1
      · subst e
        exact fun k t hk ht => hj k t hk ht
      · subst e
        exact fun k t hk ht => hj k t hk ht
    | succ dd ih =>
      intro kk hd hj
      have hk : kk < dO σ (E / 16384) := by omega
      have ht := nx_some hc (k := kk)
      obtain ⟨t, et⟩ : ∃ t, t = goW σ (dE σ (E / 16384) kk) (E % 4096) := ⟨_, rfl⟩
      rw [← et] at ht
      have htN := nx_lt (RWr_Es hR) v1 hk ht
      obtain ⟨rn, rv⟩ := RWr_to hR v1 hk v3
      rw [ht] at rv
      have rv : iR ρ (23, E / 16384, kk) (E % 4096) = nI t := rv
      refine T_Wi_mayCome_27 hG hM _ _ (E / 16384) (by omega) _ _ ρ ⟨fun z => absurd (by rw [hO.1] at z; exact (nI_leI (by omega) (by omega)).mp z) (by omega), fun _ => ⟨vp_in_nI (by omega) (by omega), ?_⟩⟩
      rw [nI_clamp (by omega), nI_clamp (by omega), rv, nI_clamp (by omega), nI_1]
      refine ⟨in_nI (by omega) (by omega), fun z => ?_, fun z => ?_⟩
      · have ew : w = 2 := by
          rcases hw with e | e | e
          · exact absurd e hw1
          · exact e
          · subst e; exact absurd z (by decide)
        subst ew
        obtain ⟨m1, m2⟩ := h2 rfl
        rw [m2 t htN]
        have hm1 := oI_m1 (o := d t) (fun m hm => by have := hdN t m htN hm; omega)
        refine ⟨in_nI (by omega) (by omega), fun y => k0 (fun hz => ?_), fun y => ⟨in_nI (by omega) (by omega), ?_⟩⟩
        · obtain ⟨m, _, hm⟩ := hz kk t hk ht
          rw [hm1.mp y] at hm; cases hm
        · cases hx : d t with
          | none => exact absurd (hm1.mpr hx) y
          | some m =>
            have := hdN t m htN hx
            show (nI m ≤ nI n → _) ∧ (¬ nI m ≤ nI n → _)
            rw [nI_leI (by omega) (by omega)]
            refine ⟨fun x => ih (kk + 1) (by omega) (fun j u hj2 hu => ?_), fun x => k0 (fun hz => ?_)⟩
            · by_cases e : j = kk
              · subst e
                rw [ht] at hu
                cases hu
                rw [if_pos rfl]
                exact ⟨m, x, hx⟩
              · exact hj j u (by omega) hu
            · obtain ⟨m', h5, hm⟩ := hz kk t hk ht
              rw [hx] at hm
              cases hm
              exact x h5
      · have ew : w = 3 := by
          rcases hw with e | e | e
          · exact absurd e hw1
          · subst e; exact absurd rfl z
          · exact e
        subst ew
        obtain ⟨m1, m2⟩ := h3 rfl
        refine ⟨in_nI (by omega) (by omega), fun y => k0 (fun hz => (m2 t htN).mp y (hz kk t hk ht)), fun y => ih (kk + 1) (by omega) (fun j u hj2 hu => ?_)⟩
        by_cases e : j = kk
        · subst e
          rw [ht] at hu
          cases hu
          rw [if_neg (by decide)]
          exact Classical.byContradiction (fun q => y ((m2 t htN).mpr q))
        · exact hj j u (by omega) hu
  refine T_Wi_mayCome_0 hG hM _ _ _ ρ ⟨fun z => k1 ?_, fun z => ?_⟩
  · have ew : w = 1 := by
      rcases hw with e | e | e
      · exact e
      · subst e; exact absurd z (by decide)
      · subst e; exact absurd z (by decide)
    subst ew
    trivial
  · have hw1 : w ≠ 1 := fun e => z (by rw [e]; rfl)
    refine c_actOf hG hE (fun ad => ⟨_, rfl, in_nI (by omega) (by omega), ?_⟩)
    refine c_stateOf hG hE (fun ad => ⟨_, rfl, ?_⟩)
    rw [nI_clamp (by omega)]
    exact key hw1 _ 0 (Nat.zero_add _) (fun j t hj => absurd hj (by omega))
end B23
