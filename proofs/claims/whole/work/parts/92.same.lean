/-! WORLDS THAT DIFFER IN START, AIM OR COVER ALONE -/
def EqC (σ τ : Wd) : Prop := dT τ = dT σ ∧ dS τ = dS σ ∧ dA τ = dA σ ∧ dO τ = dO σ ∧ dE τ = dE σ ∧ ∀ x, x < dA σ → dC τ x = dC σ x
theorem eq_nS {σ τ : Wd} (h : EqC σ τ) : nS τ = nS σ := by unfold nS; rw [h.1, h.2.1]
theorem eq_vl {σ τ : Wd} (h : EqC σ τ) : vl τ = vl σ := by unfold vl; rw [h.2.1]
theorem eq_hold {σ τ : Wd} (h : EqC σ τ) {L : List Ce} {s : Nat} : holdW τ L s = holdW σ L s := by unfold holdW; rw [eq_vl h]
theorem eq_go {σ τ : Wd} (h : EqC σ τ) {L : List Ce} {s : Nat} : goW τ L s = goW σ L s := by
  have e1 : ∀ c, eff τ s c = eff σ s c := fun c => by unfold eff; rw [eq_vl h, h.2.1]
  have e2 : nval τ L s = nval σ L s := by
    funext t
    unfold nval
    rw [eq_vl h]
    cases L.reverse.find? (fun c => c.1 == t) with
    | none => rfl
    | some c => exact e1 c
  unfold goW
  rw [e2, h.1, h.2.1]
theorem eq_nx {σ τ : Wd} (h : EqC σ τ) {s a k : Nat} (ha : a < dA σ) : nxW τ s a k = nxW σ s a k := by
  unfold nxW
  rw [h.2.2.2.2.2 a ha, eq_hold h, eq_go h, h.2.2.2.2.1]
theorem eq_can {σ τ : Wd} (h : EqC σ τ) {s a : Nat} (ha : a < dA σ) : canW τ s a ↔ canW σ s a := by
  unfold canW
  rw [h.2.2.2.2.2 a ha, eq_hold h]
theorem eq_stp {σ τ : Wd} (h : EqC σ τ) : stp τ = stp σ := by
  funext s t
  apply propext
  unfold stp
  rw [h.2.2.1, h.2.2.2.1]
  constructor
  · rintro ⟨a, k, h1, h2, h3⟩; exact ⟨a, k, h1, h2, by rw [← eq_nx h h1]; exact h3⟩
  · rintro ⟨a, k, h1, h2, h3⟩; exact ⟨a, k, h1, h2, by rw [eq_nx h h1]; exact h3⟩
theorem eq_rch {σ τ : Wd} (h : EqC σ τ) (hB : dB τ = dB σ) : rch τ = rch σ := by
  funext n
  induction n with
  | zero => funext s; show (s = dB τ) = (s = dB σ); rw [hB]
  | succ n ih => funext s; show (∃ u, rch τ n u ∧ stp τ u s) = ∃ u, rch σ n u ∧ stp σ u s; rw [ih, eq_stp h]
theorem eq_dist {σ τ : Wd} (h : EqC σ τ) (hB : dB τ = dB σ) {d : Nat → Option Nat} (hd : isDist σ d) : isDist τ d := by
  unfold isDist isD at *
  rw [eq_nS h, eq_rch h hB]; exact hd
theorem eq_mm {σ τ : Wd} (h : EqC σ τ) : mm τ = mm σ := by
  funext u t
  unfold mm
  rw [h.2.2.1, h.2.2.2.1]
  refine sm_congr (fun a ha => sm_congr (fun k _ => ?_))
  unfold ed1
  rw [eq_nx h ha]
theorem eq_wkF {σ τ : Wd} (h : EqC σ τ) (hB : dB τ = dB σ) : wkF τ = wkF σ := by
  funext n
  induction n with
  | zero => funext s; show (if s = dB τ then 1 else 0) = if s = dB σ then 1 else 0; rw [hB]
  | succ n ih => funext s; show sm (fun v => wkF τ n v * mm τ v s) (nS τ) = sm (fun v => wkF σ n v * mm σ v s) (nS σ); rw [ih, eq_mm h, eq_nS h]
theorem eq_RSt {ρ : Rs} {σ τ : Wd} (h : EqC σ τ) (hB : dB τ = dB σ) (hr : RSt ρ σ) : RSt ρ τ := by
  obtain ⟨d, h1, h2, h3, h4, h5, h6, h7⟩ := hr
  unfold RSt
  rw [eq_nS h, eq_wkF h hB]
  exact ⟨d, eq_dist h hB h1, h2, h3, h4, h5, h6, h7⟩
/-- the aim is the same, too -/
theorem eq_aim {σ τ : Wd} (h : EqC σ τ) (h12 : dC τ 12 = dC σ 12) : aimW τ = aimW σ := by
  funext s
  unfold aimW
  rw [h12, eq_hold h]
theorem eq_aimP {σ τ : Wd} (h : EqC σ τ) (h12 : dC τ 12 = dC σ 12) : aimP τ = aimP σ := by
  funext s
  unfold aimP
  rw [eq_nS h, eq_aim h h12]
theorem eq_RM {ρ : Rs} {σ τ : Wd} (h : EqC σ τ) (h12 : dC τ 12 = dC σ 12) (hr : RM ρ σ) : RM ρ τ := by
  unfold RM at *
  rw [eq_nS h, eq_aim h h12]; exact hr
theorem eq_CZ {σ τ : Wd} (h : EqC σ τ) {Z Z' : (Nat → Prop) → Nat → Nat → Prop} (hz : ∀ P s a, a < dA σ → (Z' P s a ↔ Z P s a)) : CZ τ Z' = CZ σ Z := by
  funext P s
  apply propext
  unfold CZ
  rw [eq_nS h, h.2.2.1, h.2.2.2.1]
  constructor
  · rintro ⟨h0, a, k, t, h1, h2, h3, h4, h5⟩; exact ⟨h0, a, k, t, h1, h2, by rw [← eq_nx h h1]; exact h3, (hz P s a h1).mp h4, h5⟩
  · rintro ⟨h0, a, k, t, h1, h2, h3, h4, h5⟩; exact ⟨h0, a, k, t, h1, h2, by rw [eq_nx h h1]; exact h3, (hz P s a h1).mpr h4, h5⟩
theorem eq_must {σ τ : Wd} (h : EqC σ τ) {P : Nat → Prop} {s a : Nat} (ha : a < dA σ) : ZMust τ P s a ↔ ZMust σ P s a := by
  unfold ZMust
  rw [h.2.2.2.1]
  exact ⟨fun g k t hk ht => g k t hk (by rw [eq_nx h ha]; exact ht), fun g k t hk ht => g k t hk (by rw [← eq_nx h ha]; exact ht)⟩
theorem eq_trs {σ τ : Wd} (h : EqC σ τ) (h12 : dC τ 12 = dC σ 12) : trs τ = trs σ := by
  funext i
  induction i with
  | zero => funext s; show (s < nS τ) = (s < nS σ); rw [eq_nS h]
  | succ i ih =>
    funext s
    show hasL τ (trs τ i) s = hasL σ (trs σ i) s
    unfold hasL
    have e1 : CFair τ (trs τ i) = CZ τ (ZFair τ (trs τ i)) := by funext P s; exact propext CZ_fair.symm
    have e2 : CFair σ (trs σ i) = CZ σ (ZFair σ (trs σ i)) := by funext P s; exact propext CZ_fair.symm
    rw [e1, e2, eq_aimP h h12, ih]
    rw [eq_CZ h (Z := ZFair σ (trs σ i)) (Z' := ZFair τ (trs σ i)) (fun P s a ha => eq_must h (P := trs σ i) ha)]
theorem eq_No {σ τ : Wd} (h : EqC σ τ) (h12 : dC τ 12 = dC σ 12) {w : Nat} {d : Nat → Option Nat} (hn : isNo σ w d) : isNo τ w d := by
  unfold isNo at *
  split
  · rename_i e
    rw [if_pos e] at hn
    rw [eq_aimP h h12, eq_CZ h (Z := ZMay) (Z' := ZMay) (fun _ _ _ _ => Iff.rfl)]; exact hn
  · rename_i e
    rw [if_neg e] at hn
    split
    · rename_i e2
      rw [if_pos e2] at hn
      rw [eq_aimP h h12, eq_CZ h (Z := ZMust σ) (Z' := ZMust τ) (fun P s a ha => eq_must h ha)]; exact hn
    · rename_i e2
      rw [if_neg e2] at hn
      obtain ⟨i, h1, h2⟩ := hn
      refine ⟨i, by rw [eq_trs h h12]; exact h1, ?_⟩
      rw [eq_aimP h h12, eq_trs h h12, eq_CZ h (Z := ZFair σ (trs σ i)) (Z' := ZFair τ (trs σ i)) (fun P s a ha => eq_must h (P := trs σ i) ha)]; exact h2
theorem eq_RNu {ρ : Rs} {σ τ : Wd} (h : EqC σ τ) (h12 : dC τ 12 = dC σ 12) {w : Nat} (hr : RNu ρ σ w) : RNu ρ τ w := by
  obtain ⟨d, h1, h2, h3, h4⟩ := hr
  unfold RNu
  rw [eq_nS h]
  exact ⟨d, eq_No h h12 h1, h2, h3, h4⟩
theorem eq_ekv {σ τ : Wd} (h : EqC σ τ) (h12 : dC τ 12 = dC σ 12) : ekv τ = ekv σ := by
  funext n
  induction n with
  | zero => funext s t; show (aimW τ s = aimW τ t) = (aimW σ s = aimW σ t); rw [eq_aim h h12]
  | succ n ih =>
    funext s t
    apply propext
    show (ekv τ n s t ∧ ∀ a, a < dA τ → mch τ (ekv τ n) s t a) ↔ (ekv σ n s t ∧ ∀ a, a < dA σ → mch σ (ekv σ n) s t a)
    rw [ih, h.2.2.1]
    have em : ∀ a, a < dA σ → (mch τ (ekv σ n) s t a ↔ mch σ (ekv σ n) s t a) := by
      intro a ha
      have eg : ∀ s k, goA τ s a k = goA σ s a k := fun s k => by unfold goA; rw [eq_go h, h.2.2.2.2.1]
      unfold mch
      rw [eq_can h ha, eq_can h ha, h.2.2.2.1]
      simp only [eg]
    exact ⟨fun g => ⟨g.1, fun a ha => (em a ha).mp (g.2 a ha)⟩, fun g => ⟨g.1, fun a ha => (em a ha).mpr (g.2 a ha)⟩⟩
theorem eq_alk {σ τ : Wd} (h : EqC σ τ) (h12 : dC τ 12 = dC σ 12) : alk τ = alk σ := by
  funext s t
  unfold alk
  rw [eq_ekv h h12]
theorem eq_RKd {ρ : Rs} {σ τ : Wd} (h : EqC σ τ) (h12 : dC τ 12 = dC σ 12) (hr : RKd ρ σ) : RKd ρ τ := by
  unfold RKd at *
  rw [eq_nS h, eq_alk h h12]; exact hr
/-- the world itself -/
theorem eq_RT {ρ : Rs} {σ τ : Wd} (h : EqC σ τ) (hr : RT ρ σ) : RT ρ τ := by
  unfold RT wt at *
  rw [eq_nS h, h.1, h.2.1]; exact hr
theorem eq_RA {ρ : Rs} {σ τ : Wd} (h : EqC σ τ) {a : Nat} (ha : a < dA σ) (hr : RA ρ σ a) : RA ρ τ a := by
  unfold RA at *
  rw [h.2.2.2.1, h.2.2.2.2.1, h.2.2.2.2.2 a ha, h.1, h.2.1]; exact hr
theorem eq_pk {σ τ : Wd} (h : EqC σ τ) : pkW τ = pkW σ := by
  unfold pkW
  simp only [h.1, h.2.1]
theorem eq_RP {ρ : Rs} {σ τ : Wd} (h : EqC σ τ) (hr : RP ρ σ) : RP ρ τ := by
  unfold RP at *
  rw [eq_nS h, eq_pk h]; exact hr
theorem eq_RF {ρ : Rs} {σ τ : Wd} (h : EqC σ τ) {a : Nat} (ha : a < dA σ) (hr : RF ρ σ a) : RF ρ τ a := by
  unfold RF at *
  rw [eq_nS h, h.2.2.2.1]
  intro k hk
  have := hr k hk
  simp only [eq_nx h ha]; exact this
theorem eq_RLc {ρ : Rs} {σ τ : Wd} (h : EqC σ τ) {c : Nat} (hr : RLc ρ σ c) : RLc ρ τ c := by
  obtain ⟨ch, hch⟩ := hr
  refine ⟨ch, fun x hx => ?_⟩
  rw [eq_nS h] at hx
  obtain ⟨h1, h2, h3⟩ := hch x hx
  refine ⟨h1, fun e => ?_, h3⟩
  rw [h2 e]
  have ev : vE τ e ↔ vE σ e := by unfold vE; rw [eq_nS h, h.2.2.1, h.2.2.2.1]
  rw [ev]
  constructor
  · rintro ⟨g1, g2, g3⟩; exact ⟨g1, g2, by unfold nxE; rw [eq_nx h g1.1]; exact g3⟩
  · rintro ⟨g1, g2, g3⟩; exact ⟨g1, g2, by unfold nxE at g3; rw [eq_nx h g1.1] at g3; exact g3⟩
theorem eq_RWo {ρ : Rs} {σ τ : Wd} (h : EqC σ τ) (hr : RWo ρ σ) : RWo ρ τ := by
  obtain ⟨h1, h2, h3, h4, h5, h6, h7⟩ := hr
  have hA := h.2.2.1
  refine ⟨eq_RT h h1, by rw [hA]; exact h2, by rw [hA]; exact h3, fun a ha => ?_, fun z => eq_RP h (h5 z), fun a ha z => ?_, fun z => ?_⟩
  · rw [hA] at ha; exact eq_RA h ha (h4 a ha)
  · rw [hA] at ha; exact eq_RF h ha (h6 a ha z)
  · obtain ⟨g1, g2, g3⟩ := h7 z
    refine ⟨eq_RP h g1, fun a ha => ?_, ?_⟩
    · rw [hA] at ha; exact eq_RF h ha (g2 a ha)
    · rw [hA]; exact eq_RLc h g3
