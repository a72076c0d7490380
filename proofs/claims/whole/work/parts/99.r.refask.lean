/-! THE REFERENCE ANSWERS: count, of, best -/
theorem in_5 {v : Int32} : (¬ v < 0 ∧ ¬ 4 < v) ↔ vp_in v 5 := by
  have h := in_iff (v := v) (n := 5) (by omega)
  rw [show nI 5 - 1 = (4 : Int32) by decide] at h
  exact h
theorem in_rg {v : Int32} {a b : Nat} (hab : a ≤ b) (hb : b < 2 ^ 30) : (¬ v < nI a ∧ ¬ nI b < v) ↔ ∃ z, a ≤ z ∧ z ≤ b ∧ v = nI z := by
  rw [Int32.lt_iff_toInt_lt, Int32.lt_iff_toInt_lt, nI_toInt (by omega), nI_toInt (by omega)]
  constructor
  · rintro ⟨h1, h2⟩
    obtain ⟨j, hj, e⟩ := vp_in_of (x := v) (n := b + 1) (vp_in_iff.mpr ⟨by omega, by omega⟩) (by omega)
    rw [e, nI_toInt (by omega)] at h1 h2
    exact ⟨j, by omega, by omega, e⟩
  · rintro ⟨x, h1, h2, e⟩
    rw [e, nI_toInt (by omega)]; omega
theorem oI01 {o : Option Nat} (h : ∀ n, o = some n → n < 2 ^ 31) : (if oI o = -1 then (0 : Int32) else 1) = bI o.isSome := by
  have hm := oI_m1 h
  cases o with
  | none => rw [if_pos (by rfl)]; rfl
  | some n => rw [if_neg (fun z => by have := hm.mp z; cases this)]; rfl
def cxC (v a19 a15 a20 a21 a22 : Int32) : Int32 := if v = 3 then (if a19 = (-1) then 0 else 1) else (if v = 4 then a15 else (if v = 5 then (if a20 = (-1) then 0 else 1) else (if v = 6 then (if a21 = (-1) then 0 else 1) else (if v = 7 then (if a22 = (-1) then 0 else 1) else (if a19 = (-1) then 0 else (if a20 = (-1) then 1 else 0))))))
def bC (v : Int32) (o : Option Nat) (m : Bool) (o1 o2 o3 : Option Nat) : Bool := if v = 3 then o.isSome else if v = 4 then m else if v = 5 then o1.isSome else if v = 6 then o2.isSome else if v = 7 then o3.isSome else o.isSome && !o1.isSome
theorem cxC_eq {v : Int32} {o o1 o2 o3 : Option Nat} {m : Bool} (h : ∀ n, o = some n → n < 2 ^ 31) (h1 : ∀ n, o1 = some n → n < 2 ^ 31) (h2 : ∀ n, o2 = some n → n < 2 ^ 31) (h3 : ∀ n, o3 = some n → n < 2 ^ 31) : cxC v (oI o) (bI m) (oI o1) (oI o2) (oI o3) = bI (bC v o m o1 o2 o3) := by
  have hm := oI_m1 h
  have hm1 := oI_m1 h1
  have l : (if oI o = (-1) then (0 : Int32) else (if oI o1 = (-1) then 1 else 0)) = bI (o.isSome && !o1.isSome) := by
    cases o with
    | none => rw [if_pos (by rfl)]; rfl
    | some n =>
      rw [if_neg (fun z => by have := hm.mp z; cases this)]
      cases o1 with
      | none => rw [if_pos (by rfl)]; rfl
      | some n => rw [if_neg (fun z => by have := hm1.mp z; cases this)]; rfl
  unfold cxC bC
  rw [oI01 h, oI01 h1, oI01 h2, oI01 h3, l]
  split
  · rfl
  · split
    · rfl
    · split
      · rfl
      · split
        · rfl
        · split <;> rfl
theorem nI_bI (n : Nat) (b : Bool) : nI n + bI b = nI (n + if b = true then 1 else 0) := by
  cases b
  · exact nI_ad n 0
  · exact nI_ad n 1
section B59
variable {G : Gc} {ρ : Rs} {K : (Ro → Nat) → Option Value → Rs → Prop}
theorem cM_count (hG : gok G) {σ : Wd} {v : Int32} (h : RMo ρ σ) (hW : Wok σ) (k : ∀ ad ρ' r, RMo ρ' σ → anCnt σ v r → Ag PMo ρ ρ' → K ad (some (.int r)) ρ') : semV G r_Mo_count [] (fun ad => [.ref (ad (40, 0, 0)), .int v]) ρ K := by
  have hN := hW.2.2.1
  refine semV_intro yk_Mo_count.2.2.2.2 (fun _ => Nat.le_of_ble_eq_true rfl) (fun M Q ad0 hM => ?_)
  refine T_Mo_count_0 hG hM _ ρ ?_
  refine c_Mo_lay hG h hW (fun ad ρ1 hr hl hag => ⟨rfl, ?_⟩)
  obtain ⟨l1, l2, l3, ⟨d, l4, l5, l6⟩, l7⟩ := hl
  obtain ⟨d1, n1, m1, r1⟩ := l7 1 (by omega) (by omega)
  obtain ⟨d2, n2, m2, r2⟩ := l7 2 (by omega) (by omega)
  obtain ⟨d3, n3, m3, r3⟩ := l7 3 (by omega) (by omega)
  have key : ∀ (fin : anCnt σ v (nI (cnt (fun s => bC v (d s) (aimW σ s) (d1 s) (d2 s) (d3 s)) (nS σ)))) (dd s : Nat), s + dd = nS σ → Y G [] ad0 M Q 108 (fun ad => [(0, .ref (ad (40, 0, 0))), (1, .int v), (2, .int (nI (cnt (fun s => bC v (d s) (aimW σ s) (d1 s) (d2 s) (d3 s)) s))), (3, .int (nI s))]) (fun ad => []) ρ1 := by
    intro fin dd
    induction dd with
    | zero =>
      intro s hs
      have es : s = nS σ := by omega
      subst es
      exact T_Mo_count_108 hG hM _ _ _ ρ1 ⟨fun _ ad => k ad ρ1 _ hr fin hag, fun z => absurd (by rw [l1]; exact (nI_leI (by omega) (by omega)).mpr (Nat.le_refl _)) z⟩
    | succ dd ih =>
      intro s hs
      have hsN : s < nS σ := by omega
      have inn : vp_in (nI s) 4096 := vp_in_nI (by omega) (by omega)
      refine T_Mo_count_108 hG hM _ _ _ ρ1 ⟨fun z => absurd (by rw [l1] at z; exact (nI_leI (by omega) (by omega)).mp z) (by omega), fun _ => ⟨⟨fun _ => inn, fun _ => ⟨fun _ => inn, fun _ => ⟨fun _ => inn, fun _ => ⟨fun _ => inn, fun _ => ⟨fun _ => inn, fun _ => ⟨inn, fun _ => inn⟩⟩⟩⟩⟩⟩, ?_⟩⟩
      have r1 := r1 s hsN
      have r2 := r2 s hsN
      have r3 := r3 s hsN
      have r1 : iR ρ1 (41, 20, 0) s = oI (d1 s) := r1
      have r2 : iR ρ1 (41, 21, 0) s = oI (d2 s) := r2
      have r3 : iR ρ1 (41, 22, 0) s = oI (d3 s) := r3
      rw [nI_clamp (n := s) (by omega), l6 s hsN, l3 s hsN, r1, r2, r3, nI_1 s]
      intro z9 e9 z10 e10
      have e9 : z9 = bI (bC v (d s) (aimW σ s) (d1 s) (d2 s) (d3 s)) := e9.trans (cxC_eq (fun n hn => by have := l5 s n hsN hn; omega) (fun n hn => by have := (m1 s n hn).2; omega) (fun n hn => by have := (m2 s n hn).2; omega) (fun n hn => by have := (m3 s n hn).2; omega))
      have e10 : z10 = bI (bC v (d s) (aimW σ s) (d1 s) (d2 s) (d3 s)) := by
        rw [e10, e9]
        cases bC v (d s) (aimW σ s) (d1 s) (d2 s) (d3 s) <;> rfl
      rw [e10, nI_bI]
      exact ih (s + 1) (by omega)
  have inr : (¬ v < 3 ∧ ¬ 8 < v) ↔ ∃ z, 3 ≤ z ∧ z ≤ 8 ∧ v = nI z := in_rg (a := 3) (b := 8) (by omega) (by omega)
  have mid : (v = 3 ∨ v = 4 ∨ v = 5 ∨ v = 6 ∨ v = 7 ∨ v = 8) → semV G r_Mo_isIn [] (fun ad => [.int v, .int 3, .int 8]) ρ1 (fun ad u5 ρ4 => ∃ x7 : Int32, u5 = some (.int x7) ∧ ((x7 = 0 → (∀ ad, K ad (some (.int (-2))) ρ4)) ∧ (¬ x7 = 0 → (Y G [] ad0 M Q 108 (fun ad => [(0, .ref (ad (40, 0, 0))), (1, .int v), (2, .int 0), (3, .int 0)]) (fun ad => []) ρ4)))) := by
    intro hv
    have hin : ¬ v < 3 ∧ ¬ 8 < v := by rcases hv with e | e | e | e | e | e <;> rw [e] <;> decide
    refine c_isIn hG (fun _ ad => ⟨_, rfl, fun z => absurd z (by decide), fun _ => ?_⟩) (fun z => absurd hin z)
    refine key ?_ (nS σ) 0 (by omega)
    unfold anCnt
    rcases hv with e | e | e | e | e | e
    · exact Or.inr (Or.inr (Or.inr (Or.inl ⟨e, d, l4, by rw [e]; rfl⟩)))
    · exact Or.inr (Or.inr (Or.inr (Or.inr (Or.inl ⟨e, by rw [e]; rfl⟩))))
    · exact Or.inr (Or.inr (Or.inr (Or.inr (Or.inr (Or.inl ⟨e, d1, n1, by rw [e]; rfl⟩)))))
    · exact Or.inr (Or.inr (Or.inr (Or.inr (Or.inr (Or.inr (Or.inl ⟨e, d2, n2, by rw [e]; rfl⟩))))))
    · exact Or.inr (Or.inr (Or.inr (Or.inr (Or.inr (Or.inr (Or.inr (Or.inl ⟨e, d3, n3, by rw [e]; rfl⟩)))))))
    · exact Or.inr (Or.inr (Or.inr (Or.inr (Or.inr (Or.inr (Or.inr (Or.inr (Or.inl ⟨e, d, d1, l4, n1, by rw [e]; rfl⟩))))))))
  refine ⟨fun e ad => ?_, fun e ad => ?_, fun e ad => ?_, fun e => mid (by simp [e]), fun e => mid (by simp [e]), fun e => mid (by simp [e]), fun e => mid (by simp [e]), fun e => mid (by simp [e]), fun e => mid (by simp [e]), fun e => ?_, fun e ad => ?_, fun q0 q1 q2 q3 q4 q5 q6 q7 q8 q9 q10 => ?_⟩
  · exact k ad ρ1 _ hr (Or.inl ⟨e, l1⟩) hag
  · exact k ad ρ1 _ hr (Or.inr (Or.inl ⟨e, hr.1.1.1⟩)) hag
  · exact k ad ρ1 _ hr (Or.inr (Or.inr (Or.inl ⟨e, hr.1.2.2.1⟩))) hag
  · refine c_Mo_partAll hG hr hW (fun ad ρ2 hr2 hl2 hp2 hag2 => ⟨rfl, fun ad => ?_⟩)
    obtain ⟨_, f, f1, f2⟩ := hp2
    rw [f2]
    exact k ad ρ2 _ hr2 (Or.inr (Or.inr (Or.inr (Or.inr (Or.inr (Or.inr (Or.inr (Or.inr (Or.inr (Or.inl ⟨e, f, f1, rfl⟩)))))))))) (Ag_tr hag hag2)
  · exact k ad ρ1 _ hr (Or.inr (Or.inr (Or.inr (Or.inr (Or.inr (Or.inr (Or.inr (Or.inr (Or.inr (Or.inr (Or.inl ⟨e, hr.1.2.2.2.2.2.2⟩))))))))))) hag
  · refine c_isIn hG (fun hin => ?_) (fun _ ad => ⟨_, rfl, fun _ ad => ?_, fun z => absurd rfl z⟩)
    · exfalso
      obtain ⟨z, z1, z2, e⟩ := inr.mp hin
      have : z = 3 ∨ z = 4 ∨ z = 5 ∨ z = 6 ∨ z = 7 ∨ z = 8 := by omega
      rcases this with x | x | x | x | x | x <;> subst x
      · exact q3 e
      · exact q4 e
      · exact q5 e
      · exact q6 e
      · exact q7 e
      · exact q8 e
    · exact k ad ρ1 _ hr (Or.inr (Or.inr (Or.inr (Or.inr (Or.inr (Or.inr (Or.inr (Or.inr (Or.inr (Or.inr (Or.inr ⟨q0, q1, q2, q3, q4, q5, q6, q7, q8, q9, q10, rfl⟩))))))))))) hag
theorem cM_of (hG : gok G) {σ : Wd} {v w : Int32} (h : RMo ρ σ) (hW : Wok σ) (k : ∀ ad ρ' r, RMo ρ' σ → anOf σ v w r → Ag PMo ρ ρ' → K ad (some (.int r)) ρ') : semV G r_Mo_of [] (fun ad => [.ref (ad (40, 0, 0)), .int v, .int w]) ρ K := by
  have hN := hW.2.2.1
  have bad : ¬ (vp_in v (nS σ) ∧ vp_in w 5) → ∀ ad, K ad (some (.int (-2))) ρ := fun hno ad => k ad ρ _ h (Or.inl ⟨hno, rfl⟩) Ag_rf
  refine semV_intro yk_Mo_of.2.2.2.2 (fun _ => Nat.le_of_ble_eq_true rfl) (fun M Q ad0 hM => ?_)
  refine T_Mo_of_0 hG hM _ _ ρ ?_
  refine c_Mo_isState hG h.1.1 (fun hv ad => ⟨_, rfl, fun z => absurd z (by decide), fun _ => ?_⟩) (fun hv ad => ⟨_, rfl, fun _ => bad (fun z => hv z.1), fun z => absurd rfl z⟩)
  refine c_isIn hG (fun hw ad => ⟨_, rfl, fun z => absurd z (by decide), fun _ => ?_⟩) (fun hw ad => ⟨_, rfl, fun _ => bad (fun z => hw (in_5.mpr z.2)), fun z => absurd rfl z⟩)
  obtain ⟨s, hs, ev⟩ := vp_in_of hv (by omega)
  subst ev
  refine c_Mo_lay hG h hW (fun ad ρ1 hr hl hag => ⟨rfl, ?_⟩)
  obtain ⟨l1, l2, l3, ⟨d, l4, l5, l6⟩, l7⟩ := hl
  have inn : vp_in (nI s) 4096 := vp_in_nI (by omega) (by omega)
  have num : ∀ x, 1 ≤ x → x ≤ 3 → w = nI x → ∀ ad, K ad (some (.int (iR ρ1 (41, 19 + x, 0) s))) ρ1 := fun x x1 x2 ew ad => by
    obtain ⟨e, n1, m1, r1⟩ := l7 x x1 x2
    rw [r1 s hs]
    exact k ad ρ1 _ hr (Or.inr ⟨s, hs, rfl, Or.inr (Or.inl ⟨x, x1, x2, ew, e, n1, rfl⟩)⟩) hag
  rw [nI_clamp (n := s) (by omega)]
  refine ⟨fun e => ⟨inn, fun ad => ?_⟩, fun e => ⟨inn, num 1 (by omega) (by omega) e⟩, fun e => ⟨inn, num 2 (by omega) (by omega) e⟩, fun e => ⟨inn, num 3 (by omega) (by omega) e⟩, fun q0 q1 q2 q3 => ?_⟩
  · rw [l6 s hs]
    exact k ad ρ1 _ hr (Or.inr ⟨s, hs, rfl, Or.inl ⟨e, d, l4, rfl⟩⟩) hag
  · have e4 : w = 4 := by
      obtain ⟨z, hz, e⟩ := vp_in_of (in_5.mp hw) (by omega)
      have : z = 0 ∨ z = 1 ∨ z = 2 ∨ z = 3 ∨ z = 4 := by omega
      rcases this with x | x | x | x | x <;> subst x
      · exact absurd e q0
      · exact absurd e q1
      · exact absurd e q2
      · exact absurd e q3
      · exact e
    refine c_Mo_partAll hG hr hW (fun ad ρ2 hr2 hl2 hp2 hag2 => ⟨rfl, ?_⟩)
    obtain ⟨⟨p, p1, p2⟩, -⟩ := hp2
    have key : ∀ (dd f : Nat), f + dd = s → (∀ u, u < f → p u ≠ p s) → Y G [] ad0 M Q 90 (fun ad => [(0, .ref (ad (40, 0, 0))), (1, .int (nI s)), (3, .int (nI f))]) (fun ad => []) ρ2 := by
      intro dd
      induction dd with
      | zero =>
        intro f hf hno
        have ef : f = s := by omega
        subst ef
        refine T_Mo_of_90 hG hM _ _ ρ2 ⟨inn, inn, fun _ ad => ?_, fun z => absurd rfl z⟩
        exact k ad ρ2 _ hr2 (Or.inr ⟨f, hs, rfl, Or.inr (Or.inr ⟨e4, f, Nat.le_refl _, alk_refl _, fun q hq ha => hno q hq ((p2 q f (by omega) hs).mpr ha), rfl⟩)⟩) (Ag_tr hag hag2)
      | succ dd ih =>
        intro f hf hno
        have b1 := p1 f (by omega)
        have b2 := p1 s hs
        refine T_Mo_of_90 hG hM _ _ ρ2 ⟨vp_in_nI (by omega) (by omega), inn, ?_⟩
        rw [nI_clamp (n := f) (by omega), nI_clamp (n := s) (by omega), b1.1, b2.1, nI_1 f]
        refine ⟨fun z ad => ?_, fun z => ih (f + 1) (by omega) (fun u hu => ?_)⟩
        · have z : p f = p s := (nI_eq (by omega) (by omega)).mp z
          have ha := (p2 f s (by omega) hs).mp z
          exact k ad ρ2 _ hr2 (Or.inr ⟨s, hs, rfl, Or.inr (Or.inr ⟨e4, f, by omega, ha, fun q hq hqa => hno q hq ((p2 q s (by omega) hs).mpr (alk_trans hqa ha)), rfl⟩)⟩) (Ag_tr hag hag2)
        · by_cases e : u = f
          · rw [e]; exact fun y => z (by rw [y])
          · exact hno u (by omega)
    exact key s 0 (by omega) (fun u hu => absurd hu (by omega))
/-- by an outcome's number -/
def lsB (n : Nat) (o : Option Nat) : Bool := match o with
  | some m => decide (m < n)
  | none => false
def anyB (f : Nat → Bool) : Nat → Bool
  | 0 => false
  | n + 1 => anyB f n || f n
def allB (f : Nat → Bool) : Nat → Bool
  | 0 => true
  | n + 1 => allB f n && f n
theorem anyB_iff {f : Nat → Bool} : ∀ {n : Nat}, anyB f n = true ↔ ∃ j, j < n ∧ f j = true
  | 0 => ⟨fun z => (by cases z), fun ⟨j, hj, _⟩ => absurd hj (by omega)⟩
  | n + 1 => by
    show (anyB f n || f n) = true ↔ _
    rw [Bool.or_eq_true, anyB_iff (n := n)]
    constructor
    · rintro (⟨j, hj, e⟩ | e)
      · exact ⟨j, by omega, e⟩
      · exact ⟨n, by omega, e⟩
    · rintro ⟨j, hj, e⟩
      by_cases ej : j = n
      · subst ej; exact Or.inr e
      · exact Or.inl ⟨j, by omega, e⟩
theorem allB_iff {f : Nat → Bool} : ∀ {n : Nat}, allB f n = true ↔ ∀ j, j < n → f j = true
  | 0 => ⟨fun _ j hj => absurd hj (by omega), fun _ => rfl⟩
  | n + 1 => by
    show (allB f n && f n) = true ↔ _
    rw [Bool.and_eq_true, allB_iff (n := n)]
    constructor
    · rintro ⟨h1, h2⟩ j hj
      by_cases ej : j = n
      · subst ej; exact h2
      · exact h1 j (by omega)
    · intro h
      exact ⟨fun j hj => h j (by omega), h n (by omega)⟩
theorem bst_iff {σ : Wd} {w : Nat} {d : Nat → Option Nat} {s n a : Nat} (ho : 1 ≤ dO σ a) : (bst σ 1 d s n a ↔ anyB (fun k => lsB n ((nxW σ s a k).bind d)) (dO σ a) = true) ∧ (bst σ 2 d s n a ↔ allB (fun k => lsB n ((nxW σ s a k).bind d)) (dO σ a) = true) ∧ (bst σ 3 d s n a ↔ anyB (fun k => lsB n ((nxW σ s a k).bind d)) (dO σ a) = true ∧ allB (fun k => ((nxW σ s a k).bind d).isSome) (dO σ a) = true) := by
  rw [anyB_iff, allB_iff, allB_iff]
  by_cases hc : canW σ s a
  · have hx : ∀ k, (nxW σ s a k).bind d = d (goW σ (dE σ a k) s) := fun k => by rw [nx_some hc]; rfl
    have hk : ∀ k t, nxW σ s a k = some t → t = goW σ (dE σ a k) s := fun k t ht => by rw [nx_some hc] at ht; cases ht; rfl
    have e1 : (∃ k t, k < dO σ a ∧ nxW σ s a k = some t ∧ nrB d n t = true) ↔ ∃ j, j < dO σ a ∧ lsB n ((nxW σ s a j).bind d) = true := by
      constructor
      · rintro ⟨k, t, h1, h2, h3⟩
        exact ⟨k, h1, by rw [h2]; exact h3⟩
      · rintro ⟨k, h1, h2⟩
        exact ⟨k, _, h1, nx_some hc, by rw [hx] at h2; exact h2⟩
    refine ⟨⟨fun h => e1.mp h.2.1, fun h => ⟨hc, e1.mpr h, Or.inl rfl⟩⟩, ⟨fun h j hj => ?_, fun h => ⟨hc, e1.mpr ⟨0, by omega, h 0 (by omega)⟩, Or.inr (fun k t hk1 ht => ?_)⟩⟩, ⟨fun h => ⟨e1.mp h.2.1, fun j hj => ?_⟩, fun h => ⟨hc, e1.mpr h.1, Or.inr (fun k t hk1 ht => ?_)⟩⟩⟩
    · have := (h.2.2.resolve_left (by omega)) j _ hj (nx_some hc)
      show lsB n ((nxW σ s a j).bind d) = true
      rw [hx]; exact this
    · have := h k hk1
      rw [ht] at this; exact this
    · have := (h.2.2.resolve_left (by omega)) j _ hj (nx_some hc)
      show ((nxW σ s a j).bind d).isSome = true
      rw [hx]; exact this
    · have := h.2 k hk1
      rw [ht] at this; exact this
  · have hx : ∀ k, (nxW σ s a k).bind d = none := fun k => by rw [nx_can.mpr hc]; rfl
    refine ⟨⟨fun h => absurd h.1 hc, ?_⟩, ⟨fun h => absurd h.1 hc, fun h => ?_⟩, ⟨fun h => absurd h.1 hc, fun h => ?_⟩⟩
    · rintro ⟨k, _, h2⟩
      rw [hx] at h2; cases h2
    · have := h 0 (by omega)
      rw [hx] at this; cases this
    · obtain ⟨k, _, h2⟩ := h.1
      rw [hx] at h2; cases h2
theorem cM_best (hG : gok G) {σ : Wd} {v w : Int32} (h : RMo ρ σ) (hW : Wok σ) (k : ∀ ad ρ' r, RMo ρ' σ → anBs σ v w r → Ag PMo ρ ρ' → K ad (some (.int r)) ρ') : semV G r_Mo_best [] (fun ad => [.ref (ad (40, 0, 0)), .int v, .int w]) ρ K := by
  have hN := hW.2.2.1
  have h12 := hW.2.2.2.2.1
  have bad : ¬ (vp_in v (nS σ) ∧ ∃ x, 1 ≤ x ∧ x ≤ 3 ∧ w = nI x) → ∀ ad, K ad (some (.int (-2))) ρ := fun hno ad => k ad ρ _ h (Or.inl ⟨hno, rfl⟩) Ag_rf
  refine semV_intro yk_Mo_best.2.2.2.2 (fun _ => Nat.le_of_ble_eq_true rfl) (fun M Q ad0 hM => ?_)
  refine T_Mo_best_0 hG hM _ _ ρ ?_
  have in13 : (¬ w < 1 ∧ ¬ 3 < w) ↔ ∃ x, 1 ≤ x ∧ x ≤ 3 ∧ w = nI x := in_rg (a := 1) (b := 3) (by omega) (by omega)
  refine c_Mo_isState hG h.1.1 (fun hv ad => ⟨_, rfl, fun z => absurd z (by decide), fun _ => ?_⟩) (fun hv ad => ⟨_, rfl, fun _ => bad (fun z => hv z.1), fun z => absurd rfl z⟩)
  refine c_isIn hG (fun hw ad => ⟨_, rfl, fun z => absurd z (by decide), fun _ => ?_⟩) (fun hw ad => ⟨_, rfl, fun _ => bad (fun z => hw (in13.mpr z.2)), fun z => absurd rfl z⟩)
  obtain ⟨s, hs, ev⟩ := vp_in_of hv (by omega)
  subst ev
  obtain ⟨x, x1, x2, ew⟩ := in13.mp hw
  subst ew
  refine c_Mo_lay hG h hW (fun ad ρ1 hr hl hag => ⟨rfl, ?_⟩)
  obtain ⟨l1, l2, l3, -, l7⟩ := hl
  have hR1 : MR ρ1 σ := ⟨l1, l2, l3⟩
  obtain ⟨d, n1, m1, r1⟩ := l7 x x1 x2
  have inn : vp_in (nI s) 4096 := vp_in_nI (by omega) (by omega)
  have hx3 : x = 1 ∨ x = 2 ∨ x = 3 := by omega
  have sel : ∀ u, u < nS σ → (if nI x = 1 then iR ρ1 (41, 20, 0) u else (if nI x = 2 then iR ρ1 (41, 21, 0) u else iR ρ1 (41, 22, 0) u)) = oI (d u) := fun u hu => by
    have := r1 u hu
    rcases hx3 with e | e | e <;> subst e
    · rw [if_pos (by rfl)]; exact this
    · rw [if_neg (by decide), if_pos (by rfl)]; exact this
    · rw [if_neg (by decide), if_neg (by decide)]; exact this
  rw [nI_clamp (n := s) (by omega), sel s hs]
  refine ⟨⟨fun _ => inn, fun _ => ⟨fun _ => inn, fun _ => inn⟩⟩, fun z15 e15 => ?_⟩
  rw [e15]
  have none_ : ∀ o, isBs σ x d s o → ∀ ad, K ad (some (.int (oI o))) ρ1 := fun o ho ad => k ad ρ1 _ hr (Or.inr ⟨s, x, d, o, hs, rfl, x1, x2, rfl, n1, ho, rfl⟩) hag
  cases hd : d s with
  | none => exact ⟨fun z => absurd z (by show ¬ (1 : Int32) ≤ -1; decide), fun _ => none_ none ⟨fun a ha => (by cases ha), fun _ n a hn => by rw [hd] at hn; cases hn⟩⟩
  | some D =>
    have hDN := (m1 s D hd).2
    match D, hd, hDN with
    | 0, hd, _ => exact ⟨fun z => absurd z (by show ¬ (1 : Int32) ≤ 0; decide), fun _ => none_ none ⟨fun a ha => (by cases ha), fun _ n a hn => by rw [hd] at hn; cases hn⟩⟩
    | n + 1, hd, hDN =>
      refine ⟨fun _ => ?_, fun z => absurd (show (1 : Int32) ≤ nI (n + 1) from (nI_leI (a := 1) (by decide) (by omega)).mpr (by omega)) z⟩
      have k69 : ∀ (da a : Nat), a + da = dA σ → (∀ b, b < a → ¬ bst σ x d s (n + 1) b) → Y G [] ad0 M Q 69 (fun ad => [(0, .ref (ad (40, 0, 0))), (1, .int (nI s)), (2, .int (nI x)), (3, .int (nI (n + 1))), (4, .int (nI a))]) (fun ad => []) ρ1 := by
        intro da
        induction da with
        | zero =>
          intro a ha hno
          refine T_Mo_best_69 hG hM _ _ _ _ ρ1 ⟨fun _ => none_ none ⟨fun a ha => (by cases ha), fun _ m b hm hb => ?_⟩, fun z => absurd (by rw [hr.1.2.2.1]; exact (nI_leI (by omega) (by omega)).mpr (by omega)) z⟩
          rw [hd] at hm
          cases hm
          exact hno b (by omega)
        | succ da ih =>
          intro a ha hno
          have haA : a < dA σ := by omega
          have ho := hW.2.2.2.2.2.1 a haA
          refine T_Mo_best_69 hG hM _ _ _ _ ρ1 ⟨fun z => absurd (by rw [hr.1.2.2.1] at z; exact (nI_leI (by omega) (by omega)).mp z) (by omega), fun _ => ?_⟩
          have yes : bst σ x d s (n + 1) a → ∀ ad, K ad (some (.int (nI a))) ρ1 := fun hb => none_ (some a) ⟨fun b hbb => by cases hbb; exact ⟨n, hd, haA, hb, hno⟩, fun z => by cases z⟩
          have no : ¬ bst σ x d s (n + 1) a → Y G [] ad0 M Q 69 (fun ad => [(0, .ref (ad (40, 0, 0))), (1, .int (nI s)), (2, .int (nI x)), (3, .int (nI (n + 1))), (4, .int (nI (a + 1)))]) (fun ad => []) ρ1 := fun hb => ih (a + 1) (by omega) (fun b hb2 => by
            by_cases e : b = a
            · rw [e]; exact hb
            · exact hno b (by omega))
          obtain ⟨i1, i2, i3⟩ := bst_iff (σ := σ) (w := x) (d := d) (s := s) (n := n + 1) (a := a) ho.1
          have k90 : ∀ (dk kk : Nat), kk + dk = dO σ a → Y G [] ad0 M Q 90 (fun ad => [(0, .ref (ad (40, 0, 0))), (1, .int (nI s)), (2, .int (nI x)), (3, .int (nI (n + 1))), (4, .int (nI a)), (5, .int (bI (anyB (fun k => lsB (n + 1) ((nxW σ s a k).bind d)) kk))), (6, .int (bI (allB (fun k => lsB (n + 1) ((nxW σ s a k).bind d)) kk))), (7, .int (bI (allB (fun k => ((nxW σ s a k).bind d).isSome) kk))), (8, .int (nI kk))]) (fun ad => []) ρ1 := by
            intro dk
            induction dk with
            | zero =>
              intro kk hk
              have ek : kk = dO σ a := by omega
              subst ek
              refine T_Mo_best_90 hG hM _ _ _ _ _ _ _ _ ρ1 ⟨vp_in_nI (by omega) (by omega), ?_⟩
              rw [nI_clamp (n := a) (by omega), hr.1.2.2.2.1 a haA, nI_1 a]
              refine ⟨fun _ => ?_, fun z => absurd ((nI_leI (by omega) (by omega)).mpr (Nat.le_refl _)) z⟩
              rcases hx3 with e | e | e <;> subst e
              · refine ⟨fun _ => ⟨fun z => no (fun hb => ?_), fun z => yes (i1.mpr (bnf (fun y => z (bI_0.mpr y))))⟩, fun z => absurd rfl z⟩
                have := i1.mp hb
                rw [bI_0.mp z] at this; cases this
              · refine ⟨fun z => absurd z (by decide), fun _ => ⟨fun _ => ⟨fun z => no (fun hb => ?_), fun z => yes (i2.mpr (bnf (fun y => z (bI_0.mpr y))))⟩, fun z => absurd rfl z⟩⟩
                have := i2.mp hb
                rw [bI_0.mp z] at this; cases this
              · refine ⟨fun z => absurd z (by decide), fun _ => ⟨fun z => absurd z (by decide), fun _ => ⟨fun z => no (fun hb => ?_), fun z => ⟨fun y => no (fun hb => ?_), fun y => yes (i3.mpr ⟨bnf (fun q => z (bI_0.mpr q)), bnf (fun q => y (bI_0.mpr q))⟩)⟩⟩⟩⟩
                · have := (i3.mp hb).1
                  rw [bI_0.mp z] at this; cases this
                · have := (i3.mp hb).2
                  rw [bI_0.mp y] at this; cases this
            | succ dk ih2 =>
              intro kk hk
              have hkk : kk < dO σ a := by omega
              refine T_Mo_best_90 hG hM _ _ _ _ _ _ _ _ ρ1 ⟨vp_in_nI (by omega) (by omega), ?_⟩
              rw [nI_clamp (n := a) (by omega), hr.1.2.2.2.1 a haA, mul363, nI_clamp (n := 36 * s + (3 * a + kk)) (by omega), MR_to hR1 hW hs haA hkk, nI_1 kk]
              refine ⟨fun z => absurd ((nI_leI (by omega) (by omega)).mp z) (by omega), fun _ => ⟨vp_in_nI (by omega) (by omega), ?_⟩⟩
              have tN : ∀ t, nxW σ s a kk = some t → t < nS σ := fun t ht => nx_lt (Wok_Es hW) haA hkk ht
              have b4 : ¬ oI (nxW σ s a kk) = -1 → vp_in (oI (nxW σ s a kk)) 4096 := fun hz => by
                cases ht : nxW σ s a kk with
                | none => rw [ht] at hz; exact absurd rfl hz
                | some t => have := tN t ht; exact vp_in_nI (by omega) (by omega)
              refine ⟨fun z => ⟨fun _ => b4 z, fun _ => ⟨fun _ => b4 z, fun _ => b4 z⟩⟩, fun z14 e14 z15 e15 z16 e16 z17 e17 z18 e18 => ?_⟩
              have e14 : z14 = oI ((nxW σ s a kk).bind d) := by
                rw [e14]
                cases ht : nxW σ s a kk with
                | none => rw [if_pos (by rfl)]; rfl
                | some t =>
                  have := tN t ht
                  show (if nI t = -1 then (-1 : Int32) else _) = oI (d t)
                  rw [if_neg (nI_m1 (by omega)), ← sel t this]
                  show (if nI x = 1 then iR ρ1 (41, 20, 0) (Int32.toNatClampNeg (nI t)) else (if nI x = 2 then iR ρ1 (41, 21, 0) (Int32.toNatClampNeg (nI t)) else iR ρ1 (41, 22, 0) (Int32.toNatClampNeg (nI t)))) = _
                  rw [nI_clamp (n := t) (by omega)]
              have ob : ∀ m, (nxW σ s a kk).bind d = some m → m < 4096 := fun m hm => by
                cases ht : nxW σ s a kk with
                | none => rw [ht] at hm; cases hm
                | some t => rw [ht] at hm; have := (m1 t m hm).2; omega
              have e15 : z15 = bI (lsB (n + 1) ((nxW σ s a kk).bind d)) := by
                rw [e15, e14]
                cases ho : (nxW σ s a kk).bind d with
                | none => rw [if_pos (by rfl)]; rfl
                | some m =>
                  have := ob m ho
                  rw [if_neg (show ¬ oI (some m) = -1 from nI_m1 (by omega))]
                  show (if nI (n + 1) ≤ nI m then (0 : Int32) else 1) = bI (decide (m < n + 1))
                  have le : (nI (n + 1) ≤ nI m) ↔ n + 1 ≤ m := nI_leI (by omega) (by omega)
                  by_cases hm : m < n + 1
                  · rw [if_neg (fun z => by have := le.mp z; omega), decide_eq_true hm]; rfl
                  · rw [if_pos (le.mpr (by omega)), decide_eq_false hm]; rfl
              have e18 : z18 = bI (allB (fun k => ((nxW σ s a k).bind d).isSome) (kk + 1)) := by
                rw [e18, e14]
                show _ = bI (allB _ kk && ((nxW σ s a kk).bind d).isSome)
                have hm := oI_m1 (o := (nxW σ s a kk).bind d) (fun m hm => by have := ob m hm; omega)
                cases ho : (nxW σ s a kk).bind d with
                | none => rw [if_pos (show oI none = -1 from rfl)]; cases allB (fun k => ((nxW σ s a k).bind d).isSome) kk <;> rfl
                | some m => rw [ho] at hm; rw [if_neg (c := oI (some m) = -1) (fun z => by have := hm.mp z; cases this)]; cases allB (fun k => ((nxW σ s a k).bind d).isSome) kk <;> rfl
              have e16 : z16 = bI (anyB (fun k => lsB (n + 1) ((nxW σ s a k).bind d)) (kk + 1)) := by
                rw [e16, e15]
                show _ = bI (anyB _ kk || lsB (n + 1) ((nxW σ s a kk).bind d))
                cases anyB (fun k => lsB (n + 1) ((nxW σ s a k).bind d)) kk <;> cases lsB (n + 1) ((nxW σ s a kk).bind d) <;> rfl
              have e17 : z17 = bI (allB (fun k => lsB (n + 1) ((nxW σ s a k).bind d)) (kk + 1)) := by
                rw [e17, e15]
                show _ = bI (allB _ kk && lsB (n + 1) ((nxW σ s a kk).bind d))
                cases allB (fun k => lsB (n + 1) ((nxW σ s a k).bind d)) kk <;> cases lsB (n + 1) ((nxW σ s a kk).bind d) <;> rfl
              rw [e16, e17, e18]
              exact ih2 (kk + 1) (by omega)
          exact k90 (dO σ a) 0 (by omega)
      exact k69 (dA σ) 0 (by omega) (fun b hb => absurd hb (by omega))
end B59
