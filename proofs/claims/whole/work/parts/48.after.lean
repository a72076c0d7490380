/-! where effects lead -/
def lastB (L : List Ce) (x : Nat) (c : Ce) : Bool := (L.drop (x + 1)).all (fun d => !(d.1 == c.1))
theorem lastB_iff {L : List Ce} {x : Nat} {c : Ce} : lastB L x c = true ↔ ∀ y d, x < y → L[y]? = some d → d.1 ≠ c.1 := by
  unfold lastB
  rw [List.all_eq_true]
  constructor
  · intro h y d hy hd e
    have hm : d ∈ L.drop (x + 1) := by
      apply List.mem_of_getElem? (i := y - (x + 1))
      rw [List.getElem?_drop, show x + 1 + (y - (x + 1)) = y by omega]
      exact hd
    have := h d hm
    simp [e] at this
  · intro h d hd
    obtain ⟨z, hz⟩ := List.getElem?_of_mem hd
    rw [List.getElem?_drop] at hz
    have := h (x + 1 + z) d (by omega) hz
    simpa using this
/-- the class's own way: effects x on, each thing's last effect alone -/
def fxs (σ : Wd) (L : List Ce) (s : Nat) : Nat → Nat → Nat
  | 0 => vl σ s
  | x + 1 => match L[x]? with
    | some c => fun t => if t = c.1 ∧ lastB L x c = true then eff σ s c else fxs σ L s x t
    | none => fxs σ L s x
section FX
variable {σ : Wd} {L : List Ce} {s : Nat}
theorem fxs_old : ∀ {x t : Nat}, (∀ y c, y < x → L[y]? = some c → c.1 = t → ∃ z d, y < z ∧ L[z]? = some d ∧ d.1 = t) → fxs σ L s x t = vl σ s t
  | 0, t, _ => rfl
  | x + 1, t, h => by
    have ih := fxs_old (x := x) (t := t) (fun y c hy => h y c (by omega))
    show (match L[x]? with | some c => fun t => if t = c.1 ∧ lastB L x c = true then eff σ s c else fxs σ L s x t | none => fxs σ L s x) t = _
    cases hc : L[x]? with
    | none => exact ih
    | some c =>
      show (if t = c.1 ∧ lastB L x c = true then eff σ s c else fxs σ L s x t) = _
      rw [if_neg, ih]
      rintro ⟨e, hl⟩
      obtain ⟨z, d, h1, h2, h3⟩ := h x c (by omega) hc e.symm
      exact lastB_iff.mp hl z d h1 h2 (h3.trans e)
theorem fxs_last {y : Nat} {c : Ce} (hc : L[y]? = some c) (hl : lastOf L y) : ∀ {x : Nat}, y < x → fxs σ L s x c.1 = eff σ s c
  | x + 1, hx => by
    show (match L[x]? with | some c => fun t => if t = c.1 ∧ lastB L x c = true then eff σ s c else fxs σ L s x t | none => fxs σ L s x) c.1 = _
    by_cases e : x = y
    · subst e
      rw [hc]
      show (if c.1 = c.1 ∧ lastB L x c = true then eff σ s c else fxs σ L s x c.1) = _
      rw [if_pos ⟨rfl, lastB_iff.mpr (fun y d h1 h2 => hl y c d h1 hc h2)⟩]
    · have ih := fxs_last hc hl (x := x) (by omega)
      cases hc2 : L[x]? with
      | none => exact ih
      | some c2 =>
        show (if c.1 = c2.1 ∧ lastB L x c2 = true then eff σ s c2 else fxs σ L s x c.1) = _
        rw [if_neg, ih]
        rintro ⟨e2, -⟩
        exact hl x c c2 (by omega) hc hc2 e2.symm
theorem find_last : ∀ {L : List Ce} {t : Nat}, (L.reverse.find? (fun c => c.1 == t) = none ∧ ∀ (y : Nat) (c : Ce), L[y]? = some c → c.1 ≠ t) ∨ ∃ (y : Nat) (c : Ce), L.reverse.find? (fun c => c.1 == t) = some c ∧ L[y]? = some c ∧ c.1 = t ∧ lastOf L y := by
  intro L t
  cases h : L.reverse.find? (fun c => c.1 == t) with
  | none =>
    refine Or.inl ⟨rfl, fun y c hy e => ?_⟩
    have := List.find?_eq_none.mp h c (by rw [List.mem_reverse]; exact List.mem_of_getElem? hy)
    simp [e] at this
  | some c =>
    obtain ⟨hp, as, bs, hr, hno⟩ := List.find?_eq_some_iff_append.mp h
    have hL : L = bs.reverse ++ c :: as.reverse := by
      have := congrArg List.reverse hr
      rw [List.reverse_reverse] at this
      rw [this]
      simp
    refine Or.inr ⟨bs.length, c, rfl, ?_, by simpa using hp, ?_⟩
    · rw [hL, List.getElem?_append_right (by simp)]
      simp
    · intro y c1 d h1 h2 h3 e
      rw [hL, List.getElem?_append_right (by simp)] at h2
      simp at h2
      subst h2
      rw [hL, List.getElem?_append_right (by simp; omega), List.length_reverse] at h3
      obtain ⟨z, hz⟩ : ∃ z, y - bs.length = z + 1 := ⟨y - bs.length - 1, by omega⟩
      rw [hz, List.getElem?_cons_succ] at h3
      have hd : d ∈ as := by rw [← List.mem_reverse]; exact List.mem_of_getElem? h3
      have := hno d hd
      have hp' : c.1 = t := by simpa using hp
      simp [e, hp'] at this
theorem fxs_end {t : Nat} : fxs σ L s L.length t = nval σ L s t := by
  unfold nval
  rcases find_last (L := L) (t := t) with ⟨h1, h2⟩ | ⟨y, c, h1, h2, h3, h4⟩
  · rw [h1]
    exact fxs_old (fun y c _ hy e => absurd e (h2 y c hy))
  · rw [h1]
    subst h3
    exact fxs_last h2 h4 (List.getElem?_eq_some_iff.mp h2).1
theorem eff_lt {c : Ce} (hW : ∀ t, t < dT σ → 2 ≤ dS σ t ∧ dS σ t ≤ 4) (hc : okEf (dS σ) (dT σ) c) : eff σ s c < dS σ c.1 := by
  obtain ⟨h1, h2, h3⟩ := hc
  have := hW _ h1
  unfold eff
  by_cases e0 : c.2.1 = 0
  · rw [if_pos e0] at h3 ⊢
    exact h3
  · rw [if_neg e0]
    split <;> exact Nat.mod_lt _ (by omega)
end FX
section B5
variable {G : Gc} {ρ : Rs} {K : (Ro → Nat) → Option Value → Rs → Prop}
/-- the class's things and sizes are those of σ -/
def RT (ρ : Rs) (σ : Wd) : Prop := iR ρ (1, 0, 0) 0 = nI (dT σ) ∧ iR ρ (1, 0, 0) 1 = nI (nS σ) ∧ dT σ ≤ 8 ∧ nS σ ≤ 4096 ∧ (∀ t, t < dT σ → 2 ≤ dS σ t ∧ dS σ t ≤ 4) ∧ ∀ t, t < dT σ → iR ρ (30, 3, 0) t = nI (dS σ t) ∧ iR ρ (30, 4, 0) t = nI (wt σ t)
def pkW (σ : Wd) (s : Nat) : Nat := pkf (dS σ) s (dT σ)
theorem pkW_lt {σ : Wd} {s : Nat} (hT : RT ρ σ) : pkW σ s < 65536 := Nat.lt_of_lt_of_le (pkf_lt hT.2.2.2.2.1) (pow4_le hT.2.2.1)
theorem pkW_val {σ : Wd} {s t : Nat} (hT : RT ρ σ) (ht : t < dT σ) : pkW σ s / 4 ^ t % 4 = vl σ s t := pkf_val hT.2.2.2.2.1 ht
theorem vl_lt {σ : Wd} {s t : Nat} (hT : RT ρ σ) (ht : t < dT σ) : vl σ s t < dS σ t := Nat.mod_lt _ (by have := hT.2.2.2.2.1 t ht; omega)
theorem c_newValue (hG : gok G) {σ : Wd} {i j x s : Nat} {L : List Ce} {c : Ce} (hT : RT ρ σ) (hc : okC i j) (hL : Cls ρ i j L) (hx : L[x]? = some c) (ho : okEf (dS σ) (dT σ) c) (k : ∀ ad, K ad (some (.int (nI (eff σ s c)))) ρ) : semV G r_Wo_newValue [] (fun ad => [.ref (ad (1, 0, 0)), .ref (ad (10, i, j)), .int (nI x), .int (nI (pkW σ s))]) ρ K := by
  obtain ⟨l4, l0, le, lok⟩ := hL
  have hxl := (List.getElem?_eq_some_iff.mp hx).1
  obtain ⟨e1, e2, e3⟩ := le x c hx
  obtain ⟨o1, o2, o3⟩ := ho
  have t8 := hT.2.2.1
  have hz := hT.2.2.2.2.1 _ o1
  have hv8 := (lok c (List.mem_of_getElem? hx)).2.2
  have hin : vp_in (nI x) 4 := vp_in_nI (by omega) (by omega)
  have hcl : Int32.toNatClampNeg (nI x) = x := nI_clamp (by omega)
  refine semV_intro yk_Wo_newValue.2.2.2.2 (fun _ => Nat.le_of_ble_eq_true rfl) (fun M Q ad0 hM => ?_)
  have tail : ∀ raw : Nat, raw < 2 ^ 31 → raw % dS σ c.1 = eff σ s c → Y G [] ad0 M Q 62 (fun ad => [(0, .ref (ad (1, 0, 0))), (4, .int (nI c.1)), (6, .int (nI raw))]) (fun ad => []) ρ := by
    intro raw hr he
    refine T_Wo_newValue_62 hG hM _ _ ρ ⟨vp_in_nI (by omega) (by omega), ?_⟩
    rw [nI_clamp (by omega), (hT.2.2.2.2.2 _ o1).1]
    refine ⟨fun _ => nI_ne0 (by omega) (by omega), fun z ez => ?_⟩
    rw [if_neg (nI_nle (by omega) (by omega)), pk_rem hr (by omega) (by omega), he] at ez
    subst ez
    exact k
  refine T_Wo_newValue_0 hG hM i j hc _ _ ρ ⟨hin, hin, hin, ?_⟩
  rw [hcl, e1, e2, e3]
  refine ⟨fun q => ?_, fun q => ⟨hin, fun q2 => ?_, fun q2 => ?_⟩⟩
  · have e : c.2.1 = 1 := (nI_eq (a := c.2.1) (b := 1) (by omega) (by decide)).mp q
    rw [e] at o3
    have o3 : c.2.2 < dT σ := o3
    refine c_valueIn hG (pkW_lt hT) hv8 (fun ad => ⟨_, rfl, ?_⟩)
    have w1 := vl_lt (s := s) hT o3
    have := hT.2.2.2.2.1 _ o3
    rw [pkW_val hT o3]
    exact tail _ (by omega) (by unfold eff; rw [if_neg (by omega), if_pos e])
  · have e : c.2.1 = 2 := (nI_eq (a := c.2.1) (b := 2) (by omega) (by decide)).mp q2
    rw [e] at o3
    have o3 : c.2.2 < 4 := o3
    refine c_valueIn hG (pkW_lt hT) (by omega) (fun ad => ⟨_, rfl, ?_⟩)
    have w1 := vl_lt (s := s) hT o1
    rw [pkW_val hT o1, nI_add]
    exact tail _ (by omega) (by unfold eff; rw [if_neg (by omega), if_neg (by omega)])
  · have n1 : c.2.1 ≠ 1 := fun z => q ((nI_eq (a := c.2.1) (b := 1) (by omega) (by decide)).mpr z)
    have n2 : c.2.1 ≠ 2 := fun z => q2 ((nI_eq (a := c.2.1) (b := 2) (by omega) (by decide)).mpr z)
    have e : c.2.1 = 0 := by omega
    rw [e] at o3
    have o3 : c.2.2 < dS σ c.1 := o3
    exact tail _ (by omega) (by unfold eff; rw [if_pos e, Nat.mod_eq_of_lt o3])
theorem c_after (hG : gok G) {σ : Wd} {i j s : Nat} {L : List Ce} (hT : RT ρ σ) (hc : okC i j) (hL : Cls ρ i j L) (ho : ∀ c ∈ L, okEf (dS σ) (dT σ) c) (hs : s < nS σ) (k : ∀ ad, K ad (some (.int (nI (goW σ L s)))) ρ) : semV G r_Wo_after [] (fun ad => [.ref (ad (1, 0, 0)), .ref (ad (10, i, j)), .int (nI s), .int (nI (pkW σ s))]) ρ K := by
  have hL' := hL
  obtain ⟨l4, l0, le, lok⟩ := hL
  have t8 := hT.2.2.1
  have hpos : ∀ t, t < dT σ → 0 < dS σ t := fun t ht => by have := hT.2.2.2.2.1 t ht; omega
  refine semV_intro yk_Wo_after.2.2.2.2 (fun _ => Nat.le_of_ble_eq_true rfl) (fun M Q ad0 hM => ?_)
  refine T_Wo_after_0 hG hM i j hc _ _ ρ ?_
  have key : ∀ d x, x + d = L.length → Y G [] ad0 M Q 6 (fun ad => [(0, .ref (ad (1, 0, 0))), (1, .ref (ad (10, i, j))), (3, .int (nI (pkW σ s))), (4, .int (nI (encf (dS σ) (fxs σ L s x) (dT σ)))), (5, .int (nI x))]) (fun ad => []) ρ := by
    intro d
    induction d with
    | zero =>
      intro x hx
      have : x = L.length := by omega
      subst this
      refine T_Wo_after_6 hG hM i j hc _ _ _ ρ ⟨fun _ => ?_, fun q => absurd (by rw [l0]; exact (nI_leI (by omega) (by omega)).mpr (Nat.le_refl _)) q⟩
      rw [encf_congr (g := nval σ L s) (fun t _ => fxs_end)]
      exact k
    | succ d ih =>
      intro x hx
      have hxl : x < L.length := by omega
      have hget : L[x]? = some L[x] := List.getElem?_eq_getElem hxl
      have hok := ho _ (List.getElem_mem hxl)
      obtain ⟨e1, e2, e3⟩ := le x _ hget
      have ih' := ih (x + 1) (by omega)
      rw [← nI_1] at ih'
      refine T_Wo_after_6 hG hM i j hc _ _ _ ρ ⟨fun q => absurd (by rw [l0] at q; exact (nI_leI (by omega) (by omega)).mp q) (by omega), fun _ => ?_⟩
      refine c_isLast hG hc hL' hxl (fun hl ad => ⟨_, rfl, fun q => absurd q (by decide), fun _ => ?_⟩) (fun hl ad => ⟨_, rfl, fun _ => ?_, fun q => absurd rfl q⟩)
      · have h1 := hok.1
        rw [nI_clamp (by omega), e1]
        refine ⟨vp_in_nI (by omega) (by omega), vp_in_nI (by omega) (by omega), ?_⟩
        refine c_newValue hG hT hc hL' hget hok (fun ad => ⟨_, rfl, ?_⟩)
        refine c_valueIn hG (pkW_lt hT) (by omega) (fun ad => ⟨_, rfl, ?_⟩)
        rw [nI_clamp (by omega), (hT.2.2.2.2.2 _ h1).2, pkW_val hT h1]
        have ef : fxs σ L s (x + 1) = va_up (fxs σ L s x) (L[x]).1 (eff σ s L[x]) := by
          funext t
          show (match L[x]? with | some c => fun t => if t = c.1 ∧ lastB L x c = true then eff σ s c else fxs σ L s x t | none => fxs σ L s x) t = _
          rw [hget]
          show (if t = (L[x]).1 ∧ lastB L x L[x] = true then eff σ s L[x] else fxs σ L s x t) = if t = (L[x]).1 then eff σ s L[x] else fxs σ L s x t
          by_cases et : t = (L[x]).1
          · rw [if_pos ⟨et, lastB_iff.mpr (fun y d h1 h2 => hl y _ d h1 hget h2)⟩, if_pos et]
          · rw [if_neg (fun z => et z.1), if_neg et]
        have eo : fxs σ L s x (L[x]).1 = vl σ s (L[x]).1 := fxs_old (fun y c hy hyc e => ⟨x, _, hy, hget, rfl⟩)
        have eu := encf_up (sz := dS σ) (f := fxs σ L s x) (t := (L[x]).1) (x := eff σ s L[x]) (n := dT σ) h1
        rw [← ef, eo] at eu
        rw [show wt σ (L[x]).1 = wtf (dS σ) (L[x]).1 from rfl, nI_upd eu]
        exact ih'
      · have ef : fxs σ L s (x + 1) = fxs σ L s x := by
          funext t
          show (match L[x]? with | some c => fun t => if t = c.1 ∧ lastB L x c = true then eff σ s c else fxs σ L s x t | none => fxs σ L s x) t = _
          rw [hget]
          show (if t = (L[x]).1 ∧ lastB L x L[x] = true then eff σ s L[x] else fxs σ L s x t) = _
          rw [if_neg]
          rintro ⟨-, h2⟩
          exact hl (fun y c d h1 h3 h4 => by rw [hget] at h3; cases h3; exact lastB_iff.mp h2 y d h1 h4)
        rw [ef] at ih'
        exact ih'
  have := key L.length 0 (by omega)
  rw [show encf (dS σ) (fxs σ L s 0) (dT σ) = s from encf_of_vlf hpos hs] at this
  exact this
end B5
