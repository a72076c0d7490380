/-! questions about bounds; Arrays.fill; packing -/
theorem rng {v : Int32} {n : Nat} (hn : n < 2 ^ 31) : (vp_in v n ∧ (if v < 0 then (0 : Int32) else if nI n ≤ v then 0 else 1) = 1) ∨ (¬ vp_in v n ∧ (if v < 0 then (0 : Int32) else if nI n ≤ v then 0 else 1) = 0) := by
  rcases pk_ix v hn with h | h | ⟨j, hj, h⟩
  · right
    refine ⟨fun q => q (Or.inl h), if_pos h⟩
  · by_cases h0 : v < 0
    · exact Or.inr ⟨fun q => q (Or.inl h0), if_pos h0⟩
    · right
      refine ⟨fun q => ?_, by rw [if_neg h0, if_pos h]⟩
      obtain ⟨j, hj, e⟩ := vp_in_of q hn
      rw [e] at h
      exact absurd ((nI_leI hn (by omega)).mp h) (by omega)
  · left
    subst h
    refine ⟨vp_in_nI hj hn, ?_⟩
    rw [if_neg (nI_pos (by omega)), if_neg (fun q => absurd ((nI_leI hn (by omega)).mp q) (by omega))]
theorem nI_or (a b : Nat) : nI a ||| nI b = nI (a ||| b) := by
  apply Int32.toBitVec_inj.1
  show BitVec.ofNat 32 a ||| BitVec.ofNat 32 b = BitVec.ofNat 32 (a ||| b)
  apply BitVec.eq_of_getLsbD_eq
  intro i hi
  simp [hi]
theorem or_add {a x i : Nat} (h : a < 2 ^ i) : a ||| x * 2 ^ i = a + x * 2 ^ i := by
  have := Nat.shiftLeft_add_eq_or_of_lt h x
  rw [Nat.shiftLeft_eq] at this
  rw [Nat.or_comm, ← this, Nat.add_comm]
section B3
variable {G : Gc} {ρ : Rs} {K : (Ro → Nat) → Option Value → Rs → Prop}
theorem c_isState (hG : gok G) {v : Int32} {n : Nat} (h0 : iR ρ (1, 0, 0) 1 = nI n) (hn : n < 2 ^ 31) (k1 : vp_in v n → ∀ ad, K ad (some (.int 1)) ρ) (k0 : ¬ vp_in v n → ∀ ad, K ad (some (.int 0)) ρ) : semV G r_Wo_isState [] (fun ad => [.ref (ad (1, 0, 0)), .int v]) ρ K := by
  refine semV_intro yk_Wo_isState.2.2.2.2 (fun _ => Nat.le_of_ble_eq_true rfl) (fun M Q ad0 hM => ?_)
  refine T_Wo_isState_0 hG hM v ρ (fun z ez => ?_)
  rw [h0] at ez
  rcases rng (v := v) hn with ⟨a, b⟩ | ⟨a, b⟩ <;> rw [b] at ez <;> subst ez
  · exact ⟨Or.inr rfl, k1 a⟩
  · exact ⟨Or.inl rfl, k0 a⟩
theorem c_isThing (hG : gok G) {v : Int32} {n : Nat} (h0 : iR ρ (1, 0, 0) 0 = nI n) (hn : n < 2 ^ 31) (k1 : vp_in v n → ∀ ad, K ad (some (.int 1)) ρ) (k0 : ¬ vp_in v n → ∀ ad, K ad (some (.int 0)) ρ) : semV G r_Wo_isThing [] (fun ad => [.ref (ad (1, 0, 0)), .int v]) ρ K := by
  refine semV_intro yk_Wo_isThing.2.2.2.2 (fun _ => Nat.le_of_ble_eq_true rfl) (fun M Q ad0 hM => ?_)
  refine T_Wo_isThing_0 hG hM v ρ (fun z ez => ?_)
  rw [h0] at ez
  rcases rng (v := v) hn with ⟨a, b⟩ | ⟨a, b⟩ <;> rw [b] at ez <;> subst ez
  · exact ⟨Or.inr rfl, k1 a⟩
  · exact ⟨Or.inl rfl, k0 a⟩
theorem c_isAct (hG : gok G) {v : Int32} {n : Nat} (h0 : iR ρ (1, 0, 0) 2 = nI n) (hn : n < 2 ^ 31) (k1 : vp_in v n → ∀ ad, K ad (some (.int 1)) ρ) (k0 : ¬ vp_in v n → ∀ ad, K ad (some (.int 0)) ρ) : semV G r_Wo_isAct [] (fun ad => [.ref (ad (1, 0, 0)), .int v]) ρ K := by
  refine semV_intro yk_Wo_isAct.2.2.2.2 (fun _ => Nat.le_of_ble_eq_true rfl) (fun M Q ad0 hM => ?_)
  refine T_Wo_isAct_0 hG hM v ρ (fun z ez => ?_)
  rw [h0] at ez
  rcases rng (v := v) hn with ⟨a, b⟩ | ⟨a, b⟩ <;> rw [b] at ez <;> subst ez
  · exact ⟨Or.inr rfl, k1 a⟩
  · exact ⟨Or.inl rfl, k0 a⟩
theorem c_isOutcome (hG : gok G) {a k : Int32} {n : Nat} (no : Nat → Nat) (h0 : iR ρ (1, 0, 0) 2 = nI n) (hn : n ≤ 12) (h1 : ∀ x, x < n → iR ρ (20, x, 0) 2 = nI (no x) ∧ no x ≤ 3) (k1 : vp_in a n → vp_in k (no (Int32.toNatClampNeg a)) → ∀ ad, K ad (some (.int 1)) ρ) (k0 : ¬ (vp_in a n ∧ vp_in k (no (Int32.toNatClampNeg a))) → ∀ ad, K ad (some (.int 0)) ρ) : semV G r_Wo_isOutcome [] (fun ad => [.ref (ad (1, 0, 0)), .int a, .int k]) ρ K := by
  refine semV_intro yk_Wo_isOutcome.2.2.2.2 (fun _ => Nat.le_of_ble_eq_true rfl) (fun M Q ad0 hM => ?_)
  refine T_Wo_isOutcome_0 hG hM a k ρ ?_
  refine c_isAct hG h0 (by omega) (fun ha ad => ⟨_, rfl, ?_⟩) (fun ha ad => ⟨_, rfl, ?_⟩)
  · have hx := vp_lt ha
    obtain ⟨e, e3⟩ := h1 _ hx
    refine ⟨fun _ _ => ?_, fun z ez => ?_⟩
    · obtain ⟨j, hj, e⟩ := vp_in_of ha (by omega)
      rw [e]; exact vp_in_nI (by omega) (by omega)
    · rw [if_neg (by decide), e] at ez
      rcases rng (v := k) (n := no (Int32.toNatClampNeg a)) (by omega) with ⟨c, b⟩ | ⟨c, b⟩ <;> rw [b] at ez <;> subst ez
      · exact ⟨Or.inr rfl, k1 ha c⟩
      · exact ⟨Or.inl rfl, k0 (fun q => c q.2)⟩
  · refine ⟨fun q => absurd rfl q, fun z ez => ?_⟩
    rw [if_pos rfl] at ez
    subst ez
    exact ⟨Or.inl rfl, k0 (fun q => ha q.1)⟩
/-- a condition, of n things, as ints -/
def coI (n : Nat) (t op v : Int32) : Prop := vp_in t n ∧ vp_in op 4 ∧ (if op = 2 then vp_in v n else vp_in v 4)
theorem c_isCondition (hG : gok G) {t op v : Int32} {n : Nat} (h0 : iR ρ (1, 0, 0) 0 = nI n) (hn : n ≤ 8) (k1 : coI n t op v → ∀ ad, K ad (some (.int 1)) ρ) (k0 : ¬ coI n t op v → ∀ ad, K ad (some (.int 0)) ρ) : semV G r_Wo_isCondition [] (fun ad => [.ref (ad (1, 0, 0)), .int t, .int op, .int v]) ρ K := by
  refine semV_intro yk_Wo_isCondition.2.2.2.2 (fun _ => Nat.le_of_ble_eq_true rfl) (fun M Q ad0 hM => ?_)
  refine T_Wo_isCondition_0 hG hM t op v ρ ?_
  refine c_isThing hG h0 (by omega) (fun ha ad => ⟨_, rfl, ?_⟩) (fun ha ad => ⟨_, rfl, ?_⟩)
  · refine ⟨fun q => absurd q (by decide), fun _ => ⟨fun q ad => k0 (fun z => z.2.1 (Or.inl q)) ad, fun q => ⟨fun q2 => ?_, fun q2 ad => k0 (fun z => ?_) ad⟩⟩⟩
    · obtain ⟨j, hj, ej⟩ := nI_of q
      have hj3 : j ≤ 3 := (nI_leI (a := j) (b := 3) hj (by decide)).mp (by rw [← ej]; exact q2)
      have hop : vp_in op 4 := by rw [ej]; exact vp_in_nI (by omega) (by omega)
      refine ⟨fun q3 => ?_, fun q3 z ez => ?_⟩
      · refine c_isThing hG h0 (by omega) (fun hb ad => ⟨_, rfl, Or.inr rfl, k1 ⟨ha, hop, by rw [if_pos q3]; exact hb⟩⟩) (fun hb ad => ⟨_, rfl, Or.inl rfl, k0 (fun z => ?_)⟩)
        have := z.2.2
        rw [if_pos q3] at this
        exact hb this
      · rcases rng (v := v) (n := 4) (by decide) with ⟨c, b⟩ | ⟨c, b⟩
        · have ez : z = 1 := ez.trans b
          subst ez
          exact ⟨Or.inr rfl, k1 ⟨ha, hop, by rw [if_neg q3]; exact c⟩⟩
        · have ez : z = 0 := ez.trans b
          subst ez
          exact ⟨Or.inl rfl, k0 (fun z => by have := z.2.2; rw [if_neg q3] at this; exact c this)⟩
    · obtain ⟨j, hj, ej⟩ := vp_in_of z.2.1 (by decide)
      rw [ej] at q2
      exact q2 ((nI_leI (a := j) (b := 3) (by omega) (by decide)).mpr (by omega))
  · exact ⟨fun _ ad => k0 (fun z => ha z.1) ad, fun q => absurd rfl q⟩
/-- an effect, of n things of sizes sz, as ints -/
def efI (sz : Nat → Nat) (n : Nat) (t op v : Int32) : Prop := vp_in t n ∧ vp_in op 3 ∧ (if op = 1 then vp_in v n else if op = 0 then vp_in v (sz (Int32.toNatClampNeg t)) else vp_in v 4)
theorem c_isEffect (hG : gok G) {t op v : Int32} {n : Nat} (sz : Nat → Nat) (h0 : iR ρ (1, 0, 0) 0 = nI n) (hn : n ≤ 8) (hs : ∀ x, x < n → iR ρ (30, 3, 0) x = nI (sz x) ∧ sz x ≤ 4) (k1 : efI sz n t op v → ∀ ad, K ad (some (.int 1)) ρ) (k0 : ¬ efI sz n t op v → ∀ ad, K ad (some (.int 0)) ρ) : semV G r_Wo_isEffect [] (fun ad => [.ref (ad (1, 0, 0)), .int t, .int op, .int v]) ρ K := by
  refine semV_intro yk_Wo_isEffect.2.2.2.2 (fun _ => Nat.le_of_ble_eq_true rfl) (fun M Q ad0 hM => ?_)
  refine T_Wo_isEffect_0 hG hM t op v ρ ?_
  refine c_isThing hG h0 (by omega) (fun ha ad => ⟨_, rfl, ?_⟩) (fun ha ad => ⟨_, rfl, ?_⟩)
  · obtain ⟨e1, e2⟩ := hs _ (vp_lt ha)
    refine ⟨fun q => absurd q (by decide), fun _ => ⟨fun q ad => k0 (fun z => z.2.1 (Or.inl q)) ad, fun q => ⟨fun q2 => ?_, fun q2 ad => k0 (fun z => ?_) ad⟩⟩⟩
    · obtain ⟨j, hj, ej⟩ := nI_of q
      have hj3 : j ≤ 2 := (nI_leI (a := j) (b := 2) hj (by decide)).mp (by rw [← ej]; exact q2)
      have hop : vp_in op 3 := by rw [ej]; exact vp_in_nI (by omega) (by omega)
      refine ⟨fun q3 => ?_, fun q3 => ⟨fun _ _ => ?_, fun z ez => ?_⟩⟩
      · refine c_isThing hG h0 (by omega) (fun hb ad => ⟨_, rfl, Or.inr rfl, k1 ⟨ha, hop, by rw [if_pos q3]; exact hb⟩⟩) (fun hb ad => ⟨_, rfl, Or.inl rfl, k0 (fun z => ?_)⟩)
        have := z.2.2
        rw [if_pos q3] at this
        exact hb this
      · obtain ⟨j, hj, e⟩ := vp_in_of ha (by omega)
        rw [e]; exact vp_in_nI (by omega) (by omega)
      · by_cases q4 : op = 0
        · rw [if_pos q4, e1] at ez
          rcases rng (v := v) (n := sz (Int32.toNatClampNeg t)) (by omega) with ⟨c, b⟩ | ⟨c, b⟩ <;> rw [b] at ez <;> subst ez
          · exact ⟨Or.inr rfl, k1 ⟨ha, hop, by rw [if_neg q3, if_pos q4]; exact c⟩⟩
          · exact ⟨Or.inl rfl, k0 (fun z => by have := z.2.2; rw [if_neg q3, if_pos q4] at this; exact c this)⟩
        · rw [if_neg q4] at ez
          rcases rng (v := v) (n := 4) (by decide) with ⟨c, b⟩ | ⟨c, b⟩
          · have ez : z = 1 := ez.trans b
            subst ez
            exact ⟨Or.inr rfl, k1 ⟨ha, hop, by rw [if_neg q3, if_neg q4]; exact c⟩⟩
          · have ez : z = 0 := ez.trans b
            subst ez
            exact ⟨Or.inl rfl, k0 (fun z => by have := z.2.2; rw [if_neg q3, if_neg q4] at this; exact c this)⟩
    · obtain ⟨j, hj, ej⟩ := vp_in_of z.2.1 (by decide)
      rw [ej] at q2
      exact q2 ((nI_leI (a := j) (b := 2) (by omega) (by decide)).mpr (by omega))
  · exact ⟨fun _ ad => k0 (fun z => ha z.1) ad, fun q => absurd rfl q⟩
/-- a row's places from a to b (b apart) become x -/
def filR (f : Nat → Int32) (a b : Nat) (x : Int32) : Nat → Int32 := fun j => if a ≤ j ∧ j < b then x else f j
theorem uI_pI {r : Ro} {f : Nat → Int32} {k : Nat} {x : Int32} : pI (uI ρ r f) r k x = uI ρ r (va_up f k x) := by
  show (nR ρ, upR (upR (iR ρ) r f) r (va_up (upR (iR ρ) r f r) k x), lR ρ) = (nR ρ, upR (iR ρ) r (va_up f k x), lR ρ)
  rw [uR_s]
  have : upR (upR (iR ρ) r f) r (va_up f k x) = upR (iR ρ) r (va_up f k x) := by
    funext q
    by_cases e : q = r
    · subst e; rw [uR_s, uR_s]
    · rw [uR_n e, uR_n e, uR_n e]
  rw [this]
theorem uI_self {r : Ro} : uI ρ r (iR ρ r) = ρ := by
  show (nR ρ, upR (iR ρ) r (iR ρ r), lR ρ) = ρ
  have : upR (iR ρ) r (iR ρ r) = iR ρ := by
    funext q
    by_cases e : q = r
    · subst e; rw [uR_s]
    · rw [uR_n e]
  rw [this]
  rfl
theorem c_fill (hG : gok G) {g : Ro} {a b : Nat} {x : Int32} (og : okR g = true) (tg : tgR g = 50) (hab : a ≤ b) (hb : b ≤ nR ρ g) (hn : nR ρ g < 2 ^ 31) (k : ∀ ad, K ad none (uI ρ g (filR (iR ρ g) a b x))) : semV G r_Ar_fill [] (fun ad => [.ref (ad g), .int (nI a), .int (nI b), .int x]) ρ K := by
  refine semV_intro yk_Ar_fill.2.2.2.2 (fun _ => Nat.le_of_ble_eq_true rfl) (fun M Q ad0 hM => ?_)
  refine T_Ar_fill_0 hG hM g og tg _ _ _ ρ ?_
  refine semV_intro yk_Ar_rangeCheck.2.2.2.2 (fun _ => Nat.le_of_ble_eq_true rfl) (fun M2 Q2 ad2 hM2 => ?_)
  refine T_Ar_rangeCheck_0 hG hM2 _ _ _ ρ ⟨fun _ => ⟨fun _ => ⟨fun _ ad => ⟨rfl, ?_⟩, fun q => q ((nI_leI (by omega) hn).mpr hb)⟩, fun q => q (nI_pos' (by omega))⟩, fun q => q ((nI_leI (by omega) (by omega)).mpr hab)⟩
  have key : ∀ d i, i + d = b → a ≤ i → Y G [] ad0 M Q 10 (fun ad => [(0, .ref (ad g)), (2, .int (nI b)), (3, .int x), (4, .int (nI i))]) (fun ad => []) (uI ρ g (filR (iR ρ g) a i x)) := by
    intro d
    induction d with
    | zero =>
      intro i hi ha
      have : i = b := by omega
      subst this
      exact T_Ar_fill_10 hG hM g og tg _ _ _ _ ⟨fun _ => k, fun q => absurd ((nI_leI (by omega) (by omega)).mpr (Nat.le_refl _)) q⟩
    | succ d ih =>
      intro i hi ha
      refine T_Ar_fill_10 hG hM g og tg _ _ _ _ ⟨fun q => absurd ((nI_leI (by omega) (by omega)).mp q) (by omega), fun _ => ⟨vp_in_nI (show i < nR ρ g by omega) hn, fun ρ1 e1 => ?_⟩⟩
      rw [nI_clamp (by omega), uI_pI] at e1
      have e2 : va_up (filR (iR ρ g) a i x) i x = filR (iR ρ g) a (i + 1) x := by
        funext j
        show (if j = i then x else if a ≤ j ∧ j < i then x else iR ρ g j) = if a ≤ j ∧ j < i + 1 then x else iR ρ g j
        by_cases hj : j = i
        · rw [if_pos hj, if_pos (by omega)]
        · rw [if_neg hj]
          by_cases h2 : a ≤ j ∧ j < i
          · rw [if_pos h2, if_pos (by omega)]
          · rw [if_neg h2, if_neg (by omega)]
      rw [e2] at e1
      subst e1
      rw [nI_1]
      exact ih (i + 1) (by omega) (by omega)
  have h0 : filR (iR ρ g) a a x = iR ρ g := by
    funext j
    unfold filR
    rw [if_neg (by omega)]
  have := key (b - a) a (by omega) (Nat.le_refl _)
  rw [h0, uI_self] at this
  exact this
end B3
