/-! THE WORLD AS MATHEMATICS: things, sizes, start, acts, outcomes, conditions by rows (acts, 12 the aim, 13 .. the parts), effects, parts -/
abbrev Wd : Type := Nat × (Nat → Nat) × Nat × Nat × (Nat → Nat) × (Nat → List Ce) × (Nat → Nat → List Ce) × Nat
def dT (σ : Wd) : Nat := σ.1
def dS (σ : Wd) : Nat → Nat := σ.2.1
def dB (σ : Wd) : Nat := σ.2.2.1
def dA (σ : Wd) : Nat := σ.2.2.2.1
def dO (σ : Wd) : Nat → Nat := σ.2.2.2.2.1
def dC (σ : Wd) : Nat → List Ce := σ.2.2.2.2.2.1
def dE (σ : Wd) : Nat → Nat → List Ce := σ.2.2.2.2.2.2.1
def dP (σ : Wd) : Nat := σ.2.2.2.2.2.2.2
/-- weights -/
def wtf (sz : Nat → Nat) : Nat → Nat
  | 0 => 1
  | t + 1 => wtf sz t * sz t
/-- a state out of values -/
def encf (sz : Nat → Nat) (f : Nat → Nat) : Nat → Nat
  | 0 => 0
  | t + 1 => encf sz f t + wtf sz t * f t
def vlf (sz : Nat → Nat) (s t : Nat) : Nat := s / wtf sz t % sz t
theorem wtf_pos {sz : Nat → Nat} : ∀ {n : Nat}, (∀ t, t < n → 0 < sz t) → 0 < wtf sz n
  | 0, _ => Nat.one_pos
  | n + 1, h => Nat.mul_pos (wtf_pos (fun t ht => h t (by omega))) (h n (by omega))
theorem wtf_mono {sz : Nat → Nat} {n : Nat} (h : ∀ t, t < n → 0 < sz t) : ∀ {m}, m ≤ n → wtf sz m ≤ wtf sz n := by
  induction n with
  | zero => intro m hm; rw [show m = 0 by omega]; exact Nat.le_refl _
  | succ n ih =>
    intro m hm
    by_cases e : m = n + 1
    · rw [e]; exact Nat.le_refl _
    · exact Nat.le_trans (ih (fun t ht => h t (by omega)) (by omega)) (Nat.le_mul_of_pos_right _ (h n (by omega)))
theorem encf_lt {sz f : Nat → Nat} : ∀ {n : Nat}, (∀ t, t < n → f t < sz t) → encf sz f n < wtf sz n
  | 0, _ => Nat.one_pos
  | n + 1, h => by
    have h1 := encf_lt (n := n) (fun t ht => h t (by omega))
    have h2 := h n (by omega)
    show encf sz f n + wtf sz n * f n < wtf sz n * sz n
    calc encf sz f n + wtf sz n * f n < wtf sz n + wtf sz n * f n := by omega
      _ = wtf sz n * (f n + 1) := by rw [Nat.mul_add, Nat.mul_one]; omega
      _ ≤ wtf sz n * sz n := Nat.mul_le_mul_left _ h2
theorem encf_vlf {sz : Nat → Nat} {s : Nat} : ∀ {n : Nat}, (∀ t, t < n → 0 < sz t) → encf sz (vlf sz s) n = s % wtf sz n
  | 0, _ => by show 0 = s % 1; rw [Nat.mod_one]
  | n + 1, h => by
    show encf sz (vlf sz s) n + wtf sz n * (s / wtf sz n % sz n) = s % (wtf sz n * sz n)
    rw [encf_vlf (fun t ht => h t (by omega)), Nat.mod_mul]
theorem encf_of_vlf {sz : Nat → Nat} {s n : Nat} (h : ∀ t, t < n → 0 < sz t) (hs : s < wtf sz n) : encf sz (vlf sz s) n = s := by rw [encf_vlf h, Nat.mod_eq_of_lt hs]
theorem encf_congr {sz f g : Nat → Nat} : ∀ {n : Nat}, (∀ t, t < n → f t = g t) → encf sz f n = encf sz g n
  | 0, _ => rfl
  | n + 1, h => by show encf sz f n + _ = encf sz g n + _; rw [encf_congr (fun t ht => h t (by omega)), h n (by omega)]
/-- one value changed -/
theorem encf_up {sz f : Nat → Nat} {t x : Nat} : ∀ {n : Nat}, t < n → encf sz (va_up f t x) n + wtf sz t * f t = encf sz f n + wtf sz t * x
  | n + 1, h => by
    show encf sz (va_up f t x) n + wtf sz n * va_up f t x n + wtf sz t * f t = encf sz f n + wtf sz n * f n + wtf sz t * x
    by_cases e : t = n
    · subst e
      rw [ups, encf_congr (g := f) (fun u hu => upn (by omega))]
      omega
    · rw [upn (fun z => e z.symm)]
      have := encf_up (sz := sz) (f := f) (t := t) (x := x) (n := n) (by omega)
      omega
theorem vlf_enc {sz f : Nat → Nat} {n : Nat} (hf : ∀ t, t < n → f t < sz t) : ∀ t, t < n → vlf sz (encf sz f n) t = f t := by
  induction n with
  | zero => intro t ht; omega
  | succ n ih =>
    intro t ht
    have hp : ∀ u, u < n + 1 → 0 < sz u := fun u hu => Nat.lt_of_le_of_lt (Nat.zero_le _) (hf u hu)
    have hlt := encf_lt (sz := sz) (f := f) (n := n) (fun u hu => hf u (by omega))
    by_cases e : t = n
    · subst e
      show (encf sz f t + wtf sz t * f t) / wtf sz t % sz t = f t
      rw [Nat.add_mul_div_left _ _ (wtf_pos (fun u hu => hp u (by omega))), Nat.div_eq_of_lt hlt, Nat.zero_add, Nat.mod_eq_of_lt (hf t (by omega))]
    · have h1 := ih (fun u hu => hf u (by omega)) t (by omega)
      rw [← h1]
      show (encf sz f n + wtf sz n * f n) / wtf sz t % sz t = encf sz f n / wtf sz t % sz t
      -- wtf n = wtf t * sz t * c
      have hd : ∀ m, t < m → ∃ c, wtf sz m = wtf sz t * sz t * c := by
        intro m
        induction m with
        | zero => intro h; omega
        | succ m ihm =>
          intro h
          by_cases em : t = m
          · subst em; exact ⟨1, by rw [Nat.mul_one]; rfl⟩
          · obtain ⟨c, hc⟩ := ihm (by omega)
            exact ⟨c * sz m, by show wtf sz m * sz m = _; rw [hc, Nat.mul_assoc]⟩
      obtain ⟨c, hc⟩ := hd n (by omega)
      have hw : 0 < wtf sz t := wtf_pos (fun u hu => hp u (by omega))
      rw [hc, show wtf sz t * sz t * c * f n = wtf sz t * (sz t * (c * f n)) by rw [Nat.mul_assoc, Nat.mul_assoc], Nat.add_mul_div_left _ _ hw, Nat.add_mul_mod_self_left]
/-- the world's own words -/
def wt (σ : Wd) : Nat → Nat := wtf (dS σ)
def nS (σ : Wd) : Nat := wtf (dS σ) (dT σ)
def vl (σ : Wd) (s t : Nat) : Nat := vlf (dS σ) s t
/-- a condition, an effect, of n things -/
def okCo (n : Nat) (c : Ce) : Prop := c.1 < n ∧ c.2.1 < 4 ∧ (if c.2.1 = 2 then c.2.2 < n else c.2.2 < 4)
def okEf (sz : Nat → Nat) (n : Nat) (c : Ce) : Prop := c.1 < n ∧ c.2.1 < 3 ∧ (if c.2.1 = 0 then c.2.2 < sz c.1 else if c.2.1 = 1 then c.2.2 < n else c.2.2 < 4)
/-- a world as the document has it -/
def Wok (σ : Wd) : Prop := dT σ ≤ 8 ∧ (∀ t, t < dT σ → 2 ≤ dS σ t ∧ dS σ t ≤ 4) ∧ nS σ ≤ 4096 ∧ dB σ < nS σ ∧ dA σ ≤ 12 ∧ (∀ a, a < dA σ → 1 ≤ dO σ a ∧ dO σ a ≤ 3) ∧ dP σ ≤ 6 ∧
  (∀ x, (x < dA σ ∨ x = 12 ∨ (13 ≤ x ∧ x < 13 + dP σ)) → (dC σ x).length ≤ 4 ∧ ∀ c ∈ dC σ x, okCo (dT σ) c) ∧
  (∀ a k, a < dA σ → k < dO σ a → (dE σ a k).length ≤ 4 ∧ ∀ c ∈ dE σ a k, okEf (dS σ) (dT σ) c)
/-- what an effect makes of its thing in s -/
def eff (σ : Wd) (s : Nat) (c : Ce) : Nat := if c.2.1 = 0 then c.2.2 else if c.2.1 = 1 then vl σ s c.2.2 % dS σ c.1 else (vl σ s c.1 + c.2.2) % dS σ c.1
/-- the value of t behind the effects L: the last one for t counts -/
def nval (σ : Wd) (L : List Ce) (s t : Nat) : Nat := match L.reverse.find? (fun c => c.1 == t) with
  | some c => eff σ s c
  | none => vl σ s t
/-- where the effects L lead from s -/
def goW (σ : Wd) (L : List Ce) (s : Nat) : Nat := encf (dS σ) (nval σ L s) (dT σ)
def holdW (σ : Wd) (L : List Ce) (s : Nat) : Bool := L.all (hold1 (vl σ s))
/-- where act a with outcome k leads from s -/
def nxW (σ : Wd) (s a k : Nat) : Option Nat := if holdW σ (dC σ a) s = true then some (goW σ (dE σ a k) s) else none
