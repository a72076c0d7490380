/-! THE LAYER: a store, a picture of it in the machine's heap, one judgement X over it, contracts as sem -/
abbrev Hp : Type := (Nat → Nat) × (Nat → Nat) × (Nat → Nat → Int32) × (Nat → Nat → Int64) × (Nat → Nat → Option Nat) × Nat × Nat
def kT (h : Hp) : Nat → Nat := h.1
def kN (h : Hp) : Nat → Nat := h.2.1
def kI (h : Hp) : Nat → Nat → Int32 := h.2.2.1
def kL (h : Hp) : Nat → Nat → Int64 := h.2.2.2.1
def kR (h : Hp) : Nat → Nat → Option Nat := h.2.2.2.2.1
def kX (h : Hp) : Nat := h.2.2.2.2.2.1
def kS (h : Hp) : Nat := h.2.2.2.2.2.2
def wIs (h : Hp) (a : Nat) (f : Nat → Int32) : Hp := (kT h, kN h, va_up (kI h) a f, kL h, kR h, kX h, kS h)
def wLs (h : Hp) (a : Nat) (f : Nat → Int64) : Hp := (kT h, kN h, kI h, va_up (kL h) a f, kR h, kX h, kS h)
def wRs (h : Hp) (a : Nat) (f : Nat → Option Nat) : Hp := (kT h, kN h, kI h, kL h, va_up (kR h) a f, kX h, kS h)
def wI (h : Hp) (a j : Nat) (x : Int32) : Hp := wIs h a (va_up (kI h a) j x)
def wL (h : Hp) (a j : Nat) (x : Int64) : Hp := wLs h a (va_up (kL h a) j x)
def wR (h : Hp) (a j : Nat) (x : Option Nat) : Hp := wRs h a (va_up (kR h a) j x)
/-- a new cell of kind t, of length n, of z slots -/
def wA (h : Hp) (t n z : Nat) : Hp := (va_up (kT h) (kX h) t, va_up (kN h) (kX h) n, va_up (kI h) (kX h) (fun _ => 0), va_up (kL h) (kX h) (fun _ => 0), va_up (kR h) (kX h) (fun _ => none), kX h + 1, kS h + z)
/-- a field's value by its kind: 0 an int, 1 a long, 2 a reference -/
def fv (h : Hp) (a k t : Nat) : Value := if t = 0 then .int (kI h a k) else if t = 1 then .long (kL h a k) else va_rf (kR h a k)
def fvs (ks : List Nat) (h : Hp) (a : Nat) : List Value := (List.range ks.length).map (fun k => fv h a k (ks.getD k 0))
def ea (h : Hp) (a : Nat) : (Nat → Int32) ⊕ (Nat → Int64) ⊕ (Nat → UInt32) ⊕ (Nat → UInt64) ⊕ (Nat → Option Nat) := if kT h a = 52 then .inr (.inl (kL h a)) else if 53 ≤ kT h a then .inr (.inr (.inr (.inr (kR h a)))) else .inl (kI h a)
/-- the cell that the kit knows: kinds 1 .. 49 objects of class kind - 1; 50 ints, 51 booleans, 52 longs, 53 .. references -/
def ek (cA : Nat → ClassId) (h : Hp) (a : Nat) : va_E :=
  if kT h a < 50 then .inr (kT h a - 1, fvs (fkz (kT h a - 1)) h a) else .inl (cA (kT h a - 50), kN h a, ea h a)
theorem fvs_len (ks : List Nat) (h : Hp) (a : Nat) : (fvs ks h a).length = ks.length := by simp [fvs]
theorem fvs_get {ks : List Nat} {h : Hp} {a k : Nat} (hk : k < ks.length) : (fvs ks h a)[k]? = some (fv h a k (ks.getD k 0)) := by
  simp [fvs, hk]
theorem fvs_set {ks : List Nat} {h h1 : Hp} {a k : Nat} {v : Value} (hk : k < ks.length) (hv : fv h1 a k (ks.getD k 0) = v) (ho : ∀ j, j ≠ k → ∀ t, fv h1 a j t = fv h a j t) : fvs ks h1 a = (fvs ks h a).set k v := by
  apply List.ext_getElem?
  intro j
  by_cases hj : j < ks.length
  · by_cases e : j = k
    · subst e
      rw [fvs_get hj, List.getElem?_set_self (by rw [fvs_len]; exact hj), hv]
    · rw [fvs_get hj, List.getElem?_set_ne (Ne.symm e), fvs_get hj, ho j e]
  · rw [List.getElem?_eq_none (by rw [fvs_len]; omega), List.getElem?_eq_none (by rw [List.length_set, fvs_len]; omega)]
def hpw (cA : Nat → ClassId) (base : Nat) (h : Hp) : va_W := va_pl (List.range' base (kX h - base)) (ek cA h)
theorem hpw_get {cA : Nat → ClassId} {base a : Nat} {h : Hp} (h1 : base ≤ a) (h2 : a < kX h) : (hpw cA base h)[a - base]? = some (a, ek cA h a) := by
  have h3 : a - base < kX h - base := by omega
  have h4 : base + (a - base) = a := by omega
  simp [hpw, va_pl, List.getElem?_range', h3, h4]
theorem hpw_inv {cA : Nat → ClassId} {base k : Nat} {h : Hp} {q : Nat × va_E} (hq : (hpw cA base h)[k]? = some q) : q = (base + k, ek cA h (base + k)) ∧ base + k < kX h := by
  by_cases hk : k < kX h - base
  · have := hpw_get (cA := cA) (base := base) (a := base + k) (h := h) (by omega) (by omega)
    rw [Nat.add_sub_cancel_left, hq] at this
    exact ⟨Option.some.inj this, by omega⟩
  · rw [List.getElem?_eq_none (by simp [hpw, va_pl]; omega)] at hq
    cases hq
theorem hpw_len {cA : Nat → ClassId} {base : Nat} {h : Hp} : (hpw cA base h).length = kX h - base := by simp [hpw, va_pl]
theorem hpw_set {cA : Nat → ClassId} {base a : Nat} {h h1 : Hp} {e : va_E} (b1 : base ≤ a) (b2 : a < kX h) (hx : kX h1 = kX h) (he : ek cA h1 a = e) (ho : ∀ b, b ≠ a → ek cA h1 b = ek cA h b) : (hpw cA base h).set (a - base) (a, e) = hpw cA base h1 := by
  apply List.ext_getElem?
  intro j
  by_cases hj : j < kX h - base
  · have g1 := hpw_get (cA := cA) (base := base) (a := base + j) (h := h) (by omega) (by omega)
    have g2 := hpw_get (cA := cA) (base := base) (a := base + j) (h := h1) (by omega) (by omega)
    rw [Nat.add_sub_cancel_left] at g1 g2
    by_cases e1 : j = a - base
    · subst e1
      have e2 : base + (a - base) = a := by omega
      rw [List.getElem?_set_self (by rw [hpw_len]; exact hj), g2, e2, he]
    · rw [List.getElem?_set_ne (Ne.symm e1), g1, g2, ho _ (by omega)]
  · rw [List.getElem?_eq_none (by rw [List.length_set, hpw_len]; omega), List.getElem?_eq_none (by rw [hpw_len]; omega)]
theorem hpw_push {cA : Nat → ClassId} {base : Nat} {h h1 : Hp} {e : va_E} (b1 : base ≤ kX h) (hx : kX h1 = kX h + 1) (he : ek cA h1 (kX h) = e) (ho : ∀ b, b ≠ kX h → ek cA h1 b = ek cA h b) : hpw cA base h ++ [(kX h, e)] = hpw cA base h1 := by
  apply List.ext_getElem?
  intro j
  by_cases hj : j < kX h - base
  · have g1 := hpw_get (cA := cA) (base := base) (a := base + j) (h := h) (by omega) (by omega)
    have g2 := hpw_get (cA := cA) (base := base) (a := base + j) (h := h1) (by omega) (by omega)
    rw [Nat.add_sub_cancel_left] at g1 g2
    rw [List.getElem?_append_left (by rw [hpw_len]; exact hj), g1, g2, ho _ (by omega)]
  · by_cases e1 : j = kX h - base
    · subst e1
      have g2 := hpw_get (cA := cA) (base := base) (a := kX h) (h := h1) (by omega) (by omega)
      rw [List.getElem?_append_right (by rw [hpw_len]; omega), hpw_len, Nat.sub_self, g2, he]
      rfl
    · rw [List.getElem?_eq_none (by rw [List.length_append, hpw_len]; simp; omega), List.getElem?_eq_none (by rw [hpw_len]; omega)]
theorem hpw_D {cA : Nat → ClassId} {base : Nat} {h : Hp} : va_D (fun q => base ≤ q) (hpw cA base h) := by
  refine ⟨fun i j p q hi hj e => ?_, fun k q hk => ?_⟩
  · have a := (hpw_inv hi).1
    have b := (hpw_inv hj).1
    subst a; subst b
    have e : base + i = base + j := e
    omega
  · have a := (hpw_inv hk).1
    subst a
    exact Nat.le_add_right _ _
/-! sums of slots -/
def ssum (H : Heap) (z : Nat) : Nat := ((H.toList.drop z).map (·.slots.size)).sum
def szs (H H1 : Heap) : Prop := ∀ (a : Nat) (c : Cell), H[a]? = some c → ∃ c' : Cell, H1[a]? = some c' ∧ c'.slots.size = c.slots.size
theorem szs_le {H H1 : Heap} (h : szs H H1) : H.size ≤ H1.size := by
  rcases Nat.eq_zero_or_pos H.size with e | e
  · omega
  · obtain ⟨c', h1, -⟩ := h (H.size - 1) H[H.size - 1] (Array.getElem?_eq_getElem (by omega))
    have := (Array.getElem?_eq_some_iff.mp h1).1
    omega
theorem ssum_split {H H1 : Heap} {z : Nat} (h : szs H H1) (hz : z ≤ H.size) : ssum H1 z = ssum H z + ssum H1 H.size := by
  have e1 : H1.toList.map (·.slots.size) = H.toList.map (·.slots.size) ++ (H1.toList.drop H.size).map (·.slots.size) := by
    have e2 : (H1.toList.take H.size).map (·.slots.size) = H.toList.map (·.slots.size) := by
      apply List.ext_getElem?
      intro j
      by_cases hj : j < H.size
      · obtain ⟨c', h1, h2⟩ := h j H[j] (Array.getElem?_eq_getElem hj)
        have h3 : H1.toList[j]? = some c' := by rw [Array.getElem?_toList]; exact h1
        have h4 : H.toList[j]? = some H[j] := by rw [Array.getElem?_toList]; exact Array.getElem?_eq_getElem hj
        rw [List.getElem?_map, List.getElem?_map, List.getElem?_take_of_lt hj, h3, h4]
        simp [h2]
      · rw [List.getElem?_eq_none (by simp; omega), List.getElem?_eq_none (by simp; omega)]
    rw [← e2, ← List.map_append, List.take_append_drop]
  unfold ssum
  rw [List.map_drop, e1, List.drop_append_of_le_length (by simp; exact hz), List.sum_append, List.map_drop]
  congr 1
  rw [List.map_drop]
section WF
variable {p : Program} {l : Launch} {e : Env} {R : Room} {s : State} {m : MethodId} {args : Array Value} {below : List Frame} {meth : Method} {c : Code} {H : Heap} {locs : List Loc} {cells slots : Nat} {Q : State → Prop}
theorem W_facts {g : JFrame} (k : s.heap.size ≤ H.size → H.size ≤ s.heap.size + cells → ssum H s.heap.size ≤ slots → szs s.heap H → W p l e R s m args below meth c H locs cells slots Q g) : W p l e R s m args below meth c H locs cells slots Q g := by
  intro T hT X
  obtain ⟨-, a1, a2, -, a4, a5⟩ := X.same
  subst hT
  exact k a1 a2 a4 (fun a c hc => by obtain ⟨c', h1, -, h3, -⟩ := a5 a c hc; exact ⟨c', h1, h3⟩) T rfl X
theorem stand_tight {T : State} {k n : Nat} (X : Stand p l e R s m args below meth c T locs cells slots) (h1 : T.heap.size ≤ s.heap.size + k) (h2 : ssum T.heap s.heap.size ≤ n) : Stand p l e R s m args below meth c T locs k n := by
  obtain ⟨a0, a1, a2, a3, a4, a5⟩ := X.same
  exact { X with same := ⟨a0, a1, h1, a3, h2, a5⟩ }
end WF
