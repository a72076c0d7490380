/-! CONSTRUCTORS: the store as a list of steps, newest first. (0, o, t, n, z) a cell is made, (1, o, k, c, 0) an int, (2, o, k, c, 0) a long, (3, o, k, p, 0) a reference is written; places are counted from b -/
abbrev Op : Type := Nat × Nat × Nat × Nat × Nat
def cdI (c : Nat) : Int32 := if c = 0 then 0 else if c = 1 then 1 else -1
def cdL (c : Nat) : Int64 := if c = 0 then 0 else 1
def ap (b : Nat) (e : Op) (h : Hp) : Hp :=
  if e.1 = 0 then wA h e.2.2.1 e.2.2.2.1 e.2.2.2.2 else
  if e.1 = 1 then wI h (b + e.2.1) e.2.2.1 (cdI e.2.2.2.1) else
  if e.1 = 2 then wL h (b + e.2.1) e.2.2.1 (cdL e.2.2.2.1) else wR h (b + e.2.1) e.2.2.1 (some (b + e.2.2.2.1))
def hp0 (b : Nat) : Hp := (fun _ => 0, fun _ => 0, fun _ _ => 0, fun _ _ => 0, fun _ _ => none, b, 0)
def run (b : Nat) : List Op → Hp
  | [] => hp0 b
  | e :: L => ap b e (run b L)
def nA : List Op → Nat
  | [] => 0
  | e :: L => if e.1 = 0 then nA L + 1 else nA L
def zS : List Op → Nat
  | [] => 0
  | e :: L => if e.1 = 0 then zS L + e.2.2.2.2 else zS L
def wfO : List Op → Prop
  | [] => True
  | e :: L => (e.1 = 0 → e.2.1 = nA L) ∧ wfO L
def tgO : List Op → Nat → Nat
  | [], _ => 0
  | e :: L, o => if e.1 = 0 ∧ e.2.1 = o then e.2.2.1 else tgO L o
def lnO : List Op → Nat → Nat
  | [], _ => 0
  | e :: L, o => if e.1 = 0 ∧ e.2.1 = o then e.2.2.2.1 else lnO L o
def iO : List Op → Nat → Nat → Int32
  | [], _, _ => 0
  | e :: L, o, k => if e.1 = 0 ∧ e.2.1 = o then 0 else if e.1 = 1 ∧ e.2.1 = o ∧ e.2.2.1 = k then cdI e.2.2.2.1 else iO L o k
def lO : List Op → Nat → Nat → Int64
  | [], _, _ => 0
  | e :: L, o, k => if e.1 = 0 ∧ e.2.1 = o then 0 else if e.1 = 2 ∧ e.2.1 = o ∧ e.2.2.1 = k then cdL e.2.2.2.1 else lO L o k
def rfO : List Op → Nat → Nat → Option Nat
  | [], _, _ => none
  | e :: L, o, k => if e.1 = 0 ∧ e.2.1 = o then none else if (e.1 ≠ 0 ∧ e.1 ≠ 1 ∧ e.1 ≠ 2) ∧ e.2.1 = o ∧ e.2.2.1 = k then some e.2.2.2.1 else rfO L o k
theorem up_eq {α : Type} (f : Nat → α) (a : Nat) (v : α) (x : Nat) : va_up f a v x = if x = a then v else f x := by
  by_cases h : x = a
  · subst h; rw [ups, if_pos rfl]
  · rw [upn h, if_neg h]
theorem run_X (b : Nat) : ∀ L, kX (run b L) = b + nA L
  | [] => rfl
  | e :: L => by
    have ih := run_X b L
    unfold run nA ap
    split
    · show kX (run b L) + 1 = _; rw [ih]; rfl
    · split
      · exact ih
      · split <;> exact ih
theorem run_S (b : Nat) : ∀ L, kS (run b L) = zS L
  | [] => rfl
  | e :: L => by
    have ih := run_S b L
    unfold run zS ap
    split
    · show kS (run b L) + _ = _; rw [ih]
    · split
      · exact ih
      · split <;> exact ih
theorem run_T (b : Nat) : ∀ L, wfO L → ∀ o, kT (run b L) (b + o) = tgO L o
  | [], _, o => rfl
  | e :: L, w, o => by
    have ih := run_T b L w.2 o
    unfold run tgO ap
    by_cases q : e.1 = 0
    · rw [if_pos q]
      show va_up (kT (run b L)) (kX (run b L)) _ (b + o) = _
      rw [up_eq, run_X, ih]
      by_cases r : o = nA L
      · rw [if_pos (by omega), if_pos ⟨q, by rw [w.1 q]; exact r.symm⟩]
      · rw [if_neg (by omega), if_neg (fun z => r (by rw [← z.2]; exact w.1 q))]
    · rw [if_neg q, if_neg (c := e.1 = 0 ∧ e.2.1 = o) (fun z => q z.1)]
      split
      · exact ih
      · split <;> exact ih
theorem run_N (b : Nat) : ∀ L, wfO L → ∀ o, kN (run b L) (b + o) = lnO L o
  | [], _, o => rfl
  | e :: L, w, o => by
    have ih := run_N b L w.2 o
    unfold run lnO ap
    by_cases q : e.1 = 0
    · rw [if_pos q]
      show va_up (kN (run b L)) (kX (run b L)) _ (b + o) = _
      rw [up_eq, run_X, ih]
      by_cases r : o = nA L
      · rw [if_pos (by omega), if_pos ⟨q, by rw [w.1 q]; exact r.symm⟩]
      · rw [if_neg (by omega), if_neg (fun z => r (by rw [← z.2]; exact w.1 q))]
    · rw [if_neg q, if_neg (c := e.1 = 0 ∧ e.2.1 = o) (fun z => q z.1)]
      split
      · exact ih
      · split <;> exact ih
theorem run_I (b : Nat) : ∀ L, wfO L → ∀ o, kI (run b L) (b + o) = iO L o
  | [], _, o => rfl
  | e :: L, w, o => by
    have ih := run_I b L w.2 o
    funext k
    unfold run iO ap
    by_cases q : e.1 = 0
    · rw [if_pos q]
      show va_up (kI (run b L)) (kX (run b L)) _ (b + o) k = _
      rw [up_eq, run_X, ih]
      by_cases r : o = nA L
      · rw [if_pos (by omega), if_pos ⟨q, by rw [w.1 q]; exact r.symm⟩]
      · rw [if_neg (by omega), if_neg (fun z => r (by rw [← z.2]; exact w.1 q)), if_neg (fun z => by omega)]
    · rw [if_neg q, if_neg (c := e.1 = 0 ∧ e.2.1 = o) (fun z => q z.1)]
      by_cases q1 : e.1 = 1
      · rw [if_pos q1]
        show va_up (kI (run b L)) (b + e.2.1) (va_up (kI (run b L) (b + e.2.1)) e.2.2.1 (cdI e.2.2.2.1)) (b + o) k = _
        rw [up_eq]
        by_cases r : e.2.1 = o
        · rw [if_pos (by omega), r, ih, up_eq]
          by_cases r2 : e.2.2.1 = k
          · rw [if_pos r2.symm, if_pos ⟨q1, rfl, r2⟩]
          · rw [if_neg (fun z => r2 z.symm), if_neg (fun z => r2 z.2.2)]
        · rw [if_neg (by omega), ih, if_neg (fun z => r z.2.1)]
      · rw [if_neg q1, if_neg (c := e.1 = 1 ∧ e.2.1 = o ∧ e.2.2.1 = k) (fun z => q1 z.1)]
        split
        · exact congrFun ih k
        · exact congrFun ih k
theorem run_L (b : Nat) : ∀ L, wfO L → ∀ o, kL (run b L) (b + o) = lO L o
  | [], _, o => rfl
  | e :: L, w, o => by
    have ih := run_L b L w.2 o
    funext k
    unfold run lO ap
    by_cases q : e.1 = 0
    · rw [if_pos q]
      show va_up (kL (run b L)) (kX (run b L)) _ (b + o) k = _
      rw [up_eq, run_X, ih]
      by_cases r : o = nA L
      · rw [if_pos (by omega), if_pos ⟨q, by rw [w.1 q]; exact r.symm⟩]
      · rw [if_neg (by omega), if_neg (fun z => r (by rw [← z.2]; exact w.1 q)), if_neg (fun z => by omega)]
    · rw [if_neg q, if_neg (c := e.1 = 0 ∧ e.2.1 = o) (fun z => q z.1)]
      by_cases q1 : e.1 = 1
      · rw [if_pos q1, if_neg (c := e.1 = 2 ∧ e.2.1 = o ∧ e.2.2.1 = k) (fun z => by omega)]
        exact congrFun ih k
      · rw [if_neg q1]
        by_cases q2 : e.1 = 2
        · rw [if_pos q2]
          show va_up (kL (run b L)) (b + e.2.1) (va_up (kL (run b L) (b + e.2.1)) e.2.2.1 (cdL e.2.2.2.1)) (b + o) k = _
          rw [up_eq]
          by_cases r : e.2.1 = o
          · rw [if_pos (by omega), r, ih, up_eq]
            by_cases r2 : e.2.2.1 = k
            · rw [if_pos r2.symm, if_pos ⟨q2, rfl, r2⟩]
            · rw [if_neg (fun z => r2 z.symm), if_neg (fun z => r2 z.2.2)]
          · rw [if_neg (by omega), ih, if_neg (fun z => r z.2.1)]
        · rw [if_neg q2, if_neg (c := e.1 = 2 ∧ e.2.1 = o ∧ e.2.2.1 = k) (fun z => q2 z.1)]
          exact congrFun ih k
theorem run_R (b : Nat) : ∀ L, wfO L → ∀ o k, kR (run b L) (b + o) k = (rfO L o k).map (fun p => b + p)
  | [], _, o, k => rfl
  | e :: L, w, o, k => by
    have ih := run_R b L w.2
    unfold run rfO ap
    by_cases q : e.1 = 0
    · rw [if_pos q]
      show va_up (kR (run b L)) (kX (run b L)) _ (b + o) k = _
      rw [up_eq, run_X]
      by_cases r : o = nA L
      · rw [if_pos (by omega), if_pos ⟨q, by rw [w.1 q]; exact r.symm⟩]; rfl
      · rw [if_neg (by omega), if_neg (fun z => r (by rw [← z.2]; exact w.1 q)), if_neg (fun z => z.1.1 q)]; exact ih o k
    · rw [if_neg q, if_neg (c := e.1 = 0 ∧ e.2.1 = o) (fun z => q z.1)]
      by_cases q1 : e.1 = 1
      · rw [if_pos q1, if_neg (fun z => z.1.2.1 q1)]
        exact ih o k
      · rw [if_neg q1]
        by_cases q2 : e.1 = 2
        · rw [if_pos q2, if_neg (fun z => z.1.2.2 q2)]
          exact ih o k
        · rw [if_neg q2]
          show va_up (kR (run b L)) (b + e.2.1) (va_up (kR (run b L) (b + e.2.1)) e.2.2.1 (some (b + e.2.2.2.1))) (b + o) k = _
          rw [up_eq]
          by_cases r : e.2.1 = o
          · rw [if_pos (by omega), r, up_eq]
            by_cases r2 : e.2.2.1 = k
            · rw [if_pos r2.symm, if_pos ⟨⟨q, q1, q2⟩, rfl, r2⟩]; rfl
            · rw [if_neg (fun z => r2 z.symm), if_neg (fun z => r2 z.2.2)]; exact ih o k
          · rw [if_neg (by omega), if_neg (fun z => r z.2.1)]; exact ih o k
theorem run_ok (b : Nat) : ∀ L a, kT (run b L) a ≠ 0 → b ≤ a ∧ a < kX (run b L)
  | [], a, h => absurd rfl h
  | e :: L, a, h => by
    have ih := run_ok b L a
    have hX := run_X b L
    by_cases q : e.1 = 0
    · have e1 : run b (e :: L) = wA (run b L) e.2.2.1 e.2.2.2.1 e.2.2.2.2 := by show ap b e (run b L) = _; unfold ap; rw [if_pos q]
      rw [e1] at h ⊢
      have h' : va_up (kT (run b L)) (kX (run b L)) e.2.2.1 a ≠ 0 := h
      show b ≤ a ∧ a < kX (run b L) + 1
      rw [up_eq] at h'
      by_cases r : a = kX (run b L)
      · omega
      · rw [if_neg r] at h'
        have := ih h'
        omega
    · have e1 : kT (run b (e :: L)) = kT (run b L) ∧ kX (run b (e :: L)) = kX (run b L) := by
        show kT (ap b e (run b L)) = _ ∧ kX (ap b e (run b L)) = _
        unfold ap
        rw [if_neg q]
        split
        · exact ⟨rfl, rfl⟩
        · split <;> exact ⟨rfl, rfl⟩
      rw [e1.1] at h
      rw [e1.2]
      exact ih h
/-- the store h is what the steps L leave behind: n cells, z slots -/
def Sc (b : Nat) (h : Hp) (L : List Op) (n z : Nat) : Prop := h = run b L ∧ nA L = n ∧ zS L = z ∧ wfO L
section SCT
variable {G : Gc} {b o n z : Nat} {h h1 : Hp} {L : List Op}
theorem sce {n' z' : Nat} (s : Sc b h L n z) (e1 : n = n') (e2 : z = z') : Sc b h L n' z' := by subst e1; subst e2; exact s
theorem scX (s : Sc b h L n z) : kX h = b + n := by rw [s.1, run_X, s.2.1]
theorem scC (s : Sc b h L n z) (hb : b = gB G) (c : n + 1 ≤ 10000) : kX h + 1 ≤ gB G + capC := by
  rw [scX s, hb]
  have := capC_lo
  omega
theorem scZ {w : Nat} (s : Sc b h L n z) (c : z + w ≤ 4000000) : kS h + w ≤ capS := by
  rw [s.1, run_S, s.2.2.1]
  exact Nat.le_trans c capS_lo
theorem scT {t : Nat} (s : Sc b h L n z) (e : tgO L o = t) : kT h (b + o) = t := by rw [s.1, run_T b L s.2.2.2]; exact e
theorem scN {t : Nat} (s : Sc b h L n z) (e : lnO L o = t) : kN h (b + o) = t := by rw [s.1, run_N b L s.2.2.2]; exact e
theorem scR {k p : Nat} (s : Sc b h L n z) (e : rfO L o k = some p) : kR h (b + o) k = some (b + p) := by rw [s.1, run_R b L s.2.2.2, e]; rfl
theorem scRf {k p : Nat} (s : Sc b h L n z) (e : rfO L o k = some p) : rf h (b + o) k = b + p := by unfold rf; rw [scR s e]; rfl
theorem sc_A {t m w : Nat} (s : Sc b h L n z) (e : h1 = wA h t m w) : Sc b h1 ((0, n, t, m, w) :: L) (n + 1) (z + w) := by
  refine ⟨by rw [e, s.1]; rfl, ?_, ?_, fun _ => s.2.1.symm, s.2.2.2⟩
  · show nA L + 1 = _; rw [s.2.1]
  · show zS L + w = _; rw [s.2.2.1]
theorem sc_I {k : Nat} (c : Nat) {x : Int32} (s : Sc b h L n z) (hx : cdI c = x) (e : h1 = wI h (b + o) k x) : Sc b h1 ((1, o, k, c, 0) :: L) n z :=
  ⟨by rw [e, s.1, ← hx]; rfl, s.2.1, s.2.2.1, fun h => absurd h (by decide : ¬ (1 : Nat) = 0), s.2.2.2⟩
theorem sc_L {k : Nat} (c : Nat) {x : Int64} (s : Sc b h L n z) (hx : cdL c = x) (e : h1 = wL h (b + o) k x) : Sc b h1 ((2, o, k, c, 0) :: L) n z :=
  ⟨by rw [e, s.1, ← hx]; rfl, s.2.1, s.2.2.1, fun h => absurd h (by decide : ¬ (2 : Nat) = 0), s.2.2.2⟩
theorem sc_R {k p x : Nat} (s : Sc b h L n z) (hx : x = b + p) (e : h1 = wR h (b + o) k (some x)) : Sc b h1 ((3, o, k, p, 0) :: L) n z :=
  ⟨by rw [e, s.1, hx]; rfl, s.2.1, s.2.2.1, fun h => absurd h (by decide : ¬ (3 : Nat) = 0), s.2.2.2⟩
theorem tg_A {x i t m w g : Nat} (h : tgO L x = g) (hx : i ≠ x) : tgO ((0, i, t, m, w) :: L) x = g := by
  unfold tgO; rw [if_neg (fun z => hx z.2)]; exact h
theorem tg_0 {i t m w : Nat} : tgO ((0, i, t, m, w) :: L) i = t := by unfold tgO; rw [if_pos ⟨rfl, rfl⟩]
theorem tg_w {c x i k p g : Nat} (h : tgO L x = g) : tgO ((c + 1, i, k, p, 0) :: L) x = g := by
  unfold tgO; rw [if_neg (fun z => absurd z.1 (Nat.succ_ne_zero c))]; exact h
theorem ln_A {x i t m w g : Nat} (h : lnO L x = g) (hx : i ≠ x) : lnO ((0, i, t, m, w) :: L) x = g := by
  unfold lnO; rw [if_neg (fun z => hx z.2)]; exact h
theorem ln_0 {i t m w : Nat} : lnO ((0, i, t, m, w) :: L) i = m := by unfold lnO; rw [if_pos ⟨rfl, rfl⟩]
theorem ln_w {c x i k p g : Nat} (h : lnO L x = g) : lnO ((c + 1, i, k, p, 0) :: L) x = g := by
  unfold lnO; rw [if_neg (fun z => absurd z.1 (Nat.succ_ne_zero c))]; exact h
theorem rf_A {x j i t m w : Nat} {g : Option Nat} (h : rfO L x j = g) (hx : i ≠ x) : rfO ((0, i, t, m, w) :: L) x j = g := by
  unfold rfO; rw [if_neg (fun z => hx z.2), if_neg (fun z => z.1.1 rfl)]; exact h
theorem rf_I {x j i k p : Nat} {g : Option Nat} (h : rfO L x j = g) : rfO ((1, i, k, p, 0) :: L) x j = g := by
  unfold rfO; rw [if_neg (fun z => absurd z.1 (by decide : ¬ (1 : Nat) = 0)), if_neg (fun z => z.1.2.1 rfl)]; exact h
theorem rf_L {x j i k p : Nat} {g : Option Nat} (h : rfO L x j = g) : rfO ((2, i, k, p, 0) :: L) x j = g := by
  unfold rfO; rw [if_neg (fun z => absurd z.1 (by decide : ¬ (2 : Nat) = 0)), if_neg (fun z => z.1.2.2 rfl)]; exact h
theorem rf_R {x j i k p : Nat} {g : Option Nat} (h : rfO L x j = g) (hx : i ≠ x ∨ k ≠ j) : rfO ((3, i, k, p, 0) :: L) x j = g := by
  unfold rfO; rw [if_neg (fun z => absurd z.1 (by decide : ¬ (3 : Nat) = 0)), if_neg (fun z => by rcases hx with h | h; exact h z.2.1; exact h z.2.2)]; exact h
theorem rf_0 {x j p : Nat} : rfO ((3, x, j, p, 0) :: L) x j = some p := by
  unfold rfO; rw [if_neg (fun z => absurd z.1 (by decide : ¬ (3 : Nat) = 0)), if_pos ⟨⟨(by decide : ¬ (3 : Nat) = 0), (by decide : ¬ (3 : Nat) = 1), (by decide : ¬ (3 : Nat) = 2)⟩, rfl, rfl⟩]
/-- of the cell x nothing changed between L and L' -/
def Kp (L L' : List Op) (x : Nat) : Prop := tgO L' x = tgO L x ∧ lnO L' x = lnO L x ∧ ∀ k, rfO L' x k = rfO L x k
theorem kp_rf {x : Nat} : Kp L L x := ⟨rfl, rfl, fun _ => rfl⟩
theorem kp_tr {L2 L3 : List Op} {x : Nat} (h1 : Kp L L2 x) (h2 : Kp L2 L3 x) : Kp L L3 x := ⟨h2.1.trans h1.1, h2.2.1.trans h1.2.1, fun k => (h2.2.2 k).trans (h1.2.2 k)⟩
theorem kp_A {L2 : List Op} {x i t m w : Nat} (h : Kp L L2 x) (hx : i ≠ x) : Kp L ((0, i, t, m, w) :: L2) x := ⟨tg_A h.1 hx, ln_A h.2.1 hx, fun k => rf_A (h.2.2 k) hx⟩
theorem kp_I {L2 : List Op} {x i k p : Nat} (h : Kp L L2 x) : Kp L ((1, i, k, p, 0) :: L2) x := ⟨tg_w h.1, ln_w h.2.1, fun k => rf_I (h.2.2 k)⟩
theorem kp_L {L2 : List Op} {x i k p : Nat} (h : Kp L L2 x) : Kp L ((2, i, k, p, 0) :: L2) x := ⟨tg_w h.1, ln_w h.2.1, fun k => rf_L (h.2.2 k)⟩
theorem kp_R {L2 : List Op} {x i k p : Nat} (h : Kp L L2 x) (hx : i ≠ x) : Kp L ((3, i, k, p, 0) :: L2) x := ⟨tg_w h.1, ln_w h.2.1, fun k => rf_R (h.2.2 k) (Or.inl hx)⟩
end SCT
def oCl (o n : Nat) (L : List Op) : List Op := (3, o, 3, n + 1 + 1, 0) :: (0, n + 1 + 1, 50, 4, 4) :: (3, o, 2, n + 1, 0) :: (0, n + 1, 50, 4, 4) :: (3, o, 1, n, 0) :: (0, n, 50, 4, 4) :: (1, o, 0, 0, 0) :: L
theorem kp_Cl {o n x : Nat} {L : List Op} (hx : x < o) (ho : o < n) : Kp L (oCl o n L) x := kp_R (kp_A (kp_R (kp_A (kp_R (kp_A (kp_I (kp_rf)) (by omega)) (by omega)) (by omega)) (by omega)) (by omega)) (by omega)
theorem kpo_Cl {o n g : Nat} {L : List Op} (ho : o < n) (h : tgO L o = g) : tgO (oCl o n L) o = g := tg_w (tg_A (tg_w (tg_A (tg_w (tg_A (tg_w (h)) (by omega))) (by omega))) (by omega))
set_option maxRecDepth 100000 in
theorem ct_Cl {G : Gc} {K : Option Value → Hp → Prop} {a b o n z : Nat} {h : Hp} {L : List Op} (hG : gok G) (hb : b = gB G) (s0 : Sc b h L n z) (ho : o < n) (t0 : tgO L o = 5) (ea : a = b + o) (c1 : n + 3 ≤ 10000) (c2 : z + 12 ≤ 4000000) (k : ∀ h', Sc b h' (oCl o n L) (n + 3) (z + 12) → K none h') : sem G r_Cl_init [.ref a] h K := by
  subst ea
  refine sem_intro yk_Cl_init.2.2.2.2 (Nat.le_of_ble_eq_true rfl) (fun M Q hM => ?_)
  refine S_Cl_init_0 hG hM (b + o) h ?_
  refine ⟨scT s0 t0, fun h1 e1 => ?_⟩
  have s1 := sc_I 0 s0 rfl e1
  have t1 := tg_w (c := 0) (i := o) (k := 0) (p := 0) t0
  refine ⟨scC s1 hb (by omega), scZ s1 (by omega), fun h2 e2 => ?_⟩
  have s2 := sc_A s1 e2
  have t2 := tg_A (i := n) (t := 50) (m := 4) (w := 4) t1 (by omega)
  refine ⟨scT s2 t2, fun h3 e3 => ?_⟩
  have s3 := sc_R s2 (scX s1) e3
  have t3 := tg_w (c := 2) (i := o) (k := 1) (p := n) t2
  refine ⟨scC s3 hb (by omega), scZ s3 (by omega), fun h4 e4 => ?_⟩
  have s4 := sc_A s3 e4
  have t4 := tg_A (i := n + 1) (t := 50) (m := 4) (w := 4) t3 (by omega)
  refine ⟨scT s4 t4, fun h5 e5 => ?_⟩
  have s5 := sc_R s4 (scX s3) e5
  have t5 := tg_w (c := 2) (i := o) (k := 2) (p := n + 1) t4
  refine ⟨scC s5 hb (by omega), scZ s5 (by omega), fun h6 e6 => ?_⟩
  have s6 := sc_A s5 e6
  have t6 := tg_A (i := n + 1 + 1) (t := 50) (m := 4) (w := 4) t5 (by omega)
  refine ⟨scT s6 t6, fun h7 e7 => ?_⟩
  have s7 := sc_R s6 (scX s5) e7
  have t7 := tg_w (c := 2) (i := o) (k := 3) (p := n + 1 + 1) t6
  exact k h7 (sce s7 (by omega) (by omega))
def oCh (o n : Nat) (L : List Op) : List Op := (2, o, 3, 1, 0) :: (2, o, 2, 1, 0) :: (2, o, 1, 1, 0) :: (2, o, 0, 1, 0) :: L
theorem kp_Ch {o n x : Nat} {L : List Op} (hx : x < o) (ho : o < n) : Kp L (oCh o n L) x := kp_L (kp_L (kp_L (kp_L (kp_rf))))
theorem kpo_Ch {o n g : Nat} {L : List Op} (ho : o < n) (h : tgO L o = g) : tgO (oCh o n L) o = g := tg_w (tg_w (tg_w (tg_w (h))))
set_option maxRecDepth 100000 in
theorem ct_Ch {G : Gc} {K : Option Value → Hp → Prop} {a b o n z : Nat} {h : Hp} {L : List Op} (hG : gok G) (hb : b = gB G) (s0 : Sc b h L n z) (ho : o < n) (t0 : tgO L o = 7) (ea : a = b + o) (c1 : n + 0 ≤ 10000) (c2 : z + 0 ≤ 4000000) (k : ∀ h', Sc b h' (oCh o n L) (n + 0) (z + 0) → K none h') : sem G r_Ch_init [.ref a] h K := by
  subst ea
  refine sem_intro yk_Ch_init.2.2.2.2 (Nat.le_of_ble_eq_true rfl) (fun M Q hM => ?_)
  refine S_Ch_init_0 hG hM (b + o) h ?_
  refine ⟨scT s0 t0, fun h1 e1 => ?_⟩
  have s1 := sc_L 1 s0 rfl e1
  have t1 := tg_w (c := 1) (i := o) (k := 0) (p := 1) t0
  refine ⟨scT s1 t1, fun h2 e2 => ?_⟩
  have s2 := sc_L 1 s1 rfl e2
  have t2 := tg_w (c := 1) (i := o) (k := 1) (p := 1) t1
  refine ⟨scT s2 t2, fun h3 e3 => ?_⟩
  have s3 := sc_L 1 s2 rfl e3
  have t3 := tg_w (c := 1) (i := o) (k := 2) (p := 1) t2
  refine ⟨scT s3 t3, fun h4 e4 => ?_⟩
  have s4 := sc_L 1 s3 rfl e4
  have t4 := tg_w (c := 1) (i := o) (k := 3) (p := 1) t3
  exact k h4 (sce s4 (by omega) (by omega))
def oOu (o n : Nat) (L : List Op) : List Op := (3, o, 2, n + 1 + 3 + 1, 0) :: (0, n + 1 + 3 + 1, 50, 0, 0) :: (3, o, 1, n + 1 + 3, 0) :: (0, n + 1 + 3, 50, 0, 0) :: (3, o, 0, n, 0) :: oCl (n) (n + 1) ((0, n, 5, 0, 4) :: L)
theorem kp_Ou {o n x : Nat} {L : List Op} (hx : x < o) (ho : o < n) : Kp L (oOu o n L) x := kp_R (kp_A (kp_R (kp_A (kp_R (kp_tr (kp_A (kp_rf) (by omega)) (kp_Cl (by omega) (by omega))) (by omega)) (by omega)) (by omega)) (by omega)) (by omega)
theorem kpo_Ou {o n g : Nat} {L : List Op} (ho : o < n) (h : tgO L o = g) : tgO (oOu o n L) o = g := tg_w (tg_A (tg_w (tg_A (tg_w ((kp_Cl (by omega) (by omega)).1.trans (tg_A (h) (by omega)))) (by omega))) (by omega))
set_option maxRecDepth 100000 in
theorem ct_Ou {G : Gc} {K : Option Value → Hp → Prop} {a b o n z : Nat} {h : Hp} {L : List Op} (hG : gok G) (hb : b = gB G) (s0 : Sc b h L n z) (ho : o < n) (t0 : tgO L o = 4) (ea : a = b + o) (c1 : n + 6 ≤ 10000) (c2 : z + 16 ≤ 4000000) (k : ∀ h', Sc b h' (oOu o n L) (n + 6) (z + 16) → K none h') : sem G r_Ou_init [.ref a] h K := by
  subst ea
  refine sem_intro yk_Ou_init.2.2.2.2 (Nat.le_of_ble_eq_true rfl) (fun M Q hM => ?_)
  refine S_Ou_init_0 hG hM (b + o) h ?_
  refine ⟨scC s0 hb (by omega), scZ s0 (by omega), fun h1 e1 => ?_⟩
  have s1 := sc_A s0 e1
  have t1 := tg_A (i := n) (t := 5) (m := 0) (w := 4) t0 (by omega)
  refine ct_Cl hG hb s1 (Nat.lt_succ_self _) tg_0 (scX s0) (by omega) (by omega) (fun h2 s2 => ⟨rfl, ?_⟩)
  have t2 := (kp_Cl (o := n) (n := n + 1) (x := o) (by omega) (by omega)).1.trans t1
  refine ⟨scT s2 t2, fun h4 e4 => ?_⟩
  have s4 := sc_R s2 (scX s0) e4
  have t4 := tg_w (c := 2) (i := o) (k := 0) (p := n) t2
  refine ⟨scC s4 hb (by omega), scZ s4 (by omega), fun h5 e5 => ?_⟩
  have s5 := sc_A s4 e5
  have t5 := tg_A (i := n + 1 + 3) (t := 50) (m := 0) (w := 0) t4 (by omega)
  refine ⟨scT s5 t5, fun h6 e6 => ?_⟩
  have s6 := sc_R s5 (scX s4) e6
  have t6 := tg_w (c := 2) (i := o) (k := 1) (p := n + 1 + 3) t5
  refine ⟨scC s6 hb (by omega), scZ s6 (by omega), fun h7 e7 => ?_⟩
  have s7 := sc_A s6 e7
  have t7 := tg_A (i := n + 1 + 3 + 1) (t := 50) (m := 0) (w := 0) t6 (by omega)
  refine ⟨scT s7 t7, fun h8 e8 => ?_⟩
  have s8 := sc_R s7 (scX s6) e8
  have t8 := tg_w (c := 2) (i := o) (k := 2) (p := n + 1 + 3 + 1) t7
  exact k h8 (sce s8 (by omega) (by omega))
def tAc (arr i n : Nat) (L : List Op) : List Op := (3, arr, i, n, 0) :: oOu n (n + 1) ((0, n, 4, 0, 3) :: L)
def lAc (arr : Nat) : Nat → Nat → Nat → List Op → List Op
  | 0, _, _, L => L
  | d + 1, i, n, L => lAc arr d (i + 1) (n + 7) (tAc arr i n L)
theorem kpl_Ac {arr x : Nat} (hx : x ≠ arr) : ∀ d i n L, x < n → Kp L (lAc arr d i n L) x
  | 0, _, _, _, _ => kp_rf
  | d + 1, i, n, L, h => kp_tr (kp_R (kp_tr (kp_A kp_rf (by omega)) (kp_Ou (by omega) (by omega))) (by omega)) (kpl_Ac hx d (i + 1) (n + 7) _ (by omega))
theorem Ac_loop {G : Gc} {M : Mc} {Q : State → Prop} {K : Option Value → Hp → Prop} {b o arr : Nat} (hG : gok G) (hM : mok G M r_Ac_init Q K) (hb : b = gB G) (hne : arr ≠ o) : ∀ d i n z L h, i + d = 3 → Sc b h L n z → o < n → arr < n → tgO L o = 3 → tgO L arr = 54 → lnO L arr = 3 → rfO L o 1 = some arr → n + 7 * d ≤ 10000 → z + 19 * d ≤ 4000000 → (∀ h', Sc b h' (lAc arr d i n L) (n + 7 * d) (z + 19 * d) → K none h') → X G M Q 35 [(0, .ref (b + o)), (1, .int (nI i))] [] h := by
  intro d
  induction d with
  | zero =>
    intro i n z L h hi s _ _ _ _ _ _ _ _ k
    have hi : i = 3 := by omega
    subst hi
    exact S_Ac_init_35 hG hM (b + o) (nI 3) h ⟨fun _ => k h s, fun q => absurd (by decide : (3 : Int32) ≤ nI 3) q⟩
  | succ d ih =>
    intro i n z L h hi s h1 h2 t1 t2 l2 r1 c1 c2 k
    refine S_Ac_init_35 hG hM (b + o) (nI i) h ⟨fun q => ?_, fun _ => ?_⟩
    · exfalso
      have q' : nI 3 ≤ nI i := q
      rw [nI_leI (by omega) (by omega)] at q'
      omega
    · rw [scRf s r1]
      refine ⟨scT s t1, scR s r1, scC s hb (by omega), scZ s (by omega), fun h1 e1 => ?_⟩
      have s1 := sc_A s e1
      refine ct_Ou hG hb s1 (Nat.lt_succ_self n) tg_0 (scX s) (by omega) (by omega) (fun h2 s2 => ⟨rfl, ?_⟩)
      have kk : ∀ x, x < n → Kp L (oOu n (n + 1) ((0, n, 4, 0, 3) :: L)) x := fun x hx => kp_tr (kp_A kp_rf (by omega)) (kp_Ou (by omega) (by omega))
      rw [scX s]
      refine ⟨scT s2 ((kk arr (by omega)).1.trans t2), scT s2 (kpo_Ou (by omega) tg_0), by rw [scN s2 ((kk arr (by omega)).2.1.trans l2)]; exact vp_in_nI (by omega) (by decide), fun h4 e4 => ?_⟩
      rw [nI_clamp (by omega)] at e4
      have s4 := sc_R s2 rfl e4
      rw [nI_1 i]
      refine ih (i + 1) (n + 7) (z + 19) (tAc arr i n L) h4 (by omega) (sce s4 (by omega) (by omega)) (by omega) (by omega) (tg_w ((kk o (by omega)).1.trans t1)) (tg_w ((kk arr (by omega)).1.trans t2)) (ln_w ((kk arr (by omega)).2.1.trans l2)) (rf_R (((kk o (by omega)).2.2 1).trans r1) (Or.inl hne)) (by omega) (by omega) (fun h' s' => k h' (sce s' (by omega) (by omega)))
def oAc (o n : Nat) (L : List Op) : List Op := lAc (n + 1 + 3) 3 0 (n + 1 + 3 + 1) ((1, o, 3, 0, 0) :: (1, o, 2, 1, 0) :: (3, o, 1, n + 1 + 3, 0) :: (0, n + 1 + 3, 54, 3, 3) :: (3, o, 0, n, 0) :: oCl (n) (n + 1) ((0, n, 5, 0, 4) :: L))
theorem kp_Ac {o n x : Nat} {L : List Op} (hx : x < o) (ho : o < n) : Kp L (oAc o n L) x := kp_tr (kp_I (kp_I (kp_R (kp_A (kp_R (kp_tr (kp_A (kp_rf) (by omega)) (kp_Cl (by omega) (by omega))) (by omega)) (by omega)) (by omega)))) (kpl_Ac (by omega) _ _ _ _ (by omega))
theorem kpo_Ac {o n g : Nat} {L : List Op} (ho : o < n) (h : tgO L o = g) : tgO (oAc o n L) o = g := (kpl_Ac (by omega) _ _ _ _ (by omega)).1.trans (tg_w (tg_w (tg_w (tg_A (tg_w ((kp_Cl (by omega) (by omega)).1.trans (tg_A (h) (by omega)))) (by omega)))))
set_option maxRecDepth 100000 in
theorem ct_Ac {G : Gc} {K : Option Value → Hp → Prop} {a b o n z : Nat} {h : Hp} {L : List Op} (hG : gok G) (hb : b = gB G) (s0 : Sc b h L n z) (ho : o < n) (t0 : tgO L o = 3) (ea : a = b + o) (c1 : n + 26 ≤ 10000) (c2 : z + 76 ≤ 4000000) (k : ∀ h', Sc b h' (oAc o n L) (n + 26) (z + 76) → K none h') : sem G r_Ac_init [.ref a] h K := by
  subst ea
  refine sem_intro yk_Ac_init.2.2.2.2 (Nat.le_of_ble_eq_true rfl) (fun M Q hM => ?_)
  refine S_Ac_init_0 hG hM (b + o) h ?_
  refine ⟨scC s0 hb (by omega), scZ s0 (by omega), fun h1 e1 => ?_⟩
  have s1 := sc_A s0 e1
  have t1 := tg_A (i := n) (t := 5) (m := 0) (w := 4) t0 (by omega)
  refine ct_Cl hG hb s1 (Nat.lt_succ_self _) tg_0 (scX s0) (by omega) (by omega) (fun h2 s2 => ⟨rfl, ?_⟩)
  have t2 := (kp_Cl (o := n) (n := n + 1) (x := o) (by omega) (by omega)).1.trans t1
  refine ⟨scT s2 t2, fun h4 e4 => ?_⟩
  have s4 := sc_R s2 (scX s0) e4
  have t4 := tg_w (c := 2) (i := o) (k := 0) (p := n) t2
  refine ⟨scC s4 hb (by omega), scZ s4 (by omega), fun h5 e5 => ?_⟩
  have s5 := sc_A s4 e5
  have t5 := tg_A (i := n + 1 + 3) (t := 54) (m := 3) (w := 3) t4 (by omega)
  refine ⟨scT s5 t5, fun h6 e6 => ?_⟩
  have s6 := sc_R s5 (scX s4) e6
  have t6 := tg_w (c := 2) (i := o) (k := 1) (p := n + 1 + 3) t5
  refine ⟨scT s6 t6, fun h7 e7 => ?_⟩
  have s7 := sc_I 1 s6 rfl e7
  have t7 := tg_w (c := 0) (i := o) (k := 2) (p := 1) t6
  refine ⟨scT s7 t7, fun h8 e8 => ?_⟩
  have s8 := sc_I 0 s7 rfl e8
  have t8 := tg_w (c := 0) (i := o) (k := 3) (p := 0) t7
  have fin := Ac_loop hG hM hb (arr := n + 1 + 3) (o := o) (by omega) 3 0 _ _ _ h8 rfl s8 (by omega) (by omega) t8 (tg_w (tg_w (tg_w (tg_0)))) (ln_w (ln_w (ln_w (ln_0)))) (rf_I (rf_I (rf_0))) (by omega) (by omega) (fun h' s' => k h' (sce s' (by omega) (by omega)))
  exact fin
def tWo (arr i n : Nat) (L : List Op) : List Op := (3, arr, i, n, 0) :: oAc n (n + 1) ((0, n, 3, 0, 4) :: L)
def lWo (arr : Nat) : Nat → Nat → Nat → List Op → List Op
  | 0, _, _, L => L
  | d + 1, i, n, L => lWo arr d (i + 1) (n + 27) (tWo arr i n L)
theorem kpl_Wo {arr x : Nat} (hx : x ≠ arr) : ∀ d i n L, x < n → Kp L (lWo arr d i n L) x
  | 0, _, _, _, _ => kp_rf
  | d + 1, i, n, L, h => kp_tr (kp_R (kp_tr (kp_A kp_rf (by omega)) (kp_Ac (by omega) (by omega))) (by omega)) (kpl_Wo hx d (i + 1) (n + 27) _ (by omega))
theorem Wo_loop {G : Gc} {M : Mc} {Q : State → Prop} {K : Option Value → Hp → Prop} {b o arr : Nat} (hG : gok G) (hM : mok G M r_Wo_init Q K) (hb : b = gB G) (hne : arr ≠ o) : ∀ d i n z L h, i + d = 12 → Sc b h L n z → o < n → arr < n → tgO L o = 2 → tgO L arr = 53 → lnO L arr = 12 → rfO L o 5 = some arr → n + 27 * d ≤ 10000 → z + 80 * d ≤ 4000000 → (∀ h', Sc b h' (lWo arr d i n L) (n + 27 * d) (z + 80 * d) → K none h') → X G M Q 70 [(0, .ref (b + o)), (1, .int (nI i))] [] h := by
  intro d
  induction d with
  | zero =>
    intro i n z L h hi s _ _ _ _ _ _ _ _ k
    have hi : i = 12 := by omega
    subst hi
    exact S_Wo_init_70 hG hM (b + o) (nI 12) h ⟨fun _ => k h s, fun q => absurd (by decide : (12 : Int32) ≤ nI 12) q⟩
  | succ d ih =>
    intro i n z L h hi s h1 h2 t1 t2 l2 r1 c1 c2 k
    refine S_Wo_init_70 hG hM (b + o) (nI i) h ⟨fun q => ?_, fun _ => ?_⟩
    · exfalso
      have q' : nI 12 ≤ nI i := q
      rw [nI_leI (by omega) (by omega)] at q'
      omega
    · rw [scRf s r1]
      refine ⟨scT s t1, scR s r1, scC s hb (by omega), scZ s (by omega), fun h1 e1 => ?_⟩
      have s1 := sc_A s e1
      refine ct_Ac hG hb s1 (Nat.lt_succ_self n) tg_0 (scX s) (by omega) (by omega) (fun h2 s2 => ⟨rfl, ?_⟩)
      have kk : ∀ x, x < n → Kp L (oAc n (n + 1) ((0, n, 3, 0, 4) :: L)) x := fun x hx => kp_tr (kp_A kp_rf (by omega)) (kp_Ac (by omega) (by omega))
      rw [scX s]
      refine ⟨scT s2 ((kk arr (by omega)).1.trans t2), scT s2 (kpo_Ac (by omega) tg_0), by rw [scN s2 ((kk arr (by omega)).2.1.trans l2)]; exact vp_in_nI (by omega) (by decide), fun h4 e4 => ?_⟩
      rw [nI_clamp (by omega)] at e4
      have s4 := sc_R s2 rfl e4
      rw [nI_1 i]
      refine ih (i + 1) (n + 27) (z + 80) (tWo arr i n L) h4 (by omega) (sce s4 (by omega) (by omega)) (by omega) (by omega) (tg_w ((kk o (by omega)).1.trans t1)) (tg_w ((kk arr (by omega)).1.trans t2)) (ln_w ((kk arr (by omega)).2.1.trans l2)) (rf_R (((kk o (by omega)).2.2 5).trans r1) (Or.inl hne)) (by omega) (by omega) (fun h' s' => k h' (sce s' (by omega) (by omega)))
def oWo (o n : Nat) (L : List Op) : List Op := lWo (n + 1 + 1) 12 0 (n + 1 + 1 + 1 + 1 + 1) ((1, o, 9, 0, 0) :: (1, o, 8, 0, 0) :: (3, o, 7, n + 1 + 1 + 1 + 1, 0) :: (0, n + 1 + 1 + 1 + 1, 50, 0, 0) :: (3, o, 6, n + 1 + 1 + 1, 0) :: (0, n + 1 + 1 + 1, 50, 0, 0) :: (3, o, 5, n + 1 + 1, 0) :: (0, n + 1 + 1, 53, 12, 12) :: (3, o, 4, n + 1, 0) :: (0, n + 1, 50, 8, 8) :: (3, o, 3, n, 0) :: (0, n, 50, 8, 8) :: (1, o, 2, 0, 0) :: (1, o, 1, 1, 0) :: (1, o, 0, 0, 0) :: L)
theorem kp_Wo {o n x : Nat} {L : List Op} (hx : x < o) (ho : o < n) : Kp L (oWo o n L) x := kp_tr (kp_I (kp_I (kp_R (kp_A (kp_R (kp_A (kp_R (kp_A (kp_R (kp_A (kp_R (kp_A (kp_I (kp_I (kp_I (kp_rf)))) (by omega)) (by omega)) (by omega)) (by omega)) (by omega)) (by omega)) (by omega)) (by omega)) (by omega)) (by omega)))) (kpl_Wo (by omega) _ _ _ _ (by omega))
theorem kpo_Wo {o n g : Nat} {L : List Op} (ho : o < n) (h : tgO L o = g) : tgO (oWo o n L) o = g := (kpl_Wo (by omega) _ _ _ _ (by omega)).1.trans (tg_w (tg_w (tg_w (tg_A (tg_w (tg_A (tg_w (tg_A (tg_w (tg_A (tg_w (tg_A (tg_w (tg_w (tg_w (h)))) (by omega))) (by omega))) (by omega))) (by omega))) (by omega)))))
set_option maxRecDepth 100000 in
theorem ct_Wo {G : Gc} {K : Option Value → Hp → Prop} {a b o n z : Nat} {h : Hp} {L : List Op} (hG : gok G) (hb : b = gB G) (s0 : Sc b h L n z) (ho : o < n) (t0 : tgO L o = 2) (ea : a = b + o) (c1 : n + 329 ≤ 10000) (c2 : z + 988 ≤ 4000000) (k : ∀ h', Sc b h' (oWo o n L) (n + 329) (z + 988) → K none h') : sem G r_Wo_init [.ref a] h K := by
  subst ea
  refine sem_intro yk_Wo_init.2.2.2.2 (Nat.le_of_ble_eq_true rfl) (fun M Q hM => ?_)
  refine S_Wo_init_0 hG hM (b + o) h ?_
  refine ⟨scT s0 t0, fun h1 e1 => ?_⟩
  have s1 := sc_I 0 s0 rfl e1
  have t1 := tg_w (c := 0) (i := o) (k := 0) (p := 0) t0
  refine ⟨scT s1 t1, fun h2 e2 => ?_⟩
  have s2 := sc_I 1 s1 rfl e2
  have t2 := tg_w (c := 0) (i := o) (k := 1) (p := 1) t1
  refine ⟨scT s2 t2, fun h3 e3 => ?_⟩
  have s3 := sc_I 0 s2 rfl e3
  have t3 := tg_w (c := 0) (i := o) (k := 2) (p := 0) t2
  refine ⟨scC s3 hb (by omega), scZ s3 (by omega), fun h4 e4 => ?_⟩
  have s4 := sc_A s3 e4
  have t4 := tg_A (i := n) (t := 50) (m := 8) (w := 8) t3 (by omega)
  refine ⟨scT s4 t4, fun h5 e5 => ?_⟩
  have s5 := sc_R s4 (scX s3) e5
  have t5 := tg_w (c := 2) (i := o) (k := 3) (p := n) t4
  refine ⟨scC s5 hb (by omega), scZ s5 (by omega), fun h6 e6 => ?_⟩
  have s6 := sc_A s5 e6
  have t6 := tg_A (i := n + 1) (t := 50) (m := 8) (w := 8) t5 (by omega)
  refine ⟨scT s6 t6, fun h7 e7 => ?_⟩
  have s7 := sc_R s6 (scX s5) e7
  have t7 := tg_w (c := 2) (i := o) (k := 4) (p := n + 1) t6
  refine ⟨scC s7 hb (by omega), scZ s7 (by omega), fun h8 e8 => ?_⟩
  have s8 := sc_A s7 e8
  have t8 := tg_A (i := n + 1 + 1) (t := 53) (m := 12) (w := 12) t7 (by omega)
  refine ⟨scT s8 t8, fun h9 e9 => ?_⟩
  have s9 := sc_R s8 (scX s7) e9
  have t9 := tg_w (c := 2) (i := o) (k := 5) (p := n + 1 + 1) t8
  refine ⟨scC s9 hb (by omega), scZ s9 (by omega), fun h10 e10 => ?_⟩
  have s10 := sc_A s9 e10
  have t10 := tg_A (i := n + 1 + 1 + 1) (t := 50) (m := 0) (w := 0) t9 (by omega)
  refine ⟨scT s10 t10, fun h11 e11 => ?_⟩
  have s11 := sc_R s10 (scX s9) e11
  have t11 := tg_w (c := 2) (i := o) (k := 6) (p := n + 1 + 1 + 1) t10
  refine ⟨scC s11 hb (by omega), scZ s11 (by omega), fun h12 e12 => ?_⟩
  have s12 := sc_A s11 e12
  have t12 := tg_A (i := n + 1 + 1 + 1 + 1) (t := 50) (m := 0) (w := 0) t11 (by omega)
  refine ⟨scT s12 t12, fun h13 e13 => ?_⟩
  have s13 := sc_R s12 (scX s11) e13
  have t13 := tg_w (c := 2) (i := o) (k := 7) (p := n + 1 + 1 + 1 + 1) t12
  refine ⟨scT s13 t13, fun h14 e14 => ?_⟩
  have s14 := sc_I 0 s13 rfl e14
  have t14 := tg_w (c := 0) (i := o) (k := 8) (p := 0) t13
  refine ⟨scT s14 t14, fun h15 e15 => ?_⟩
  have s15 := sc_I 0 s14 rfl e15
  have t15 := tg_w (c := 0) (i := o) (k := 9) (p := 0) t14
  have fin := Wo_loop hG hM hb (arr := n + 1 + 1) (o := o) (by omega) 12 0 _ _ _ h15 rfl s15 (by omega) (by omega) t15 (tg_w (tg_w (tg_w (tg_A (tg_w (tg_A (tg_w (tg_0)) (by omega))) (by omega))))) (ln_w (ln_w (ln_w (ln_A (ln_w (ln_A (ln_w (ln_0)) (by omega))) (by omega))))) (rf_I (rf_I (rf_R (rf_A (rf_R (rf_A (rf_0) (by omega)) (Or.inr (by decide))) (by omega)) (Or.inr (by decide))))) (by omega) (by omega) (fun h' s' => k h' (sce s' (by omega) (by omega)))
  exact fin
def tCo (arr i n : Nat) (L : List Op) : List Op := (3, arr, i, n, 0) :: oCl n (n + 1) ((0, n, 5, 0, 4) :: L)
def lCo (arr : Nat) : Nat → Nat → Nat → List Op → List Op
  | 0, _, _, L => L
  | d + 1, i, n, L => lCo arr d (i + 1) (n + 4) (tCo arr i n L)
theorem kpl_Co {arr x : Nat} (hx : x ≠ arr) : ∀ d i n L, x < n → Kp L (lCo arr d i n L) x
  | 0, _, _, _, _ => kp_rf
  | d + 1, i, n, L, h => kp_tr (kp_R (kp_tr (kp_A kp_rf (by omega)) (kp_Cl (by omega) (by omega))) (by omega)) (kpl_Co hx d (i + 1) (n + 4) _ (by omega))
theorem Co_loop {G : Gc} {M : Mc} {Q : State → Prop} {K : Option Value → Hp → Prop} {b o arr : Nat} (hG : gok G) (hM : mok G M r_Co_init Q K) (hb : b = gB G) (hne : arr ≠ o) : ∀ d i n z L h, i + d = 6 → Sc b h L n z → o < n → arr < n → tgO L o = 6 → tgO L arr = 55 → lnO L arr = 6 → rfO L o 1 = some arr → n + 4 * d ≤ 10000 → z + 16 * d ≤ 4000000 → (∀ h', Sc b h' (lCo arr d i n L) (n + 4 * d) (z + 16 * d) → K none h') → X G M Q 52 [(0, .ref (b + o)), (1, .int (nI i))] [] h := by
  intro d
  induction d with
  | zero =>
    intro i n z L h hi s _ _ _ _ _ _ _ _ k
    have hi : i = 6 := by omega
    subst hi
    exact S_Co_init_52 hG hM (b + o) (nI 6) h ⟨fun _ => k h s, fun q => absurd (by decide : (6 : Int32) ≤ nI 6) q⟩
  | succ d ih =>
    intro i n z L h hi s h1 h2 t1 t2 l2 r1 c1 c2 k
    refine S_Co_init_52 hG hM (b + o) (nI i) h ⟨fun q => ?_, fun _ => ?_⟩
    · exfalso
      have q' : nI 6 ≤ nI i := q
      rw [nI_leI (by omega) (by omega)] at q'
      omega
    · rw [scRf s r1]
      refine ⟨scT s t1, scR s r1, scC s hb (by omega), scZ s (by omega), fun h1 e1 => ?_⟩
      have s1 := sc_A s e1
      refine ct_Cl hG hb s1 (Nat.lt_succ_self n) tg_0 (scX s) (by omega) (by omega) (fun h2 s2 => ⟨rfl, ?_⟩)
      have kk : ∀ x, x < n → Kp L (oCl n (n + 1) ((0, n, 5, 0, 4) :: L)) x := fun x hx => kp_tr (kp_A kp_rf (by omega)) (kp_Cl (by omega) (by omega))
      rw [scX s]
      refine ⟨scT s2 ((kk arr (by omega)).1.trans t2), scT s2 (kpo_Cl (by omega) tg_0), by rw [scN s2 ((kk arr (by omega)).2.1.trans l2)]; exact vp_in_nI (by omega) (by decide), fun h4 e4 => ?_⟩
      rw [nI_clamp (by omega)] at e4
      have s4 := sc_R s2 rfl e4
      rw [nI_1 i]
      refine ih (i + 1) (n + 4) (z + 16) (tCo arr i n L) h4 (by omega) (sce s4 (by omega) (by omega)) (by omega) (by omega) (tg_w ((kk o (by omega)).1.trans t1)) (tg_w ((kk arr (by omega)).1.trans t2)) (ln_w ((kk arr (by omega)).2.1.trans l2)) (rf_R (((kk o (by omega)).2.2 1).trans r1) (Or.inl hne)) (by omega) (by omega) (fun h' s' => k h' (sce s' (by omega) (by omega)))
def oCo (o n : Nat) (L : List Op) : List Op := lCo (n) 6 0 (n + 1 + 1) ((3, o, 7, n + 1, 0) :: (0, n + 1, 51, 0, 0) :: (2, o, 6, 0, 0) :: (1, o, 5, 2, 0) :: (1, o, 4, 2, 0) :: (1, o, 3, 2, 0) :: (1, o, 2, 0, 0) :: (3, o, 1, n, 0) :: (0, n, 55, 6, 6) :: (1, o, 0, 0, 0) :: L)
theorem kp_Co {o n x : Nat} {L : List Op} (hx : x < o) (ho : o < n) : Kp L (oCo o n L) x := kp_tr (kp_R (kp_A (kp_L (kp_I (kp_I (kp_I (kp_I (kp_R (kp_A (kp_I (kp_rf)) (by omega)) (by omega))))))) (by omega)) (by omega)) (kpl_Co (by omega) _ _ _ _ (by omega))
theorem kpo_Co {o n g : Nat} {L : List Op} (ho : o < n) (h : tgO L o = g) : tgO (oCo o n L) o = g := (kpl_Co (by omega) _ _ _ _ (by omega)).1.trans (tg_w (tg_A (tg_w (tg_w (tg_w (tg_w (tg_w (tg_w (tg_A (tg_w (h)) (by omega)))))))) (by omega)))
set_option maxRecDepth 100000 in
theorem ct_Co {G : Gc} {K : Option Value → Hp → Prop} {a b o n z : Nat} {h : Hp} {L : List Op} (hG : gok G) (hb : b = gB G) (s0 : Sc b h L n z) (ho : o < n) (t0 : tgO L o = 6) (ea : a = b + o) (c1 : n + 26 ≤ 10000) (c2 : z + 102 ≤ 4000000) (k : ∀ h', Sc b h' (oCo o n L) (n + 26) (z + 102) → K none h') : sem G r_Co_init [.ref a] h K := by
  subst ea
  refine sem_intro yk_Co_init.2.2.2.2 (Nat.le_of_ble_eq_true rfl) (fun M Q hM => ?_)
  refine S_Co_init_0 hG hM (b + o) h ?_
  refine ⟨scT s0 t0, fun h1 e1 => ?_⟩
  have s1 := sc_I 0 s0 rfl e1
  have t1 := tg_w (c := 0) (i := o) (k := 0) (p := 0) t0
  refine ⟨scC s1 hb (by omega), scZ s1 (by omega), fun h2 e2 => ?_⟩
  have s2 := sc_A s1 e2
  have t2 := tg_A (i := n) (t := 55) (m := 6) (w := 6) t1 (by omega)
  refine ⟨scT s2 t2, fun h3 e3 => ?_⟩
  have s3 := sc_R s2 (scX s1) e3
  have t3 := tg_w (c := 2) (i := o) (k := 1) (p := n) t2
  refine ⟨scT s3 t3, fun h4 e4 => ?_⟩
  have s4 := sc_I 0 s3 rfl e4
  have t4 := tg_w (c := 0) (i := o) (k := 2) (p := 0) t3
  refine ⟨scT s4 t4, fun h5 e5 => ?_⟩
  have s5 := sc_I 2 s4 rfl e5
  have t5 := tg_w (c := 0) (i := o) (k := 3) (p := 2) t4
  refine ⟨scT s5 t5, fun h6 e6 => ?_⟩
  have s6 := sc_I 2 s5 rfl e6
  have t6 := tg_w (c := 0) (i := o) (k := 4) (p := 2) t5
  refine ⟨scT s6 t6, fun h7 e7 => ?_⟩
  have s7 := sc_I 2 s6 rfl e7
  have t7 := tg_w (c := 0) (i := o) (k := 5) (p := 2) t6
  refine ⟨scT s7 t7, fun h8 e8 => ?_⟩
  have s8 := sc_L 0 s7 rfl e8
  have t8 := tg_w (c := 1) (i := o) (k := 6) (p := 0) t7
  refine ⟨scC s8 hb (by omega), scZ s8 (by omega), fun h9 e9 => ?_⟩
  have s9 := sc_A s8 e9
  have t9 := tg_A (i := n + 1) (t := 51) (m := 0) (w := 0) t8 (by omega)
  refine ⟨scT s9 t9, fun h10 e10 => ?_⟩
  have s10 := sc_R s9 (scX s8) e10
  have t10 := tg_w (c := 2) (i := o) (k := 7) (p := n + 1) t9
  have fin := Co_loop hG hM hb (arr := n) (o := o) (by omega) 6 0 _ _ _ h10 rfl s10 (by omega) (by omega) t10 (tg_w (tg_A (tg_w (tg_w (tg_w (tg_w (tg_w (tg_w (tg_0))))))) (by omega))) (ln_w (ln_A (ln_w (ln_w (ln_w (ln_w (ln_w (ln_w (ln_0))))))) (by omega))) (rf_R (rf_A (rf_L (rf_I (rf_I (rf_I (rf_I (rf_0)))))) (by omega)) (Or.inr (by decide))) (by omega) (by omega) (fun h' s' => k h' (sce s' (by omega) (by omega)))
  exact fin
def oRe (o n : Nat) (L : List Op) : List Op := (2, o, 4, 0, 0) :: (1, o, 3, 0, 0) :: (3, o, 2, n + 1 + 1, 0) :: (0, n + 1 + 1, 50, 0, 0) :: (3, o, 1, n + 1, 0) :: (0, n + 1, 52, 0, 0) :: (3, o, 0, n, 0) :: (0, n, 50, 0, 0) :: L
theorem kp_Re {o n x : Nat} {L : List Op} (hx : x < o) (ho : o < n) : Kp L (oRe o n L) x := kp_L (kp_I (kp_R (kp_A (kp_R (kp_A (kp_R (kp_A (kp_rf) (by omega)) (by omega)) (by omega)) (by omega)) (by omega)) (by omega)))
theorem kpo_Re {o n g : Nat} {L : List Op} (ho : o < n) (h : tgO L o = g) : tgO (oRe o n L) o = g := tg_w (tg_w (tg_w (tg_A (tg_w (tg_A (tg_w (tg_A (h) (by omega))) (by omega))) (by omega))))
set_option maxRecDepth 100000 in
theorem ct_Re {G : Gc} {K : Option Value → Hp → Prop} {a b o n z : Nat} {h : Hp} {L : List Op} (hG : gok G) (hb : b = gB G) (s0 : Sc b h L n z) (ho : o < n) (t0 : tgO L o = 8) (ea : a = b + o) (c1 : n + 3 ≤ 10000) (c2 : z + 0 ≤ 4000000) (k : ∀ h', Sc b h' (oRe o n L) (n + 3) (z + 0) → K none h') : sem G r_Re_init [.ref a] h K := by
  subst ea
  refine sem_intro yk_Re_init.2.2.2.2 (Nat.le_of_ble_eq_true rfl) (fun M Q hM => ?_)
  refine S_Re_init_0 hG hM (b + o) h ?_
  refine ⟨scC s0 hb (by omega), scZ s0 (by omega), fun h1 e1 => ?_⟩
  have s1 := sc_A s0 e1
  have t1 := tg_A (i := n) (t := 50) (m := 0) (w := 0) t0 (by omega)
  refine ⟨scT s1 t1, fun h2 e2 => ?_⟩
  have s2 := sc_R s1 (scX s0) e2
  have t2 := tg_w (c := 2) (i := o) (k := 0) (p := n) t1
  refine ⟨scC s2 hb (by omega), scZ s2 (by omega), fun h3 e3 => ?_⟩
  have s3 := sc_A s2 e3
  have t3 := tg_A (i := n + 1) (t := 52) (m := 0) (w := 0) t2 (by omega)
  refine ⟨scT s3 t3, fun h4 e4 => ?_⟩
  have s4 := sc_R s3 (scX s2) e4
  have t4 := tg_w (c := 2) (i := o) (k := 1) (p := n + 1) t3
  refine ⟨scC s4 hb (by omega), scZ s4 (by omega), fun h5 e5 => ?_⟩
  have s5 := sc_A s4 e5
  have t5 := tg_A (i := n + 1 + 1) (t := 50) (m := 0) (w := 0) t4 (by omega)
  refine ⟨scT s5 t5, fun h6 e6 => ?_⟩
  have s6 := sc_R s5 (scX s4) e6
  have t6 := tg_w (c := 2) (i := o) (k := 2) (p := n + 1 + 1) t5
  refine ⟨scT s6 t6, fun h7 e7 => ?_⟩
  have s7 := sc_I 0 s6 rfl e7
  have t7 := tg_w (c := 0) (i := o) (k := 3) (p := 0) t6
  refine ⟨scT s7 t7, fun h8 e8 => ?_⟩
  have s8 := sc_L 0 s7 rfl e8
  have t8 := tg_w (c := 1) (i := o) (k := 4) (p := 0) t7
  exact k h8 (sce s8 (by omega) (by omega))
def oWi (o n : Nat) (L : List Op) : List Op := (3, o, 8, n + 1 + 1 + 1 + 1 + 1 + 1, 0) :: (0, n + 1 + 1 + 1 + 1 + 1 + 1, 50, 0, 0) :: (3, o, 7, n + 1 + 1 + 1 + 1 + 1, 0) :: (0, n + 1 + 1 + 1 + 1 + 1, 51, 0, 0) :: (3, o, 6, n + 1 + 1 + 1 + 1, 0) :: (0, n + 1 + 1 + 1 + 1, 52, 4, 4) :: (3, o, 5, n + 1 + 1 + 1, 0) :: (0, n + 1 + 1 + 1, 50, 0, 0) :: (3, o, 4, n + 1 + 1, 0) :: (0, n + 1 + 1, 50, 0, 0) :: (3, o, 3, n + 1, 0) :: (0, n + 1, 50, 0, 0) :: (2, o, 2, 0, 0) :: (1, o, 1, 0, 0) :: (3, o, 0, n, 0) :: (0, n, 51, 0, 0) :: L
theorem kp_Wi {o n x : Nat} {L : List Op} (hx : x < o) (ho : o < n) : Kp L (oWi o n L) x := kp_R (kp_A (kp_R (kp_A (kp_R (kp_A (kp_R (kp_A (kp_R (kp_A (kp_R (kp_A (kp_L (kp_I (kp_R (kp_A (kp_rf) (by omega)) (by omega)))) (by omega)) (by omega)) (by omega)) (by omega)) (by omega)) (by omega)) (by omega)) (by omega)) (by omega)) (by omega)) (by omega)) (by omega)
theorem kpo_Wi {o n g : Nat} {L : List Op} (ho : o < n) (h : tgO L o = g) : tgO (oWi o n L) o = g := tg_w (tg_A (tg_w (tg_A (tg_w (tg_A (tg_w (tg_A (tg_w (tg_A (tg_w (tg_A (tg_w (tg_w (tg_w (tg_A (h) (by omega))))) (by omega))) (by omega))) (by omega))) (by omega))) (by omega))) (by omega))
set_option maxRecDepth 100000 in
theorem ct_Wi {G : Gc} {K : Option Value → Hp → Prop} {a b o n z : Nat} {h : Hp} {L : List Op} (hG : gok G) (hb : b = gB G) (s0 : Sc b h L n z) (ho : o < n) (t0 : tgO L o = 9) (ea : a = b + o) (c1 : n + 7 ≤ 10000) (c2 : z + 4 ≤ 4000000) (k : ∀ h', Sc b h' (oWi o n L) (n + 7) (z + 4) → K none h') : sem G r_Wi_init [.ref a] h K := by
  subst ea
  refine sem_intro yk_Wi_init.2.2.2.2 (Nat.le_of_ble_eq_true rfl) (fun M Q hM => ?_)
  refine S_Wi_init_0 hG hM (b + o) h ?_
  refine ⟨scC s0 hb (by omega), scZ s0 (by omega), fun h1 e1 => ?_⟩
  have s1 := sc_A s0 e1
  have t1 := tg_A (i := n) (t := 51) (m := 0) (w := 0) t0 (by omega)
  refine ⟨scT s1 t1, fun h2 e2 => ?_⟩
  have s2 := sc_R s1 (scX s0) e2
  have t2 := tg_w (c := 2) (i := o) (k := 0) (p := n) t1
  refine ⟨scT s2 t2, fun h3 e3 => ?_⟩
  have s3 := sc_I 0 s2 rfl e3
  have t3 := tg_w (c := 0) (i := o) (k := 1) (p := 0) t2
  refine ⟨scT s3 t3, fun h4 e4 => ?_⟩
  have s4 := sc_L 0 s3 rfl e4
  have t4 := tg_w (c := 1) (i := o) (k := 2) (p := 0) t3
  refine ⟨scC s4 hb (by omega), scZ s4 (by omega), fun h5 e5 => ?_⟩
  have s5 := sc_A s4 e5
  have t5 := tg_A (i := n + 1) (t := 50) (m := 0) (w := 0) t4 (by omega)
  refine ⟨scT s5 t5, fun h6 e6 => ?_⟩
  have s6 := sc_R s5 (scX s4) e6
  have t6 := tg_w (c := 2) (i := o) (k := 3) (p := n + 1) t5
  refine ⟨scC s6 hb (by omega), scZ s6 (by omega), fun h7 e7 => ?_⟩
  have s7 := sc_A s6 e7
  have t7 := tg_A (i := n + 1 + 1) (t := 50) (m := 0) (w := 0) t6 (by omega)
  refine ⟨scT s7 t7, fun h8 e8 => ?_⟩
  have s8 := sc_R s7 (scX s6) e8
  have t8 := tg_w (c := 2) (i := o) (k := 4) (p := n + 1 + 1) t7
  refine ⟨scC s8 hb (by omega), scZ s8 (by omega), fun h9 e9 => ?_⟩
  have s9 := sc_A s8 e9
  have t9 := tg_A (i := n + 1 + 1 + 1) (t := 50) (m := 0) (w := 0) t8 (by omega)
  refine ⟨scT s9 t9, fun h10 e10 => ?_⟩
  have s10 := sc_R s9 (scX s8) e10
  have t10 := tg_w (c := 2) (i := o) (k := 5) (p := n + 1 + 1 + 1) t9
  refine ⟨scC s10 hb (by omega), scZ s10 (by omega), fun h11 e11 => ?_⟩
  have s11 := sc_A s10 e11
  have t11 := tg_A (i := n + 1 + 1 + 1 + 1) (t := 52) (m := 4) (w := 4) t10 (by omega)
  refine ⟨scT s11 t11, fun h12 e12 => ?_⟩
  have s12 := sc_R s11 (scX s10) e12
  have t12 := tg_w (c := 2) (i := o) (k := 6) (p := n + 1 + 1 + 1 + 1) t11
  refine ⟨scC s12 hb (by omega), scZ s12 (by omega), fun h13 e13 => ?_⟩
  have s13 := sc_A s12 e13
  have t13 := tg_A (i := n + 1 + 1 + 1 + 1 + 1) (t := 51) (m := 0) (w := 0) t12 (by omega)
  refine ⟨scT s13 t13, fun h14 e14 => ?_⟩
  have s14 := sc_R s13 (scX s12) e14
  have t14 := tg_w (c := 2) (i := o) (k := 7) (p := n + 1 + 1 + 1 + 1 + 1) t13
  refine ⟨scC s14 hb (by omega), scZ s14 (by omega), fun h15 e15 => ?_⟩
  have s15 := sc_A s14 e15
  have t15 := tg_A (i := n + 1 + 1 + 1 + 1 + 1 + 1) (t := 50) (m := 0) (w := 0) t14 (by omega)
  refine ⟨scT s15 t15, fun h16 e16 => ?_⟩
  have s16 := sc_R s15 (scX s14) e16
  have t16 := tg_w (c := 2) (i := o) (k := 8) (p := n + 1 + 1 + 1 + 1 + 1 + 1) t15
  exact k h16 (sce s16 (by omega) (by omega))
def oKi (o n : Nat) (L : List Op) : List Op := (3, o, 17, n + 1 + 1 + 1 + 1 + 1 + 1 + 1 + 1 + 1 + 1 + 1 + 1 + 1 + 1, 0) :: (0, n + 1 + 1 + 1 + 1 + 1 + 1 + 1 + 1 + 1 + 1 + 1 + 1 + 1 + 1, 52, 0, 0) :: (3, o, 16, n + 1 + 1 + 1 + 1 + 1 + 1 + 1 + 1 + 1 + 1 + 1 + 1 + 1, 0) :: (0, n + 1 + 1 + 1 + 1 + 1 + 1 + 1 + 1 + 1 + 1 + 1 + 1 + 1, 50, 0, 0) :: (3, o, 15, n + 1 + 1 + 1 + 1 + 1 + 1 + 1 + 1 + 1 + 1 + 1 + 1, 0) :: (0, n + 1 + 1 + 1 + 1 + 1 + 1 + 1 + 1 + 1 + 1 + 1 + 1, 50, 0, 0) :: (3, o, 14, n + 1 + 1 + 1 + 1 + 1 + 1 + 1 + 1 + 1 + 1 + 1, 0) :: (0, n + 1 + 1 + 1 + 1 + 1 + 1 + 1 + 1 + 1 + 1 + 1, 50, 0, 0) :: (3, o, 13, n + 1 + 1 + 1 + 1 + 1 + 1 + 1 + 1 + 1 + 1, 0) :: (0, n + 1 + 1 + 1 + 1 + 1 + 1 + 1 + 1 + 1 + 1, 50, 0, 0) :: (3, o, 12, n + 1 + 1 + 1 + 1 + 1 + 1 + 1 + 1 + 1, 0) :: (0, n + 1 + 1 + 1 + 1 + 1 + 1 + 1 + 1 + 1, 50, 0, 0) :: (1, o, 11, 0, 0) :: (3, o, 10, n + 1 + 1 + 1 + 1 + 1 + 1 + 1 + 1, 0) :: (0, n + 1 + 1 + 1 + 1 + 1 + 1 + 1 + 1, 50, 0, 0) :: (3, o, 9, n + 1 + 1 + 1 + 1 + 1 + 1 + 1, 0) :: (0, n + 1 + 1 + 1 + 1 + 1 + 1 + 1, 50, 0, 0) :: (3, o, 8, n + 1 + 1 + 1 + 1 + 1 + 1, 0) :: (0, n + 1 + 1 + 1 + 1 + 1 + 1, 50, 0, 0) :: (3, o, 7, n + 1 + 1 + 1 + 1 + 1, 0) :: (0, n + 1 + 1 + 1 + 1 + 1, 50, 0, 0) :: (3, o, 6, n + 1 + 1 + 1 + 1, 0) :: (0, n + 1 + 1 + 1 + 1, 50, 0, 0) :: (3, o, 5, n + 1 + 1 + 1, 0) :: (0, n + 1 + 1 + 1, 50, 0, 0) :: (3, o, 4, n + 1 + 1, 0) :: (0, n + 1 + 1, 50, 0, 0) :: (3, o, 3, n + 1, 0) :: (0, n + 1, 50, 0, 0) :: (3, o, 2, n, 0) :: (0, n, 50, 0, 0) :: (2, o, 1, 0, 0) :: (1, o, 0, 0, 0) :: L
theorem kp_Ki {o n x : Nat} {L : List Op} (hx : x < o) (ho : o < n) : Kp L (oKi o n L) x := kp_R (kp_A (kp_R (kp_A (kp_R (kp_A (kp_R (kp_A (kp_R (kp_A (kp_R (kp_A (kp_I (kp_R (kp_A (kp_R (kp_A (kp_R (kp_A (kp_R (kp_A (kp_R (kp_A (kp_R (kp_A (kp_R (kp_A (kp_R (kp_A (kp_R (kp_A (kp_L (kp_I (kp_rf))) (by omega)) (by omega)) (by omega)) (by omega)) (by omega)) (by omega)) (by omega)) (by omega)) (by omega)) (by omega)) (by omega)) (by omega)) (by omega)) (by omega)) (by omega)) (by omega)) (by omega)) (by omega))) (by omega)) (by omega)) (by omega)) (by omega)) (by omega)) (by omega)) (by omega)) (by omega)) (by omega)) (by omega)) (by omega)) (by omega)
theorem kpo_Ki {o n g : Nat} {L : List Op} (ho : o < n) (h : tgO L o = g) : tgO (oKi o n L) o = g := tg_w (tg_A (tg_w (tg_A (tg_w (tg_A (tg_w (tg_A (tg_w (tg_A (tg_w (tg_A (tg_w (tg_w (tg_A (tg_w (tg_A (tg_w (tg_A (tg_w (tg_A (tg_w (tg_A (tg_w (tg_A (tg_w (tg_A (tg_w (tg_A (tg_w (tg_A (tg_w (tg_w (h))) (by omega))) (by omega))) (by omega))) (by omega))) (by omega))) (by omega))) (by omega))) (by omega))) (by omega)))) (by omega))) (by omega))) (by omega))) (by omega))) (by omega))) (by omega))
set_option maxRecDepth 100000 in
theorem ct_Ki {G : Gc} {K : Option Value → Hp → Prop} {a b o n z : Nat} {h : Hp} {L : List Op} (hG : gok G) (hb : b = gB G) (s0 : Sc b h L n z) (ho : o < n) (t0 : tgO L o = 10) (ea : a = b + o) (c1 : n + 15 ≤ 10000) (c2 : z + 0 ≤ 4000000) (k : ∀ h', Sc b h' (oKi o n L) (n + 15) (z + 0) → K none h') : sem G r_Ki_init [.ref a] h K := by
  subst ea
  refine sem_intro yk_Ki_init.2.2.2.2 (Nat.le_of_ble_eq_true rfl) (fun M Q hM => ?_)
  refine S_Ki_init_0 hG hM (b + o) h ?_
  refine ⟨scT s0 t0, fun h1 e1 => ?_⟩
  have s1 := sc_I 0 s0 rfl e1
  have t1 := tg_w (c := 0) (i := o) (k := 0) (p := 0) t0
  refine ⟨scT s1 t1, fun h2 e2 => ?_⟩
  have s2 := sc_L 0 s1 rfl e2
  have t2 := tg_w (c := 1) (i := o) (k := 1) (p := 0) t1
  refine ⟨scC s2 hb (by omega), scZ s2 (by omega), fun h3 e3 => ?_⟩
  have s3 := sc_A s2 e3
  have t3 := tg_A (i := n) (t := 50) (m := 0) (w := 0) t2 (by omega)
  refine ⟨scT s3 t3, fun h4 e4 => ?_⟩
  have s4 := sc_R s3 (scX s2) e4
  have t4 := tg_w (c := 2) (i := o) (k := 2) (p := n) t3
  refine ⟨scC s4 hb (by omega), scZ s4 (by omega), fun h5 e5 => ?_⟩
  have s5 := sc_A s4 e5
  have t5 := tg_A (i := n + 1) (t := 50) (m := 0) (w := 0) t4 (by omega)
  refine ⟨scT s5 t5, fun h6 e6 => ?_⟩
  have s6 := sc_R s5 (scX s4) e6
  have t6 := tg_w (c := 2) (i := o) (k := 3) (p := n + 1) t5
  refine ⟨scC s6 hb (by omega), scZ s6 (by omega), fun h7 e7 => ?_⟩
  have s7 := sc_A s6 e7
  have t7 := tg_A (i := n + 1 + 1) (t := 50) (m := 0) (w := 0) t6 (by omega)
  refine ⟨scT s7 t7, fun h8 e8 => ?_⟩
  have s8 := sc_R s7 (scX s6) e8
  have t8 := tg_w (c := 2) (i := o) (k := 4) (p := n + 1 + 1) t7
  refine ⟨scC s8 hb (by omega), scZ s8 (by omega), fun h9 e9 => ?_⟩
  have s9 := sc_A s8 e9
  have t9 := tg_A (i := n + 1 + 1 + 1) (t := 50) (m := 0) (w := 0) t8 (by omega)
  refine ⟨scT s9 t9, fun h10 e10 => ?_⟩
  have s10 := sc_R s9 (scX s8) e10
  have t10 := tg_w (c := 2) (i := o) (k := 5) (p := n + 1 + 1 + 1) t9
  refine ⟨scC s10 hb (by omega), scZ s10 (by omega), fun h11 e11 => ?_⟩
  have s11 := sc_A s10 e11
  have t11 := tg_A (i := n + 1 + 1 + 1 + 1) (t := 50) (m := 0) (w := 0) t10 (by omega)
  refine ⟨scT s11 t11, fun h12 e12 => ?_⟩
  have s12 := sc_R s11 (scX s10) e12
  have t12 := tg_w (c := 2) (i := o) (k := 6) (p := n + 1 + 1 + 1 + 1) t11
  refine ⟨scC s12 hb (by omega), scZ s12 (by omega), fun h13 e13 => ?_⟩
  have s13 := sc_A s12 e13
  have t13 := tg_A (i := n + 1 + 1 + 1 + 1 + 1) (t := 50) (m := 0) (w := 0) t12 (by omega)
  refine ⟨scT s13 t13, fun h14 e14 => ?_⟩
  have s14 := sc_R s13 (scX s12) e14
  have t14 := tg_w (c := 2) (i := o) (k := 7) (p := n + 1 + 1 + 1 + 1 + 1) t13
  refine ⟨scC s14 hb (by omega), scZ s14 (by omega), fun h15 e15 => ?_⟩
  have s15 := sc_A s14 e15
  have t15 := tg_A (i := n + 1 + 1 + 1 + 1 + 1 + 1) (t := 50) (m := 0) (w := 0) t14 (by omega)
  refine ⟨scT s15 t15, fun h16 e16 => ?_⟩
  have s16 := sc_R s15 (scX s14) e16
  have t16 := tg_w (c := 2) (i := o) (k := 8) (p := n + 1 + 1 + 1 + 1 + 1 + 1) t15
  refine ⟨scC s16 hb (by omega), scZ s16 (by omega), fun h17 e17 => ?_⟩
  have s17 := sc_A s16 e17
  have t17 := tg_A (i := n + 1 + 1 + 1 + 1 + 1 + 1 + 1) (t := 50) (m := 0) (w := 0) t16 (by omega)
  refine ⟨scT s17 t17, fun h18 e18 => ?_⟩
  have s18 := sc_R s17 (scX s16) e18
  have t18 := tg_w (c := 2) (i := o) (k := 9) (p := n + 1 + 1 + 1 + 1 + 1 + 1 + 1) t17
  refine ⟨scC s18 hb (by omega), scZ s18 (by omega), fun h19 e19 => ?_⟩
  have s19 := sc_A s18 e19
  have t19 := tg_A (i := n + 1 + 1 + 1 + 1 + 1 + 1 + 1 + 1) (t := 50) (m := 0) (w := 0) t18 (by omega)
  refine ⟨scT s19 t19, fun h20 e20 => ?_⟩
  have s20 := sc_R s19 (scX s18) e20
  have t20 := tg_w (c := 2) (i := o) (k := 10) (p := n + 1 + 1 + 1 + 1 + 1 + 1 + 1 + 1) t19
  refine ⟨scT s20 t20, fun h21 e21 => ?_⟩
  have s21 := sc_I 0 s20 rfl e21
  have t21 := tg_w (c := 0) (i := o) (k := 11) (p := 0) t20
  refine ⟨scC s21 hb (by omega), scZ s21 (by omega), fun h22 e22 => ?_⟩
  have s22 := sc_A s21 e22
  have t22 := tg_A (i := n + 1 + 1 + 1 + 1 + 1 + 1 + 1 + 1 + 1) (t := 50) (m := 0) (w := 0) t21 (by omega)
  refine ⟨scT s22 t22, fun h23 e23 => ?_⟩
  have s23 := sc_R s22 (scX s21) e23
  have t23 := tg_w (c := 2) (i := o) (k := 12) (p := n + 1 + 1 + 1 + 1 + 1 + 1 + 1 + 1 + 1) t22
  refine ⟨scC s23 hb (by omega), scZ s23 (by omega), fun h24 e24 => ?_⟩
  have s24 := sc_A s23 e24
  have t24 := tg_A (i := n + 1 + 1 + 1 + 1 + 1 + 1 + 1 + 1 + 1 + 1) (t := 50) (m := 0) (w := 0) t23 (by omega)
  refine ⟨scT s24 t24, fun h25 e25 => ?_⟩
  have s25 := sc_R s24 (scX s23) e25
  have t25 := tg_w (c := 2) (i := o) (k := 13) (p := n + 1 + 1 + 1 + 1 + 1 + 1 + 1 + 1 + 1 + 1) t24
  refine ⟨scC s25 hb (by omega), scZ s25 (by omega), fun h26 e26 => ?_⟩
  have s26 := sc_A s25 e26
  have t26 := tg_A (i := n + 1 + 1 + 1 + 1 + 1 + 1 + 1 + 1 + 1 + 1 + 1) (t := 50) (m := 0) (w := 0) t25 (by omega)
  refine ⟨scT s26 t26, fun h27 e27 => ?_⟩
  have s27 := sc_R s26 (scX s25) e27
  have t27 := tg_w (c := 2) (i := o) (k := 14) (p := n + 1 + 1 + 1 + 1 + 1 + 1 + 1 + 1 + 1 + 1 + 1) t26
  refine ⟨scC s27 hb (by omega), scZ s27 (by omega), fun h28 e28 => ?_⟩
  have s28 := sc_A s27 e28
  have t28 := tg_A (i := n + 1 + 1 + 1 + 1 + 1 + 1 + 1 + 1 + 1 + 1 + 1 + 1) (t := 50) (m := 0) (w := 0) t27 (by omega)
  refine ⟨scT s28 t28, fun h29 e29 => ?_⟩
  have s29 := sc_R s28 (scX s27) e29
  have t29 := tg_w (c := 2) (i := o) (k := 15) (p := n + 1 + 1 + 1 + 1 + 1 + 1 + 1 + 1 + 1 + 1 + 1 + 1) t28
  refine ⟨scC s29 hb (by omega), scZ s29 (by omega), fun h30 e30 => ?_⟩
  have s30 := sc_A s29 e30
  have t30 := tg_A (i := n + 1 + 1 + 1 + 1 + 1 + 1 + 1 + 1 + 1 + 1 + 1 + 1 + 1) (t := 50) (m := 0) (w := 0) t29 (by omega)
  refine ⟨scT s30 t30, fun h31 e31 => ?_⟩
  have s31 := sc_R s30 (scX s29) e31
  have t31 := tg_w (c := 2) (i := o) (k := 16) (p := n + 1 + 1 + 1 + 1 + 1 + 1 + 1 + 1 + 1 + 1 + 1 + 1 + 1) t30
  refine ⟨scC s31 hb (by omega), scZ s31 (by omega), fun h32 e32 => ?_⟩
  have s32 := sc_A s31 e32
  have t32 := tg_A (i := n + 1 + 1 + 1 + 1 + 1 + 1 + 1 + 1 + 1 + 1 + 1 + 1 + 1 + 1) (t := 52) (m := 0) (w := 0) t31 (by omega)
  refine ⟨scT s32 t32, fun h33 e33 => ?_⟩
  have s33 := sc_R s32 (scX s31) e33
  have t33 := tg_w (c := 2) (i := o) (k := 17) (p := n + 1 + 1 + 1 + 1 + 1 + 1 + 1 + 1 + 1 + 1 + 1 + 1 + 1 + 1) t32
  exact k h33 (sce s33 (by omega) (by omega))
def oSe (o n : Nat) (L : List Op) : List Op := (1, o, 4, 2, 0) :: (1, o, 3, 2, 0) :: (1, o, 2, 0, 0) :: (3, o, 1, n + 1, 0) :: (0, n + 1, 50, 0, 0) :: (3, o, 0, n, 0) :: (0, n, 51, 0, 0) :: L
theorem kp_Se {o n x : Nat} {L : List Op} (hx : x < o) (ho : o < n) : Kp L (oSe o n L) x := kp_I (kp_I (kp_I (kp_R (kp_A (kp_R (kp_A (kp_rf) (by omega)) (by omega)) (by omega)) (by omega))))
theorem kpo_Se {o n g : Nat} {L : List Op} (ho : o < n) (h : tgO L o = g) : tgO (oSe o n L) o = g := tg_w (tg_w (tg_w (tg_w (tg_A (tg_w (tg_A (h) (by omega))) (by omega)))))
set_option maxRecDepth 100000 in
theorem ct_Se {G : Gc} {K : Option Value → Hp → Prop} {a b o n z : Nat} {h : Hp} {L : List Op} (hG : gok G) (hb : b = gB G) (s0 : Sc b h L n z) (ho : o < n) (t0 : tgO L o = 11) (ea : a = b + o) (c1 : n + 2 ≤ 10000) (c2 : z + 0 ≤ 4000000) (k : ∀ h', Sc b h' (oSe o n L) (n + 2) (z + 0) → K none h') : sem G r_Se_init [.ref a] h K := by
  subst ea
  refine sem_intro yk_Se_init.2.2.2.2 (Nat.le_of_ble_eq_true rfl) (fun M Q hM => ?_)
  refine S_Se_init_0 hG hM (b + o) h ?_
  refine ⟨scC s0 hb (by omega), scZ s0 (by omega), fun h1 e1 => ?_⟩
  have s1 := sc_A s0 e1
  have t1 := tg_A (i := n) (t := 51) (m := 0) (w := 0) t0 (by omega)
  refine ⟨scT s1 t1, fun h2 e2 => ?_⟩
  have s2 := sc_R s1 (scX s0) e2
  have t2 := tg_w (c := 2) (i := o) (k := 0) (p := n) t1
  refine ⟨scC s2 hb (by omega), scZ s2 (by omega), fun h3 e3 => ?_⟩
  have s3 := sc_A s2 e3
  have t3 := tg_A (i := n + 1) (t := 50) (m := 0) (w := 0) t2 (by omega)
  refine ⟨scT s3 t3, fun h4 e4 => ?_⟩
  have s4 := sc_R s3 (scX s2) e4
  have t4 := tg_w (c := 2) (i := o) (k := 1) (p := n + 1) t3
  refine ⟨scT s4 t4, fun h5 e5 => ?_⟩
  have s5 := sc_I 0 s4 rfl e5
  have t5 := tg_w (c := 0) (i := o) (k := 2) (p := 0) t4
  refine ⟨scT s5 t5, fun h6 e6 => ?_⟩
  have s6 := sc_I 2 s5 rfl e6
  have t6 := tg_w (c := 0) (i := o) (k := 3) (p := 2) t5
  refine ⟨scT s6 t6, fun h7 e7 => ?_⟩
  have s7 := sc_I 2 s6 rfl e7
  have t7 := tg_w (c := 0) (i := o) (k := 4) (p := 2) t6
  exact k h7 (sce s7 (by omega) (by omega))
def oWP (o n : Nat) (L : List Op) : List Op := (2, o, 10, 0, 0) :: (1, o, 9, 0, 0) :: (1, o, 8, 0, 0) :: (3, o, 7, n + 1 + 329 + 1 + 3 + 1 + 26 + 1 + 0 + 1 + 3 + 1 + 7 + 1 + 15, 0) :: oSe (n + 1 + 329 + 1 + 3 + 1 + 26 + 1 + 0 + 1 + 3 + 1 + 7 + 1 + 15) (n + 1 + 329 + 1 + 3 + 1 + 26 + 1 + 0 + 1 + 3 + 1 + 7 + 1 + 15 + 1) ((0, n + 1 + 329 + 1 + 3 + 1 + 26 + 1 + 0 + 1 + 3 + 1 + 7 + 1 + 15, 11, 0, 5) :: (3, o, 6, n + 1 + 329 + 1 + 3 + 1 + 26 + 1 + 0 + 1 + 3 + 1 + 7, 0) :: oKi (n + 1 + 329 + 1 + 3 + 1 + 26 + 1 + 0 + 1 + 3 + 1 + 7) (n + 1 + 329 + 1 + 3 + 1 + 26 + 1 + 0 + 1 + 3 + 1 + 7 + 1) ((0, n + 1 + 329 + 1 + 3 + 1 + 26 + 1 + 0 + 1 + 3 + 1 + 7, 10, 0, 18) :: (3, o, 5, n + 1 + 329 + 1 + 3 + 1 + 26 + 1 + 0 + 1 + 3, 0) :: oWi (n + 1 + 329 + 1 + 3 + 1 + 26 + 1 + 0 + 1 + 3) (n + 1 + 329 + 1 + 3 + 1 + 26 + 1 + 0 + 1 + 3 + 1) ((0, n + 1 + 329 + 1 + 3 + 1 + 26 + 1 + 0 + 1 + 3, 9, 0, 9) :: (3, o, 4, n + 1 + 329 + 1 + 3 + 1 + 26 + 1 + 0, 0) :: oRe (n + 1 + 329 + 1 + 3 + 1 + 26 + 1 + 0) (n + 1 + 329 + 1 + 3 + 1 + 26 + 1 + 0 + 1) ((0, n + 1 + 329 + 1 + 3 + 1 + 26 + 1 + 0, 8, 0, 5) :: (3, o, 3, n + 1 + 329 + 1 + 3 + 1 + 26, 0) :: oCh (n + 1 + 329 + 1 + 3 + 1 + 26) (n + 1 + 329 + 1 + 3 + 1 + 26 + 1) ((0, n + 1 + 329 + 1 + 3 + 1 + 26, 7, 0, 4) :: (3, o, 2, n + 1 + 329 + 1 + 3, 0) :: oCo (n + 1 + 329 + 1 + 3) (n + 1 + 329 + 1 + 3 + 1) ((0, n + 1 + 329 + 1 + 3, 6, 0, 8) :: (3, o, 1, n + 1 + 329, 0) :: oCl (n + 1 + 329) (n + 1 + 329 + 1) ((0, n + 1 + 329, 5, 0, 4) :: (3, o, 0, n, 0) :: oWo (n) (n + 1) ((0, n, 2, 0, 10) :: L))))))))
theorem kp_WP {o n x : Nat} {L : List Op} (hx : x < o) (ho : o < n) : Kp L (oWP o n L) x := kp_L (kp_I (kp_I (kp_R (kp_tr (kp_A (kp_R (kp_tr (kp_A (kp_R (kp_tr (kp_A (kp_R (kp_tr (kp_A (kp_R (kp_tr (kp_A (kp_R (kp_tr (kp_A (kp_R (kp_tr (kp_A (kp_R (kp_tr (kp_A (kp_rf) (by omega)) (kp_Wo (by omega) (by omega))) (by omega)) (by omega)) (kp_Cl (by omega) (by omega))) (by omega)) (by omega)) (kp_Co (by omega) (by omega))) (by omega)) (by omega)) (kp_Ch (by omega) (by omega))) (by omega)) (by omega)) (kp_Re (by omega) (by omega))) (by omega)) (by omega)) (kp_Wi (by omega) (by omega))) (by omega)) (by omega)) (kp_Ki (by omega) (by omega))) (by omega)) (by omega)) (kp_Se (by omega) (by omega))) (by omega))))
theorem kpo_WP {o n g : Nat} {L : List Op} (ho : o < n) (h : tgO L o = g) : tgO (oWP o n L) o = g := tg_w (tg_w (tg_w (tg_w ((kp_Se (by omega) (by omega)).1.trans (tg_A (tg_w ((kp_Ki (by omega) (by omega)).1.trans (tg_A (tg_w ((kp_Wi (by omega) (by omega)).1.trans (tg_A (tg_w ((kp_Re (by omega) (by omega)).1.trans (tg_A (tg_w ((kp_Ch (by omega) (by omega)).1.trans (tg_A (tg_w ((kp_Co (by omega) (by omega)).1.trans (tg_A (tg_w ((kp_Cl (by omega) (by omega)).1.trans (tg_A (tg_w ((kp_Wo (by omega) (by omega)).1.trans (tg_A (h) (by omega)))) (by omega)))) (by omega)))) (by omega)))) (by omega)))) (by omega)))) (by omega)))) (by omega))))))
set_option maxRecDepth 100000 in
theorem ct_WP {G : Gc} {K : Option Value → Hp → Prop} {a b o n z : Nat} {h : Hp} {L : List Op} (hG : gok G) (hb : b = gB G) (s0 : Sc b h L n z) (ho : o < n) (t0 : tgO L o = 1) (ea : a = b + o) (c1 : n + 393 ≤ 10000) (c2 : z + 1169 ≤ 4000000) (k : ∀ h', Sc b h' (oWP o n L) (n + 393) (z + 1169) → K none h') : sem G r_WP_init [.ref a] h K := by
  subst ea
  refine sem_intro yk_WP_init.2.2.2.2 (Nat.le_of_ble_eq_true rfl) (fun M Q hM => ?_)
  refine S_WP_init_0 hG hM (b + o) h ?_
  refine ⟨scC s0 hb (by omega), scZ s0 (by omega), fun h1 e1 => ?_⟩
  have s1 := sc_A s0 e1
  have t1 := tg_A (i := n) (t := 2) (m := 0) (w := 10) t0 (by omega)
  refine ct_Wo hG hb s1 (Nat.lt_succ_self _) tg_0 (scX s0) (by omega) (by omega) (fun h2 s2 => ⟨rfl, ?_⟩)
  have t2 := (kp_Wo (o := n) (n := n + 1) (x := o) (by omega) (by omega)).1.trans t1
  refine ⟨scT s2 t2, fun h4 e4 => ?_⟩
  have s4 := sc_R s2 (scX s0) e4
  have t4 := tg_w (c := 2) (i := o) (k := 0) (p := n) t2
  refine ⟨scC s4 hb (by omega), scZ s4 (by omega), fun h5 e5 => ?_⟩
  have s5 := sc_A s4 e5
  have t5 := tg_A (i := n + 1 + 329) (t := 5) (m := 0) (w := 4) t4 (by omega)
  refine ct_Cl hG hb s5 (Nat.lt_succ_self _) tg_0 (scX s4) (by omega) (by omega) (fun h6 s6 => ⟨rfl, ?_⟩)
  have t6 := (kp_Cl (o := n + 1 + 329) (n := n + 1 + 329 + 1) (x := o) (by omega) (by omega)).1.trans t5
  refine ⟨scT s6 t6, fun h8 e8 => ?_⟩
  have s8 := sc_R s6 (scX s4) e8
  have t8 := tg_w (c := 2) (i := o) (k := 1) (p := n + 1 + 329) t6
  refine ⟨scC s8 hb (by omega), scZ s8 (by omega), fun h9 e9 => ?_⟩
  have s9 := sc_A s8 e9
  have t9 := tg_A (i := n + 1 + 329 + 1 + 3) (t := 6) (m := 0) (w := 8) t8 (by omega)
  refine ct_Co hG hb s9 (Nat.lt_succ_self _) tg_0 (scX s8) (by omega) (by omega) (fun h10 s10 => ⟨rfl, ?_⟩)
  have t10 := (kp_Co (o := n + 1 + 329 + 1 + 3) (n := n + 1 + 329 + 1 + 3 + 1) (x := o) (by omega) (by omega)).1.trans t9
  refine ⟨scT s10 t10, fun h12 e12 => ?_⟩
  have s12 := sc_R s10 (scX s8) e12
  have t12 := tg_w (c := 2) (i := o) (k := 2) (p := n + 1 + 329 + 1 + 3) t10
  refine ⟨scC s12 hb (by omega), scZ s12 (by omega), fun h13 e13 => ?_⟩
  have s13 := sc_A s12 e13
  have t13 := tg_A (i := n + 1 + 329 + 1 + 3 + 1 + 26) (t := 7) (m := 0) (w := 4) t12 (by omega)
  refine ct_Ch hG hb s13 (Nat.lt_succ_self _) tg_0 (scX s12) (by omega) (by omega) (fun h14 s14 => ⟨rfl, ?_⟩)
  have t14 := (kp_Ch (o := n + 1 + 329 + 1 + 3 + 1 + 26) (n := n + 1 + 329 + 1 + 3 + 1 + 26 + 1) (x := o) (by omega) (by omega)).1.trans t13
  refine ⟨scT s14 t14, fun h16 e16 => ?_⟩
  have s16 := sc_R s14 (scX s12) e16
  have t16 := tg_w (c := 2) (i := o) (k := 3) (p := n + 1 + 329 + 1 + 3 + 1 + 26) t14
  refine ⟨scC s16 hb (by omega), scZ s16 (by omega), fun h17 e17 => ?_⟩
  have s17 := sc_A s16 e17
  have t17 := tg_A (i := n + 1 + 329 + 1 + 3 + 1 + 26 + 1 + 0) (t := 8) (m := 0) (w := 5) t16 (by omega)
  refine ct_Re hG hb s17 (Nat.lt_succ_self _) tg_0 (scX s16) (by omega) (by omega) (fun h18 s18 => ⟨rfl, ?_⟩)
  have t18 := (kp_Re (o := n + 1 + 329 + 1 + 3 + 1 + 26 + 1 + 0) (n := n + 1 + 329 + 1 + 3 + 1 + 26 + 1 + 0 + 1) (x := o) (by omega) (by omega)).1.trans t17
  refine ⟨scT s18 t18, fun h20 e20 => ?_⟩
  have s20 := sc_R s18 (scX s16) e20
  have t20 := tg_w (c := 2) (i := o) (k := 4) (p := n + 1 + 329 + 1 + 3 + 1 + 26 + 1 + 0) t18
  refine ⟨scC s20 hb (by omega), scZ s20 (by omega), fun h21 e21 => ?_⟩
  have s21 := sc_A s20 e21
  have t21 := tg_A (i := n + 1 + 329 + 1 + 3 + 1 + 26 + 1 + 0 + 1 + 3) (t := 9) (m := 0) (w := 9) t20 (by omega)
  refine ct_Wi hG hb s21 (Nat.lt_succ_self _) tg_0 (scX s20) (by omega) (by omega) (fun h22 s22 => ⟨rfl, ?_⟩)
  have t22 := (kp_Wi (o := n + 1 + 329 + 1 + 3 + 1 + 26 + 1 + 0 + 1 + 3) (n := n + 1 + 329 + 1 + 3 + 1 + 26 + 1 + 0 + 1 + 3 + 1) (x := o) (by omega) (by omega)).1.trans t21
  refine ⟨scT s22 t22, fun h24 e24 => ?_⟩
  have s24 := sc_R s22 (scX s20) e24
  have t24 := tg_w (c := 2) (i := o) (k := 5) (p := n + 1 + 329 + 1 + 3 + 1 + 26 + 1 + 0 + 1 + 3) t22
  refine ⟨scC s24 hb (by omega), scZ s24 (by omega), fun h25 e25 => ?_⟩
  have s25 := sc_A s24 e25
  have t25 := tg_A (i := n + 1 + 329 + 1 + 3 + 1 + 26 + 1 + 0 + 1 + 3 + 1 + 7) (t := 10) (m := 0) (w := 18) t24 (by omega)
  refine ct_Ki hG hb s25 (Nat.lt_succ_self _) tg_0 (scX s24) (by omega) (by omega) (fun h26 s26 => ⟨rfl, ?_⟩)
  have t26 := (kp_Ki (o := n + 1 + 329 + 1 + 3 + 1 + 26 + 1 + 0 + 1 + 3 + 1 + 7) (n := n + 1 + 329 + 1 + 3 + 1 + 26 + 1 + 0 + 1 + 3 + 1 + 7 + 1) (x := o) (by omega) (by omega)).1.trans t25
  refine ⟨scT s26 t26, fun h28 e28 => ?_⟩
  have s28 := sc_R s26 (scX s24) e28
  have t28 := tg_w (c := 2) (i := o) (k := 6) (p := n + 1 + 329 + 1 + 3 + 1 + 26 + 1 + 0 + 1 + 3 + 1 + 7) t26
  refine ⟨scC s28 hb (by omega), scZ s28 (by omega), fun h29 e29 => ?_⟩
  have s29 := sc_A s28 e29
  have t29 := tg_A (i := n + 1 + 329 + 1 + 3 + 1 + 26 + 1 + 0 + 1 + 3 + 1 + 7 + 1 + 15) (t := 11) (m := 0) (w := 5) t28 (by omega)
  refine ct_Se hG hb s29 (Nat.lt_succ_self _) tg_0 (scX s28) (by omega) (by omega) (fun h30 s30 => ⟨rfl, ?_⟩)
  have t30 := (kp_Se (o := n + 1 + 329 + 1 + 3 + 1 + 26 + 1 + 0 + 1 + 3 + 1 + 7 + 1 + 15) (n := n + 1 + 329 + 1 + 3 + 1 + 26 + 1 + 0 + 1 + 3 + 1 + 7 + 1 + 15 + 1) (x := o) (by omega) (by omega)).1.trans t29
  refine ⟨scT s30 t30, fun h32 e32 => ?_⟩
  have s32 := sc_R s30 (scX s28) e32
  have t32 := tg_w (c := 2) (i := o) (k := 7) (p := n + 1 + 329 + 1 + 3 + 1 + 26 + 1 + 0 + 1 + 3 + 1 + 7 + 1 + 15) t30
  refine ⟨scT s32 t32, fun h33 e33 => ?_⟩
  have s33 := sc_I 0 s32 rfl e33
  have t33 := tg_w (c := 0) (i := o) (k := 8) (p := 0) t32
  refine ⟨scT s33 t33, fun h34 e34 => ?_⟩
  have s34 := sc_I 0 s33 rfl e34
  have t34 := tg_w (c := 0) (i := o) (k := 9) (p := 0) t33
  refine ⟨scT s34 t34, fun h35 e35 => ?_⟩
  have s35 := sc_L 0 s34 rfl e35
  have t35 := tg_w (c := 1) (i := o) (k := 10) (p := 0) t34
  exact k h35 (sce s35 (by omega) (by omega))
def oMo (o n : Nat) (L : List Op) : List Op := (3, o, 34, n + 1 + 1 + 1 + 1 + 1 + 1 + 1 + 1 + 1 + 1 + 1 + 1 + 1 + 1 + 1 + 1 + 1 + 1 + 1 + 1 + 1 + 1 + 1 + 1 + 1 + 1, 0) :: (0, n + 1 + 1 + 1 + 1 + 1 + 1 + 1 + 1 + 1 + 1 + 1 + 1 + 1 + 1 + 1 + 1 + 1 + 1 + 1 + 1 + 1 + 1 + 1 + 1 + 1 + 1, 51, 4096, 4096) :: (3, o, 33, n + 1 + 1 + 1 + 1 + 1 + 1 + 1 + 1 + 1 + 1 + 1 + 1 + 1 + 1 + 1 + 1 + 1 + 1 + 1 + 1 + 1 + 1 + 1 + 1 + 1, 0) :: (0, n + 1 + 1 + 1 + 1 + 1 + 1 + 1 + 1 + 1 + 1 + 1 + 1 + 1 + 1 + 1 + 1 + 1 + 1 + 1 + 1 + 1 + 1 + 1 + 1 + 1, 52, 4096, 4096) :: (3, o, 31, n + 1 + 1 + 1 + 1 + 1 + 1 + 1 + 1 + 1 + 1 + 1 + 1 + 1 + 1 + 1 + 1 + 1 + 1 + 1 + 1 + 1 + 1 + 1 + 1, 0) :: (0, n + 1 + 1 + 1 + 1 + 1 + 1 + 1 + 1 + 1 + 1 + 1 + 1 + 1 + 1 + 1 + 1 + 1 + 1 + 1 + 1 + 1 + 1 + 1 + 1, 50, 4096, 4096) :: (3, o, 30, n + 1 + 1 + 1 + 1 + 1 + 1 + 1 + 1 + 1 + 1 + 1 + 1 + 1 + 1 + 1 + 1 + 1 + 1 + 1 + 1 + 1 + 1 + 1, 0) :: (0, n + 1 + 1 + 1 + 1 + 1 + 1 + 1 + 1 + 1 + 1 + 1 + 1 + 1 + 1 + 1 + 1 + 1 + 1 + 1 + 1 + 1 + 1 + 1, 50, 8192, 8192) :: (3, o, 29, n + 1 + 1 + 1 + 1 + 1 + 1 + 1 + 1 + 1 + 1 + 1 + 1 + 1 + 1 + 1 + 1 + 1 + 1 + 1 + 1 + 1 + 1, 0) :: (0, n + 1 + 1 + 1 + 1 + 1 + 1 + 1 + 1 + 1 + 1 + 1 + 1 + 1 + 1 + 1 + 1 + 1 + 1 + 1 + 1 + 1 + 1, 52, 4096, 4096) :: (3, o, 28, n + 1 + 1 + 1 + 1 + 1 + 1 + 1 + 1 + 1 + 1 + 1 + 1 + 1 + 1 + 1 + 1 + 1 + 1 + 1 + 1 + 1, 0) :: (0, n + 1 + 1 + 1 + 1 + 1 + 1 + 1 + 1 + 1 + 1 + 1 + 1 + 1 + 1 + 1 + 1 + 1 + 1 + 1 + 1 + 1, 50, 4096, 4096) :: (3, o, 27, n + 1 + 1 + 1 + 1 + 1 + 1 + 1 + 1 + 1 + 1 + 1 + 1 + 1 + 1 + 1 + 1 + 1 + 1 + 1 + 1, 0) :: (0, n + 1 + 1 + 1 + 1 + 1 + 1 + 1 + 1 + 1 + 1 + 1 + 1 + 1 + 1 + 1 + 1 + 1 + 1 + 1 + 1, 50, 4096, 4096) :: (3, o, 25, n + 1 + 1 + 1 + 1 + 1 + 1 + 1 + 1 + 1 + 1 + 1 + 1 + 1 + 1 + 1 + 1 + 1 + 1 + 1, 0) :: (0, n + 1 + 1 + 1 + 1 + 1 + 1 + 1 + 1 + 1 + 1 + 1 + 1 + 1 + 1 + 1 + 1 + 1 + 1 + 1, 51, 4096, 4096) :: (3, o, 24, n + 1 + 1 + 1 + 1 + 1 + 1 + 1 + 1 + 1 + 1 + 1 + 1 + 1 + 1 + 1 + 1 + 1 + 1, 0) :: (0, n + 1 + 1 + 1 + 1 + 1 + 1 + 1 + 1 + 1 + 1 + 1 + 1 + 1 + 1 + 1 + 1 + 1 + 1, 50, 49152, 49152) :: (3, o, 23, n + 1 + 1 + 1 + 1 + 1 + 1 + 1 + 1 + 1 + 1 + 1 + 1 + 1 + 1 + 1 + 1 + 1, 0) :: (0, n + 1 + 1 + 1 + 1 + 1 + 1 + 1 + 1 + 1 + 1 + 1 + 1 + 1 + 1 + 1 + 1 + 1, 50, 4096, 4096) :: (3, o, 22, n + 1 + 1 + 1 + 1 + 1 + 1 + 1 + 1 + 1 + 1 + 1 + 1 + 1 + 1 + 1 + 1, 0) :: (0, n + 1 + 1 + 1 + 1 + 1 + 1 + 1 + 1 + 1 + 1 + 1 + 1 + 1 + 1 + 1 + 1, 50, 4096, 4096) :: (3, o, 21, n + 1 + 1 + 1 + 1 + 1 + 1 + 1 + 1 + 1 + 1 + 1 + 1 + 1 + 1 + 1, 0) :: (0, n + 1 + 1 + 1 + 1 + 1 + 1 + 1 + 1 + 1 + 1 + 1 + 1 + 1 + 1 + 1, 50, 4096, 4096) :: (3, o, 20, n + 1 + 1 + 1 + 1 + 1 + 1 + 1 + 1 + 1 + 1 + 1 + 1 + 1 + 1, 0) :: (0, n + 1 + 1 + 1 + 1 + 1 + 1 + 1 + 1 + 1 + 1 + 1 + 1 + 1 + 1, 50, 4096, 4096) :: (3, o, 19, n + 1 + 1 + 1 + 1 + 1 + 1 + 1 + 1 + 1 + 1 + 1 + 1 + 1, 0) :: (0, n + 1 + 1 + 1 + 1 + 1 + 1 + 1 + 1 + 1 + 1 + 1 + 1 + 1, 50, 4096, 4096) :: (3, o, 18, n + 1 + 1 + 1 + 1 + 1 + 1 + 1 + 1 + 1 + 1 + 1 + 1, 0) :: (0, n + 1 + 1 + 1 + 1 + 1 + 1 + 1 + 1 + 1 + 1 + 1 + 1, 50, 147456, 147456) :: (3, o, 17, n + 1 + 1 + 1 + 1 + 1 + 1 + 1 + 1 + 1 + 1 + 1, 0) :: (0, n + 1 + 1 + 1 + 1 + 1 + 1 + 1 + 1 + 1 + 1 + 1, 50, 147456, 147456) :: (3, o, 16, n + 1 + 1 + 1 + 1 + 1 + 1 + 1 + 1 + 1 + 1, 0) :: (0, n + 1 + 1 + 1 + 1 + 1 + 1 + 1 + 1 + 1 + 1, 50, 4096, 4096) :: (3, o, 15, n + 1 + 1 + 1 + 1 + 1 + 1 + 1 + 1 + 1, 0) :: (0, n + 1 + 1 + 1 + 1 + 1 + 1 + 1 + 1 + 1, 51, 4096, 4096) :: (3, o, 14, n + 1 + 1 + 1 + 1 + 1 + 1 + 1 + 1, 0) :: (0, n + 1 + 1 + 1 + 1 + 1 + 1 + 1 + 1, 50, 147456, 147456) :: (3, o, 11, n + 1 + 1 + 1 + 1 + 1 + 1 + 1, 0) :: (0, n + 1 + 1 + 1 + 1 + 1 + 1 + 1, 50, 8, 8) :: (3, o, 10, n + 1 + 1 + 1 + 1 + 1 + 1, 0) :: (0, n + 1 + 1 + 1 + 1 + 1 + 1, 50, 8, 8) :: (3, o, 8, n + 1 + 1 + 1 + 1 + 1, 0) :: (0, n + 1 + 1 + 1 + 1 + 1, 50, 432, 432) :: (3, o, 7, n + 1 + 1 + 1 + 1, 0) :: (0, n + 1 + 1 + 1 + 1, 50, 36, 36) :: (3, o, 6, n + 1 + 1 + 1, 0) :: (0, n + 1 + 1 + 1, 50, 228, 228) :: (3, o, 5, n + 1 + 1, 0) :: (0, n + 1 + 1, 50, 19, 19) :: (3, o, 4, n + 1, 0) :: (0, n + 1, 50, 12, 12) :: (3, o, 1, n, 0) :: (0, n, 50, 8, 8) :: L
theorem kp_Mo {o n x : Nat} {L : List Op} (hx : x < o) (ho : o < n) : Kp L (oMo o n L) x := kp_R (kp_A (kp_R (kp_A (kp_R (kp_A (kp_R (kp_A (kp_R (kp_A (kp_R (kp_A (kp_R (kp_A (kp_R (kp_A (kp_R (kp_A (kp_R (kp_A (kp_R (kp_A (kp_R (kp_A (kp_R (kp_A (kp_R (kp_A (kp_R (kp_A (kp_R (kp_A (kp_R (kp_A (kp_R (kp_A (kp_R (kp_A (kp_R (kp_A (kp_R (kp_A (kp_R (kp_A (kp_R (kp_A (kp_R (kp_A (kp_R (kp_A (kp_R (kp_A (kp_R (kp_A (kp_rf) (by omega)) (by omega)) (by omega)) (by omega)) (by omega)) (by omega)) (by omega)) (by omega)) (by omega)) (by omega)) (by omega)) (by omega)) (by omega)) (by omega)) (by omega)) (by omega)) (by omega)) (by omega)) (by omega)) (by omega)) (by omega)) (by omega)) (by omega)) (by omega)) (by omega)) (by omega)) (by omega)) (by omega)) (by omega)) (by omega)) (by omega)) (by omega)) (by omega)) (by omega)) (by omega)) (by omega)) (by omega)) (by omega)) (by omega)) (by omega)) (by omega)) (by omega)) (by omega)) (by omega)) (by omega)) (by omega)) (by omega)) (by omega)) (by omega)) (by omega)) (by omega)) (by omega)) (by omega)) (by omega)
theorem kpo_Mo {o n g : Nat} {L : List Op} (ho : o < n) (h : tgO L o = g) : tgO (oMo o n L) o = g := tg_w (tg_A (tg_w (tg_A (tg_w (tg_A (tg_w (tg_A (tg_w (tg_A (tg_w (tg_A (tg_w (tg_A (tg_w (tg_A (tg_w (tg_A (tg_w (tg_A (tg_w (tg_A (tg_w (tg_A (tg_w (tg_A (tg_w (tg_A (tg_w (tg_A (tg_w (tg_A (tg_w (tg_A (tg_w (tg_A (tg_w (tg_A (tg_w (tg_A (tg_w (tg_A (tg_w (tg_A (tg_w (tg_A (tg_w (tg_A (tg_w (tg_A (tg_w (tg_A (tg_w (tg_A (h) (by omega))) (by omega))) (by omega))) (by omega))) (by omega))) (by omega))) (by omega))) (by omega))) (by omega))) (by omega))) (by omega))) (by omega))) (by omega))) (by omega))) (by omega))) (by omega))) (by omega))) (by omega))) (by omega))) (by omega))) (by omega))) (by omega))) (by omega))) (by omega))) (by omega))) (by omega))) (by omega))
set_option maxRecDepth 100000 in
theorem ct_Mo {G : Gc} {K : Option Value → Hp → Prop} {a b o n z : Nat} {h : Hp} {L : List Op} (hG : gok G) (hb : b = gB G) (s0 : Sc b h L n z) (ho : o < n) (t0 : tgO L o = 12) (ea : a = b + o) (c1 : n + 27 ≤ 10000) (c2 : z + 557807 ≤ 4000000) (k : ∀ h', Sc b h' (oMo o n L) (n + 27) (z + 557807) → sem G r_Mo_forget [.ref (b + o)] h' (fun v h' => v = none ∧ K none h')) : sem G r_Mo_init [.ref a] h K := by
  subst ea
  refine sem_intro yk_Mo_init.2.2.2.2 (Nat.le_of_ble_eq_true rfl) (fun M Q hM => ?_)
  refine S_Mo_init_0 hG hM (b + o) h ?_
  refine ⟨scC s0 hb (by omega), scZ s0 (by omega), fun h1 e1 => ?_⟩
  have s1 := sc_A s0 e1
  have t1 := tg_A (i := n) (t := 50) (m := 8) (w := 8) t0 (by omega)
  refine ⟨scT s1 t1, fun h2 e2 => ?_⟩
  have s2 := sc_R s1 (scX s0) e2
  have t2 := tg_w (c := 2) (i := o) (k := 1) (p := n) t1
  refine ⟨scC s2 hb (by omega), scZ s2 (by omega), fun h3 e3 => ?_⟩
  have s3 := sc_A s2 e3
  have t3 := tg_A (i := n + 1) (t := 50) (m := 12) (w := 12) t2 (by omega)
  refine ⟨scT s3 t3, fun h4 e4 => ?_⟩
  have s4 := sc_R s3 (scX s2) e4
  have t4 := tg_w (c := 2) (i := o) (k := 4) (p := n + 1) t3
  refine ⟨scC s4 hb (by omega), scZ s4 (by omega), fun h5 e5 => ?_⟩
  have s5 := sc_A s4 e5
  have t5 := tg_A (i := n + 1 + 1) (t := 50) (m := 19) (w := 19) t4 (by omega)
  refine ⟨scT s5 t5, fun h6 e6 => ?_⟩
  have s6 := sc_R s5 (scX s4) e6
  have t6 := tg_w (c := 2) (i := o) (k := 5) (p := n + 1 + 1) t5
  refine ⟨scC s6 hb (by omega), scZ s6 (by omega), fun h7 e7 => ?_⟩
  have s7 := sc_A s6 e7
  have t7 := tg_A (i := n + 1 + 1 + 1) (t := 50) (m := 228) (w := 228) t6 (by omega)
  refine ⟨scT s7 t7, fun h8 e8 => ?_⟩
  have s8 := sc_R s7 (scX s6) e8
  have t8 := tg_w (c := 2) (i := o) (k := 6) (p := n + 1 + 1 + 1) t7
  refine ⟨scC s8 hb (by omega), scZ s8 (by omega), fun h9 e9 => ?_⟩
  have s9 := sc_A s8 e9
  have t9 := tg_A (i := n + 1 + 1 + 1 + 1) (t := 50) (m := 36) (w := 36) t8 (by omega)
  refine ⟨scT s9 t9, fun h10 e10 => ?_⟩
  have s10 := sc_R s9 (scX s8) e10
  have t10 := tg_w (c := 2) (i := o) (k := 7) (p := n + 1 + 1 + 1 + 1) t9
  refine ⟨scC s10 hb (by omega), scZ s10 (by omega), fun h11 e11 => ?_⟩
  have s11 := sc_A s10 e11
  have t11 := tg_A (i := n + 1 + 1 + 1 + 1 + 1) (t := 50) (m := 432) (w := 432) t10 (by omega)
  refine ⟨scT s11 t11, fun h12 e12 => ?_⟩
  have s12 := sc_R s11 (scX s10) e12
  have t12 := tg_w (c := 2) (i := o) (k := 8) (p := n + 1 + 1 + 1 + 1 + 1) t11
  refine ⟨scC s12 hb (by omega), scZ s12 (by omega), fun h13 e13 => ?_⟩
  have s13 := sc_A s12 e13
  have t13 := tg_A (i := n + 1 + 1 + 1 + 1 + 1 + 1) (t := 50) (m := 8) (w := 8) t12 (by omega)
  refine ⟨scT s13 t13, fun h14 e14 => ?_⟩
  have s14 := sc_R s13 (scX s12) e14
  have t14 := tg_w (c := 2) (i := o) (k := 10) (p := n + 1 + 1 + 1 + 1 + 1 + 1) t13
  refine ⟨scC s14 hb (by omega), scZ s14 (by omega), fun h15 e15 => ?_⟩
  have s15 := sc_A s14 e15
  have t15 := tg_A (i := n + 1 + 1 + 1 + 1 + 1 + 1 + 1) (t := 50) (m := 8) (w := 8) t14 (by omega)
  refine ⟨scT s15 t15, fun h16 e16 => ?_⟩
  have s16 := sc_R s15 (scX s14) e16
  have t16 := tg_w (c := 2) (i := o) (k := 11) (p := n + 1 + 1 + 1 + 1 + 1 + 1 + 1) t15
  refine ⟨scC s16 hb (by omega), scZ s16 (by omega), fun h17 e17 => ?_⟩
  have s17 := sc_A s16 e17
  have t17 := tg_A (i := n + 1 + 1 + 1 + 1 + 1 + 1 + 1 + 1) (t := 50) (m := 147456) (w := 147456) t16 (by omega)
  refine ⟨scT s17 t17, fun h18 e18 => ?_⟩
  have s18 := sc_R s17 (scX s16) e18
  have t18 := tg_w (c := 2) (i := o) (k := 14) (p := n + 1 + 1 + 1 + 1 + 1 + 1 + 1 + 1) t17
  refine ⟨scC s18 hb (by omega), scZ s18 (by omega), fun h19 e19 => ?_⟩
  have s19 := sc_A s18 e19
  have t19 := tg_A (i := n + 1 + 1 + 1 + 1 + 1 + 1 + 1 + 1 + 1) (t := 51) (m := 4096) (w := 4096) t18 (by omega)
  refine ⟨scT s19 t19, fun h20 e20 => ?_⟩
  have s20 := sc_R s19 (scX s18) e20
  have t20 := tg_w (c := 2) (i := o) (k := 15) (p := n + 1 + 1 + 1 + 1 + 1 + 1 + 1 + 1 + 1) t19
  refine ⟨scC s20 hb (by omega), scZ s20 (by omega), fun h21 e21 => ?_⟩
  have s21 := sc_A s20 e21
  have t21 := tg_A (i := n + 1 + 1 + 1 + 1 + 1 + 1 + 1 + 1 + 1 + 1) (t := 50) (m := 4096) (w := 4096) t20 (by omega)
  refine ⟨scT s21 t21, fun h22 e22 => ?_⟩
  have s22 := sc_R s21 (scX s20) e22
  have t22 := tg_w (c := 2) (i := o) (k := 16) (p := n + 1 + 1 + 1 + 1 + 1 + 1 + 1 + 1 + 1 + 1) t21
  refine ⟨scC s22 hb (by omega), scZ s22 (by omega), fun h23 e23 => ?_⟩
  have s23 := sc_A s22 e23
  have t23 := tg_A (i := n + 1 + 1 + 1 + 1 + 1 + 1 + 1 + 1 + 1 + 1 + 1) (t := 50) (m := 147456) (w := 147456) t22 (by omega)
  refine ⟨scT s23 t23, fun h24 e24 => ?_⟩
  have s24 := sc_R s23 (scX s22) e24
  have t24 := tg_w (c := 2) (i := o) (k := 17) (p := n + 1 + 1 + 1 + 1 + 1 + 1 + 1 + 1 + 1 + 1 + 1) t23
  refine ⟨scC s24 hb (by omega), scZ s24 (by omega), fun h25 e25 => ?_⟩
  have s25 := sc_A s24 e25
  have t25 := tg_A (i := n + 1 + 1 + 1 + 1 + 1 + 1 + 1 + 1 + 1 + 1 + 1 + 1) (t := 50) (m := 147456) (w := 147456) t24 (by omega)
  refine ⟨scT s25 t25, fun h26 e26 => ?_⟩
  have s26 := sc_R s25 (scX s24) e26
  have t26 := tg_w (c := 2) (i := o) (k := 18) (p := n + 1 + 1 + 1 + 1 + 1 + 1 + 1 + 1 + 1 + 1 + 1 + 1) t25
  refine ⟨scC s26 hb (by omega), scZ s26 (by omega), fun h27 e27 => ?_⟩
  have s27 := sc_A s26 e27
  have t27 := tg_A (i := n + 1 + 1 + 1 + 1 + 1 + 1 + 1 + 1 + 1 + 1 + 1 + 1 + 1) (t := 50) (m := 4096) (w := 4096) t26 (by omega)
  refine ⟨scT s27 t27, fun h28 e28 => ?_⟩
  have s28 := sc_R s27 (scX s26) e28
  have t28 := tg_w (c := 2) (i := o) (k := 19) (p := n + 1 + 1 + 1 + 1 + 1 + 1 + 1 + 1 + 1 + 1 + 1 + 1 + 1) t27
  refine ⟨scC s28 hb (by omega), scZ s28 (by omega), fun h29 e29 => ?_⟩
  have s29 := sc_A s28 e29
  have t29 := tg_A (i := n + 1 + 1 + 1 + 1 + 1 + 1 + 1 + 1 + 1 + 1 + 1 + 1 + 1 + 1) (t := 50) (m := 4096) (w := 4096) t28 (by omega)
  refine ⟨scT s29 t29, fun h30 e30 => ?_⟩
  have s30 := sc_R s29 (scX s28) e30
  have t30 := tg_w (c := 2) (i := o) (k := 20) (p := n + 1 + 1 + 1 + 1 + 1 + 1 + 1 + 1 + 1 + 1 + 1 + 1 + 1 + 1) t29
  refine ⟨scC s30 hb (by omega), scZ s30 (by omega), fun h31 e31 => ?_⟩
  have s31 := sc_A s30 e31
  have t31 := tg_A (i := n + 1 + 1 + 1 + 1 + 1 + 1 + 1 + 1 + 1 + 1 + 1 + 1 + 1 + 1 + 1) (t := 50) (m := 4096) (w := 4096) t30 (by omega)
  refine ⟨scT s31 t31, fun h32 e32 => ?_⟩
  have s32 := sc_R s31 (scX s30) e32
  have t32 := tg_w (c := 2) (i := o) (k := 21) (p := n + 1 + 1 + 1 + 1 + 1 + 1 + 1 + 1 + 1 + 1 + 1 + 1 + 1 + 1 + 1) t31
  refine ⟨scC s32 hb (by omega), scZ s32 (by omega), fun h33 e33 => ?_⟩
  have s33 := sc_A s32 e33
  have t33 := tg_A (i := n + 1 + 1 + 1 + 1 + 1 + 1 + 1 + 1 + 1 + 1 + 1 + 1 + 1 + 1 + 1 + 1) (t := 50) (m := 4096) (w := 4096) t32 (by omega)
  refine ⟨scT s33 t33, fun h34 e34 => ?_⟩
  have s34 := sc_R s33 (scX s32) e34
  have t34 := tg_w (c := 2) (i := o) (k := 22) (p := n + 1 + 1 + 1 + 1 + 1 + 1 + 1 + 1 + 1 + 1 + 1 + 1 + 1 + 1 + 1 + 1) t33
  refine ⟨scC s34 hb (by omega), scZ s34 (by omega), fun h35 e35 => ?_⟩
  have s35 := sc_A s34 e35
  have t35 := tg_A (i := n + 1 + 1 + 1 + 1 + 1 + 1 + 1 + 1 + 1 + 1 + 1 + 1 + 1 + 1 + 1 + 1 + 1) (t := 50) (m := 4096) (w := 4096) t34 (by omega)
  refine ⟨scT s35 t35, fun h36 e36 => ?_⟩
  have s36 := sc_R s35 (scX s34) e36
  have t36 := tg_w (c := 2) (i := o) (k := 23) (p := n + 1 + 1 + 1 + 1 + 1 + 1 + 1 + 1 + 1 + 1 + 1 + 1 + 1 + 1 + 1 + 1 + 1) t35
  refine ⟨scC s36 hb (by omega), scZ s36 (by omega), fun h37 e37 => ?_⟩
  have s37 := sc_A s36 e37
  have t37 := tg_A (i := n + 1 + 1 + 1 + 1 + 1 + 1 + 1 + 1 + 1 + 1 + 1 + 1 + 1 + 1 + 1 + 1 + 1 + 1) (t := 50) (m := 49152) (w := 49152) t36 (by omega)
  refine ⟨scT s37 t37, fun h38 e38 => ?_⟩
  have s38 := sc_R s37 (scX s36) e38
  have t38 := tg_w (c := 2) (i := o) (k := 24) (p := n + 1 + 1 + 1 + 1 + 1 + 1 + 1 + 1 + 1 + 1 + 1 + 1 + 1 + 1 + 1 + 1 + 1 + 1) t37
  refine ⟨scC s38 hb (by omega), scZ s38 (by omega), fun h39 e39 => ?_⟩
  have s39 := sc_A s38 e39
  have t39 := tg_A (i := n + 1 + 1 + 1 + 1 + 1 + 1 + 1 + 1 + 1 + 1 + 1 + 1 + 1 + 1 + 1 + 1 + 1 + 1 + 1) (t := 51) (m := 4096) (w := 4096) t38 (by omega)
  refine ⟨scT s39 t39, fun h40 e40 => ?_⟩
  have s40 := sc_R s39 (scX s38) e40
  have t40 := tg_w (c := 2) (i := o) (k := 25) (p := n + 1 + 1 + 1 + 1 + 1 + 1 + 1 + 1 + 1 + 1 + 1 + 1 + 1 + 1 + 1 + 1 + 1 + 1 + 1) t39
  refine ⟨scC s40 hb (by omega), scZ s40 (by omega), fun h41 e41 => ?_⟩
  have s41 := sc_A s40 e41
  have t41 := tg_A (i := n + 1 + 1 + 1 + 1 + 1 + 1 + 1 + 1 + 1 + 1 + 1 + 1 + 1 + 1 + 1 + 1 + 1 + 1 + 1 + 1) (t := 50) (m := 4096) (w := 4096) t40 (by omega)
  refine ⟨scT s41 t41, fun h42 e42 => ?_⟩
  have s42 := sc_R s41 (scX s40) e42
  have t42 := tg_w (c := 2) (i := o) (k := 27) (p := n + 1 + 1 + 1 + 1 + 1 + 1 + 1 + 1 + 1 + 1 + 1 + 1 + 1 + 1 + 1 + 1 + 1 + 1 + 1 + 1) t41
  refine ⟨scC s42 hb (by omega), scZ s42 (by omega), fun h43 e43 => ?_⟩
  have s43 := sc_A s42 e43
  have t43 := tg_A (i := n + 1 + 1 + 1 + 1 + 1 + 1 + 1 + 1 + 1 + 1 + 1 + 1 + 1 + 1 + 1 + 1 + 1 + 1 + 1 + 1 + 1) (t := 50) (m := 4096) (w := 4096) t42 (by omega)
  refine ⟨scT s43 t43, fun h44 e44 => ?_⟩
  have s44 := sc_R s43 (scX s42) e44
  have t44 := tg_w (c := 2) (i := o) (k := 28) (p := n + 1 + 1 + 1 + 1 + 1 + 1 + 1 + 1 + 1 + 1 + 1 + 1 + 1 + 1 + 1 + 1 + 1 + 1 + 1 + 1 + 1) t43
  refine ⟨scC s44 hb (by omega), scZ s44 (by omega), fun h45 e45 => ?_⟩
  have s45 := sc_A s44 e45
  have t45 := tg_A (i := n + 1 + 1 + 1 + 1 + 1 + 1 + 1 + 1 + 1 + 1 + 1 + 1 + 1 + 1 + 1 + 1 + 1 + 1 + 1 + 1 + 1 + 1) (t := 52) (m := 4096) (w := 4096) t44 (by omega)
  refine ⟨scT s45 t45, fun h46 e46 => ?_⟩
  have s46 := sc_R s45 (scX s44) e46
  have t46 := tg_w (c := 2) (i := o) (k := 29) (p := n + 1 + 1 + 1 + 1 + 1 + 1 + 1 + 1 + 1 + 1 + 1 + 1 + 1 + 1 + 1 + 1 + 1 + 1 + 1 + 1 + 1 + 1) t45
  refine ⟨scC s46 hb (by omega), scZ s46 (by omega), fun h47 e47 => ?_⟩
  have s47 := sc_A s46 e47
  have t47 := tg_A (i := n + 1 + 1 + 1 + 1 + 1 + 1 + 1 + 1 + 1 + 1 + 1 + 1 + 1 + 1 + 1 + 1 + 1 + 1 + 1 + 1 + 1 + 1 + 1) (t := 50) (m := 8192) (w := 8192) t46 (by omega)
  refine ⟨scT s47 t47, fun h48 e48 => ?_⟩
  have s48 := sc_R s47 (scX s46) e48
  have t48 := tg_w (c := 2) (i := o) (k := 30) (p := n + 1 + 1 + 1 + 1 + 1 + 1 + 1 + 1 + 1 + 1 + 1 + 1 + 1 + 1 + 1 + 1 + 1 + 1 + 1 + 1 + 1 + 1 + 1) t47
  refine ⟨scC s48 hb (by omega), scZ s48 (by omega), fun h49 e49 => ?_⟩
  have s49 := sc_A s48 e49
  have t49 := tg_A (i := n + 1 + 1 + 1 + 1 + 1 + 1 + 1 + 1 + 1 + 1 + 1 + 1 + 1 + 1 + 1 + 1 + 1 + 1 + 1 + 1 + 1 + 1 + 1 + 1) (t := 50) (m := 4096) (w := 4096) t48 (by omega)
  refine ⟨scT s49 t49, fun h50 e50 => ?_⟩
  have s50 := sc_R s49 (scX s48) e50
  have t50 := tg_w (c := 2) (i := o) (k := 31) (p := n + 1 + 1 + 1 + 1 + 1 + 1 + 1 + 1 + 1 + 1 + 1 + 1 + 1 + 1 + 1 + 1 + 1 + 1 + 1 + 1 + 1 + 1 + 1 + 1) t49
  refine ⟨scC s50 hb (by omega), scZ s50 (by omega), fun h51 e51 => ?_⟩
  have s51 := sc_A s50 e51
  have t51 := tg_A (i := n + 1 + 1 + 1 + 1 + 1 + 1 + 1 + 1 + 1 + 1 + 1 + 1 + 1 + 1 + 1 + 1 + 1 + 1 + 1 + 1 + 1 + 1 + 1 + 1 + 1) (t := 52) (m := 4096) (w := 4096) t50 (by omega)
  refine ⟨scT s51 t51, fun h52 e52 => ?_⟩
  have s52 := sc_R s51 (scX s50) e52
  have t52 := tg_w (c := 2) (i := o) (k := 33) (p := n + 1 + 1 + 1 + 1 + 1 + 1 + 1 + 1 + 1 + 1 + 1 + 1 + 1 + 1 + 1 + 1 + 1 + 1 + 1 + 1 + 1 + 1 + 1 + 1 + 1) t51
  refine ⟨scC s52 hb (by omega), scZ s52 (by omega), fun h53 e53 => ?_⟩
  have s53 := sc_A s52 e53
  have t53 := tg_A (i := n + 1 + 1 + 1 + 1 + 1 + 1 + 1 + 1 + 1 + 1 + 1 + 1 + 1 + 1 + 1 + 1 + 1 + 1 + 1 + 1 + 1 + 1 + 1 + 1 + 1 + 1) (t := 51) (m := 4096) (w := 4096) t52 (by omega)
  refine ⟨scT s53 t53, fun h54 e54 => ?_⟩
  have s54 := sc_R s53 (scX s52) e54
  have t54 := tg_w (c := 2) (i := o) (k := 34) (p := n + 1 + 1 + 1 + 1 + 1 + 1 + 1 + 1 + 1 + 1 + 1 + 1 + 1 + 1 + 1 + 1 + 1 + 1 + 1 + 1 + 1 + 1 + 1 + 1 + 1 + 1) t53
  exact ⟨scT s54 t54, sem_mono (k h54 (sce s54 (by omega) (by omega))) (fun v h' hk => hk)⟩
