abbrev Ro : Type := Nat × Nat × Nat
/-- the roles that there are -/
def okZ (r : Ro) : Bool :=
  if r.1 = 0 then r.2.1 == 0 && r.2.2 == 0 else
  if r.1 = 1 then r.2.1 == 0 && r.2.2 == 0 else
  if r.1 = 3 then r.2.1 == 0 && r.2.2 == 0 else
  if r.1 = 4 then r.2.1 == 0 && r.2.2 == 0 else
  if r.1 = 5 then r.2.1 == 0 && r.2.2 == 0 else
  if r.1 = 6 then r.2.1 == 0 && r.2.2 == 0 else
  if r.1 = 7 then r.2.1 == 0 && r.2.2 == 0 else
  if r.1 = 8 then r.2.1 == 0 && r.2.2 == 0 else
  if r.1 = 40 then r.2.1 == 0 && r.2.2 == 0 else
  if r.1 = 10 then decide (r.2.1 < 14) && decide (r.2.2 < (if r.2.1 = 0 then 1 else if r.2.1 = 1 then 6 else 4)) else
  if r.1 = 11 then decide (r.2.1 < 14) && decide (r.2.2 < (if r.2.1 = 0 then 1 else if r.2.1 = 1 then 6 else 4)) else
  if r.1 = 12 then decide (r.2.1 < 14) && decide (r.2.2 < (if r.2.1 = 0 then 1 else if r.2.1 = 1 then 6 else 4)) else
  if r.1 = 13 then decide (r.2.1 < 14) && decide (r.2.2 < (if r.2.1 = 0 then 1 else if r.2.1 = 1 then 6 else 4)) else
  if r.1 = 20 then decide (r.2.1 < 12) && r.2.2 == 0 else
  if r.1 = 21 then decide (r.2.1 < 12) && r.2.2 == 0 else
  if r.1 = 22 then decide (r.2.1 < 12) && decide (r.2.2 < 3) else
  if r.1 = 23 then decide (r.2.1 < 12) && decide (r.2.2 < 3) else
  if r.1 = 24 then decide (r.2.1 < 12) && decide (r.2.2 < 3) else
  if r.1 = 30 then [3, 4, 5, 6, 7].contains r.2.1 && r.2.2 == 0 else
  if r.1 = 31 then [1, 7].contains r.2.1 && r.2.2 == 0 else
  if r.1 = 32 then [0, 1, 2].contains r.2.1 && r.2.2 == 0 else
  if r.1 = 33 then [0, 3, 4, 5, 6, 7, 8].contains r.2.1 && r.2.2 == 0 else
  if r.1 = 34 then [2, 3, 4, 5, 6, 7, 8, 9, 10, 12, 13, 14, 15, 16, 17].contains r.2.1 && r.2.2 == 0 else
  if r.1 = 35 then [0, 1].contains r.2.1 && r.2.2 == 0 else
  if r.1 = 41 then [1, 4, 5, 6, 7, 8, 10, 11, 14, 15, 16, 17, 18, 19, 20, 21, 22, 23, 24, 25, 27, 28, 29, 30, 31, 33, 34].contains r.2.1 && r.2.2 == 0 else false
/-- their kinds -/
def tgR (r : Ro) : Nat :=
  if r.1 = 0 then 1 else
  if r.1 = 1 then 2 else
  if r.1 = 3 then 6 else
  if r.1 = 4 then 7 else
  if r.1 = 5 then 8 else
  if r.1 = 6 then 9 else
  if r.1 = 7 then 10 else
  if r.1 = 8 then 11 else
  if r.1 = 10 then 5 else
  if r.1 = 20 then 3 else
  if r.1 = 22 then 4 else
  if r.1 = 40 then 12 else
  if r.1 = 11 then 50 else
  if r.1 = 12 then 50 else
  if r.1 = 13 then 50 else
  if r.1 = 21 then 54 else
  if r.1 = 23 then 50 else
  if r.1 = 24 then 50 else
  if r.1 = 30 then (if r.2.1 = 5 then 53 else 50) else
  if r.1 = 31 then (if r.2.1 = 1 then 55 else if r.2.1 = 7 then 51 else 50) else
  if r.1 = 32 then (if r.2.1 = 1 then 52 else 50) else
  if r.1 = 33 then (if r.2.1 = 0 then 51 else if r.2.1 = 6 then 52 else if r.2.1 = 7 then 51 else 50) else
  if r.1 = 34 then (if r.2.1 = 17 then 52 else 50) else
  if r.1 = 35 then (if r.2.1 = 0 then 51 else 50) else
  if r.1 = 41 then (if r.2.1 = 15 then 51 else if r.2.1 = 25 then 51 else if r.2.1 = 29 then 52 else if r.2.1 = 33 then 52 else if r.2.1 = 34 then 51 else 50) else 0
def okR (r : Ro) : Bool := okZ r && tgR r != 0
/-- what they refer to -/
def rtR (r : Ro) (k : Nat) : Option Ro :=
  if r.1 = 0 then (if k = 0 then some (1, 0, 0) else if k = 1 then some (10, 0, 0) else if k = 2 then some (3, 0, 0) else if k = 3 then some (4, 0, 0) else if k = 4 then some (5, 0, 0) else if k = 5 then some (6, 0, 0) else if k = 6 then some (7, 0, 0) else if k = 7 then some (8, 0, 0) else none) else
  if r.1 = 1 then (if [3, 4, 5, 6, 7].contains k then some (30, k, 0) else none) else
  if r.1 = 3 then (if [1, 7].contains k then some (31, k, 0) else none) else
  if r.1 = 5 then (if [0, 1, 2].contains k then some (32, k, 0) else none) else
  if r.1 = 6 then (if [0, 3, 4, 5, 6, 7, 8].contains k then some (33, k, 0) else none) else
  if r.1 = 7 then (if [2, 3, 4, 5, 6, 7, 8, 9, 10, 12, 13, 14, 15, 16, 17].contains k then some (34, k, 0) else none) else
  if r.1 = 8 then (if [0, 1].contains k then some (35, k, 0) else none) else
  if r.1 = 40 then (if [1, 4, 5, 6, 7, 8, 10, 11, 14, 15, 16, 17, 18, 19, 20, 21, 22, 23, 24, 25, 27, 28, 29, 30, 31, 33, 34].contains k then some (41, k, 0) else none) else
  if r.1 = 10 then (if k = 1 then some (11, r.2.1, r.2.2) else if k = 2 then some (12, r.2.1, r.2.2) else if k = 3 then some (13, r.2.1, r.2.2) else none) else
  if r.1 = 20 then (if k = 0 then some (10, r.2.1 + 2, 0) else if k = 1 then some (21, r.2.1, 0) else none) else
  if r.1 = 21 then (if k < 3 then some (22, r.2.1, k) else none) else
  if r.1 = 22 then (if k = 0 then some (10, r.2.1 + 2, r.2.2 + 1) else if k = 1 then some (23, r.2.1, r.2.2) else if k = 2 then some (24, r.2.1, r.2.2) else none) else
  if r.1 = 30 then (if r.2.1 = 5 then (if k < 12 then some (20, k, 0) else none) else none) else
  if r.1 = 31 then (if r.2.1 = 1 then (if k < 6 then some (10, 1, k) else none) else none) else none
/-- the lengths that never change -/
def lenR (r : Ro) : Option Nat :=
  if r.1 = 11 then some 4 else
  if r.1 = 12 then some 4 else
  if r.1 = 13 then some 4 else
  if r.1 = 21 then some 3 else
  if r.1 = 30 then (if r.2.1 = 3 then some 8 else if r.2.1 = 4 then some 8 else if r.2.1 = 5 then some 12 else none) else
  if r.1 = 31 then (if r.2.1 = 1 then some 6 else none) else
  if r.1 = 33 then (if r.2.1 = 6 then some 4 else none) else
  if r.1 = 41 then (if r.2.1 = 1 then some 8 else if r.2.1 = 4 then some 12 else if r.2.1 = 5 then some 19 else if r.2.1 = 6 then some 228 else if r.2.1 = 7 then some 36 else if r.2.1 = 8 then some 432 else if r.2.1 = 10 then some 8 else if r.2.1 = 11 then some 8 else if r.2.1 = 14 then some 147456 else if r.2.1 = 15 then some 4096 else if r.2.1 = 16 then some 4096 else if r.2.1 = 17 then some 147456 else if r.2.1 = 18 then some 147456 else if r.2.1 = 19 then some 4096 else if r.2.1 = 20 then some 4096 else if r.2.1 = 21 then some 4096 else if r.2.1 = 22 then some 4096 else if r.2.1 = 23 then some 4096 else if r.2.1 = 24 then some 49152 else if r.2.1 = 25 then some 4096 else if r.2.1 = 27 then some 4096 else if r.2.1 = 28 then some 4096 else if r.2.1 = 29 then some 4096 else if r.2.1 = 30 then some 8192 else if r.2.1 = 31 then some 4096 else if r.2.1 = 33 then some 4096 else if r.2.1 = 34 then some 4096 else none) else none
/-- the rows that grow -/
def dynL : List Ro := [(23, 0, 0), (23, 0, 1), (23, 0, 2), (23, 1, 0), (23, 1, 1), (23, 1, 2), (23, 2, 0), (23, 2, 1), (23, 2, 2), (23, 3, 0), (23, 3, 1), (23, 3, 2), (23, 4, 0), (23, 4, 1), (23, 4, 2), (23, 5, 0), (23, 5, 1), (23, 5, 2), (23, 6, 0), (23, 6, 1), (23, 6, 2), (23, 7, 0), (23, 7, 1), (23, 7, 2), (23, 8, 0), (23, 8, 1), (23, 8, 2), (23, 9, 0), (23, 9, 1), (23, 9, 2), (23, 10, 0), (23, 10, 1), (23, 10, 2), (23, 11, 0), (23, 11, 1), (23, 11, 2), (24, 0, 0), (24, 0, 1), (24, 0, 2), (24, 1, 0), (24, 1, 1), (24, 1, 2), (24, 2, 0), (24, 2, 1), (24, 2, 2), (24, 3, 0), (24, 3, 1), (24, 3, 2), (24, 4, 0), (24, 4, 1), (24, 4, 2), (24, 5, 0), (24, 5, 1), (24, 5, 2), (24, 6, 0), (24, 6, 1), (24, 6, 2), (24, 7, 0), (24, 7, 1), (24, 7, 2), (24, 8, 0), (24, 8, 1), (24, 8, 2), (24, 9, 0), (24, 9, 1), (24, 9, 2), (24, 10, 0), (24, 10, 1), (24, 10, 2), (24, 11, 0), (24, 11, 1), (24, 11, 2), (30, 6, 0), (30, 7, 0), (31, 7, 0), (32, 0, 0), (32, 1, 0), (32, 2, 0), (33, 0, 0), (33, 3, 0), (33, 4, 0), (33, 5, 0), (33, 7, 0), (33, 8, 0), (34, 2, 0), (34, 3, 0), (34, 4, 0), (34, 5, 0), (34, 6, 0), (34, 7, 0), (34, 8, 0), (34, 9, 0), (34, 10, 0), (34, 12, 0), (34, 13, 0), (34, 14, 0), (34, 15, 0), (34, 16, 0), (34, 17, 0), (35, 0, 0), (35, 1, 0)]
def isDyn (r : Ro) : Bool := r.1 == 23 || r.1 == 24 || (r.1 == 30 && (r.2.1 == 6 || r.2.1 == 7)) || (r.1 == 31 && r.2.1 == 7) || r.1 == 32 || (r.1 == 33 && r.2.1 != 6) || r.1 == 34 || r.1 == 35
/-! THE STORE BY ROLES: lengths, ints, longs -/
abbrev Rs : Type := (Ro → Nat) × (Ro → Nat → Int32) × (Ro → Nat → Int64)
def nR (ρ : Rs) : Ro → Nat := ρ.1
def iR (ρ : Rs) : Ro → Nat → Int32 := ρ.2.1
def lR (ρ : Rs) : Ro → Nat → Int64 := ρ.2.2
def upR {α : Type} (f : Ro → α) (r : Ro) (v : α) : Ro → α := fun q => if q = r then v else f q
def uI (ρ : Rs) (r : Ro) (f : Nat → Int32) : Rs := (nR ρ, upR (iR ρ) r f, lR ρ)
def uL (ρ : Rs) (r : Ro) (f : Nat → Int64) : Rs := (nR ρ, iR ρ, upR (lR ρ) r f)
/-- one place -/
def pI (ρ : Rs) (r : Ro) (k : Nat) (x : Int32) : Rs := uI ρ r (va_up (iR ρ r) k x)
def pL (ρ : Rs) (r : Ro) (k : Nat) (x : Int64) : Rs := uL ρ r (va_up (lR ρ r) k x)
/-- a row made anew -/
def uN (ρ : Rs) (r : Ro) (n : Nat) : Rs := (upR (nR ρ) r n, upR (iR ρ) r (fun _ => 0), upR (lR ρ) r (fun _ => 0))
/-- how often a row of length n may still grow -/
def rmg (n : Nat) : Nat := if n < 8 then 4 else if n < 64 then 3 else if n < 512 then 2 else if n < 4096 then 1 else 0
def potR (ρ : Rs) : Nat := (dynL.map (fun r => rmg (nR ρ r))).sum
/-- THE PICTURE: the store h holds ρ, each role at its address -/
def Vw (G : Gc) (ad : Ro → Nat) (h : Hp) (ρ : Rs) : Prop :=
  hok (gB G) h ∧ (∀ r q, okR r = true → okR q = true → ad r = ad q → r = q) ∧
  (∀ r, okR r = true → kT h (ad r) = tgR r ∧ kN h (ad r) = nR ρ r ∧ kI h (ad r) = iR ρ r ∧ kL h (ad r) = lR ρ r ∧ kR h (ad r) = fun k => (rtR r k).map ad) ∧
  (∀ r, okR r = true → (∀ n, lenR r = some n → nR ρ r = n) ∧ nR ρ r < 1048576) ∧ kX h + potR ρ ≤ gB G + capC ∧ kS h + 8192 * potR ρ ≤ capS
section VW
variable {G : Gc} {ad : Ro → Nat} {h : Hp} {ρ : Rs}
theorem vT (V : Vw G ad h ρ) {r : Ro} (hr : okR r = true) : kT h (ad r) = tgR r := (V.2.2.1 r hr).1
theorem vN (V : Vw G ad h ρ) {r : Ro} (hr : okR r = true) : kN h (ad r) = nR ρ r := (V.2.2.1 r hr).2.1
theorem vI (V : Vw G ad h ρ) {r : Ro} (hr : okR r = true) : kI h (ad r) = iR ρ r := (V.2.2.1 r hr).2.2.1
theorem vL (V : Vw G ad h ρ) {r : Ro} (hr : okR r = true) : kL h (ad r) = lR ρ r := (V.2.2.1 r hr).2.2.2.1
theorem vR (V : Vw G ad h ρ) {r : Ro} (hr : okR r = true) (k : Nat) : kR h (ad r) k = (rtR r k).map ad := by rw [(V.2.2.1 r hr).2.2.2.2]
theorem vlen (V : Vw G ad h ρ) {r : Ro} {n : Nat} (hr : okR r = true) (hn : lenR r = some n) : nR ρ r = n := (V.2.2.2.1 r hr).1 n hn
theorem v_n (V : Vw G ad h ρ) {r : Ro} (hr : okR r = true) : nR ρ r < 1048576 := (V.2.2.2.1 r hr).2
theorem uR_s {α : Type} {f : Ro → α} {r : Ro} {v : α} : upR f r v r = v := by simp [upR]
theorem uR_n {α : Type} {f : Ro → α} {r q : Ro} {v : α} (hq : q ≠ r) : upR f r v q = f q := by simp [upR, hq]
theorem tg_ne {r : Ro} (hr : okR r = true) : tgR r ≠ 0 := by
  unfold okR at hr
  simp only [Bool.and_eq_true, bne_iff_ne, ne_eq] at hr
  exact hr.2
theorem v_lt (V : Vw G ad h ρ) {r : Ro} (hr : okR r = true) : gB G ≤ ad r ∧ ad r < kX h := V.1.2.2.2 _ (by rw [vT V hr]; exact tg_ne hr)
/-- a row of ints is written -/
theorem V_uI (V : Vw G ad h ρ) {r : Ro} (hr : okR r = true) (f : Nat → Int32) : Vw G ad (wIs h (ad r) f) (uI ρ r f) := by
  refine ⟨hok_keep V.1 rfl rfl rfl, V.2.1, fun q hq => ?_, V.2.2.2.1, V.2.2.2.2.1, V.2.2.2.2.2⟩
  obtain ⟨a1, a2, a3, a4, a5⟩ := V.2.2.1 q hq
  refine ⟨a1, a2, ?_, a4, a5⟩
  by_cases e : q = r
  · subst e
    show va_up (kI h) (ad q) f (ad q) = upR (iR ρ) q f q
    rw [ups, uR_s]
  · show va_up (kI h) (ad r) f (ad q) = upR (iR ρ) r f q
    rw [upn (fun z => e (V.2.1 q r hq hr z)), uR_n e]
    exact a3
theorem V_uL (V : Vw G ad h ρ) {r : Ro} (hr : okR r = true) (f : Nat → Int64) : Vw G ad (wLs h (ad r) f) (uL ρ r f) := by
  refine ⟨hok_keep V.1 rfl rfl rfl, V.2.1, fun q hq => ?_, V.2.2.2.1, V.2.2.2.2.1, V.2.2.2.2.2⟩
  obtain ⟨a1, a2, a3, a4, a5⟩ := V.2.2.1 q hq
  refine ⟨a1, a2, a3, ?_, a5⟩
  by_cases e : q = r
  · subst e
    show va_up (kL h) (ad q) f (ad q) = upR (lR ρ) q f q
    rw [ups, uR_s]
  · show va_up (kL h) (ad r) f (ad q) = upR (lR ρ) r f q
    rw [upn (fun z => e (V.2.1 q r hq hr z)), uR_n e]
    exact a4
theorem V_pI (V : Vw G ad h ρ) {r : Ro} (hr : okR r = true) (k : Nat) (x : Int32) : Vw G ad (wI h (ad r) k x) (pI ρ r k x) := by
  have := V_uI V hr (va_up (kI h (ad r)) k x)
  rw [show pI ρ r k x = uI ρ r (va_up (kI h (ad r)) k x) by unfold pI; rw [vI V hr]]
  exact this
theorem V_pL (V : Vw G ad h ρ) {r : Ro} (hr : okR r = true) (k : Nat) (x : Int64) : Vw G ad (wL h (ad r) k x) (pL ρ r k x) := by
  have := V_uL V hr (va_up (kL h (ad r)) k x)
  rw [show pL ρ r k x = uL ρ r (va_up (kL h (ad r)) k x) by unfold pL; rw [vL V hr]]
  exact this
/-- a reference is written that stood there already -/
theorem V_same (V : Vw G ad h ρ) {o r : Ro} {k : Nat} (ho : okR o = true) (hk : rtR o k = some r) : Vw G ad (wR h (ad o) k (some (ad r))) ρ := by
  refine ⟨hok_keep V.1 rfl rfl rfl, V.2.1, fun q hq => ?_, V.2.2.2.1, V.2.2.2.2.1, V.2.2.2.2.2⟩
  obtain ⟨a1, a2, a3, a4, a5⟩ := V.2.2.1 q hq
  refine ⟨a1, a2, a3, a4, ?_⟩
  by_cases e : q = o
  · subst e
    show va_up (kR h) (ad q) (va_up (kR h (ad q)) k (some (ad r))) (ad q) = _
    rw [ups, a5]
    funext j
    by_cases ej : j = k
    · subst ej
      rw [ups, hk]
      rfl
    · rw [upn ej]
  · show va_up (kR h) (ad o) _ (ad q) = _
    rw [upn (fun z => e (V.2.1 q o hq ho z))]
    exact a5
/-- symbolic roles -/
theorem ok_ac {a : Nat} (ha : a < 12) : okR (20, a, 0) = true := by simp [okR, okZ, tgR, ha]
theorem ok_oa {a : Nat} (ha : a < 12) : okR (21, a, 0) = true := by simp [okR, okZ, tgR, ha]
theorem ok_ou {a k : Nat} (ha : a < 12) (hk : k < 3) : okR (22, a, k) = true := by simp [okR, okZ, tgR, ha, hk]
theorem ok_to {a k : Nat} (ha : a < 12) (hk : k < 3) : okR (23, a, k) = true := by simp [okR, okZ, tgR, ha, hk]
theorem ok_nx {a k : Nat} (ha : a < 12) (hk : k < 3) : okR (24, a, k) = true := by simp [okR, okZ, tgR, ha, hk]
/-- which clauses there are: the aim's, a part's, an act's conditions, an outcome's effects -/
def okC (i j : Nat) : Prop := i < 14 ∧ j < (if i = 0 then 1 else if i = 1 then 6 else 4)
theorem ok_cl {i j : Nat} (h : okC i j) : okR (10, i, j) = true := by simp [okR, okZ, tgR, h.1, h.2]
theorem ok_c1 {i j : Nat} (h : okC i j) : okR (11, i, j) = true := by simp [okR, okZ, tgR, h.1, h.2]
theorem ok_c2 {i j : Nat} (h : okC i j) : okR (12, i, j) = true := by simp [okR, okZ, tgR, h.1, h.2]
theorem ok_c3 {i j : Nat} (h : okC i j) : okR (13, i, j) = true := by simp [okR, okZ, tgR, h.1, h.2]
theorem okC_ac {a : Nat} (ha : a < 12) : okC (a + 2) 0 := ⟨by omega, by rw [if_neg (by omega), if_neg (by omega)]; omega⟩
theorem okC_ou {a k : Nat} (ha : a < 12) (hk : k < 3) : okC (a + 2) (k + 1) := ⟨by omega, by rw [if_neg (by omega), if_neg (by omega)]; omega⟩
theorem okC_pa {p : Nat} (hp : p < 6) : okC 1 p := ⟨by omega, by rw [if_neg (by omega), if_pos rfl]; omega⟩
theorem okC_0 : okC 0 0 := ⟨by omega, by decide⟩
end VW
