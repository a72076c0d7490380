/-! rows that grow -/
def roomN (m : Nat) : Nat := if m ≤ 8 then 8 else if m ≤ 64 then 64 else if m ≤ 512 then 512 else 4096
theorem roomN_ge {m : Nat} (h : m ≤ 4096) : m ≤ roomN m := by unfold roomN; split <;> (try split) <;> (try split) <;> omega
theorem roomN_le (m : Nat) : roomN m ≤ 4096 := by unfold roomN; split <;> (try split) <;> (try split) <;> omega
theorem roomN_rmg {m n : Nat} (h : n < m) (hm : m ≤ 4096) : rmg (roomN m) + 1 ≤ rmg n := by
  unfold rmg roomN
  repeat' split
  all_goals omega
theorem sum_lt {L : List Ro} {f g : Ro → Nat} {r : Ro} (hr : r ∈ L) (hs : f r + 1 ≤ g r) (hle : ∀ q, f q ≤ g q) : (L.map f).sum + 1 ≤ (L.map g).sum := by
  have hle2 : ∀ L : List Ro, (L.map f).sum ≤ (L.map g).sum := by
    intro L
    induction L with
    | nil => exact Nat.le_refl _
    | cons a l ih => simp only [List.map_cons, List.sum_cons]; have := hle a; omega
  induction L with
  | nil => cases hr
  | cons a l ih =>
    simp only [List.map_cons, List.sum_cons]
    rcases List.mem_cons.mp hr with e | e
    · subst e
      have := hle2 l
      omega
    · have := ih e
      have := hle a
      omega
section GR
variable {G : Gc} {ad : Ro → Nat} {h : Hp} {ρ : Rs}
theorem pot_grow {r : Ro} {n : Nat} (hr : r ∈ dynL) (hg : rmg n + 1 ≤ rmg (nR ρ r)) : potR (uN ρ r n) + 1 ≤ potR ρ := by
  refine sum_lt (r := r) hr ?_ (fun q => ?_)
  · show rmg (upR (nR ρ) r n r) + 1 ≤ _
    rw [uR_s]; exact hg
  · show rmg (upR (nR ρ) r n q) ≤ _
    by_cases e : q = r
    · subst e
      rw [uR_s]; omega
    · rw [uR_n e]; exact Nat.le_refl _
/-- the owner of a row that grows -/
def ow (r : Ro) : Ro × Nat := if r.1 = 23 then ((22, r.2.1, r.2.2), 1) else if r.1 = 24 then ((22, r.2.1, r.2.2), 2) else if r.1 = 30 then ((1, 0, 0), r.2.1) else if r.1 = 31 then ((3, 0, 0), r.2.1) else if r.1 = 32 then ((5, 0, 0), r.2.1) else if r.1 = 33 then ((6, 0, 0), r.2.1) else if r.1 = 34 then ((7, 0, 0), r.2.1) else ((8, 0, 0), r.2.1)
theorem own_is {o r : Ro} {k : Nat} (hd : isDyn r = true) (h1 : rtR o k = some r) (ho : okR o = true) : ow r = (o, k) := by
  obtain ⟨a, b, c⟩ := o
  unfold rtR at h1
  dsimp only at h1
  by_cases e0 : a = 0
  · subst e0
    rw [if_pos rfl] at h1
    (repeat' split at h1) <;> first | (cases h1; simp [isDyn] at hd; done) | (cases h1; done)
  rw [if_neg e0] at h1
  by_cases e1 : a = 1
  · subst e1
    rw [if_pos rfl] at h1
    have hb : b = 0 ∧ c = 0 := by simpa [okR, okZ, tgR] using ho
    obtain ⟨rfl, rfl⟩ := hb
    split at h1 <;> first | (cases h1; simp [ow]; done) | (cases h1; done)
  rw [if_neg e1] at h1
  by_cases e3 : a = 3
  · subst e3
    rw [if_pos rfl] at h1
    have hb : b = 0 ∧ c = 0 := by simpa [okR, okZ, tgR] using ho
    obtain ⟨rfl, rfl⟩ := hb
    split at h1 <;> first | (cases h1; simp [ow]; done) | (cases h1; done)
  rw [if_neg e3] at h1
  by_cases e5 : a = 5
  · subst e5
    rw [if_pos rfl] at h1
    have hb : b = 0 ∧ c = 0 := by simpa [okR, okZ, tgR] using ho
    obtain ⟨rfl, rfl⟩ := hb
    split at h1 <;> first | (cases h1; simp [ow]; done) | (cases h1; done)
  rw [if_neg e5] at h1
  by_cases e6 : a = 6
  · subst e6
    rw [if_pos rfl] at h1
    have hb : b = 0 ∧ c = 0 := by simpa [okR, okZ, tgR] using ho
    obtain ⟨rfl, rfl⟩ := hb
    split at h1 <;> first | (cases h1; simp [ow]; done) | (cases h1; done)
  rw [if_neg e6] at h1
  by_cases e7 : a = 7
  · subst e7
    rw [if_pos rfl] at h1
    have hb : b = 0 ∧ c = 0 := by simpa [okR, okZ, tgR] using ho
    obtain ⟨rfl, rfl⟩ := hb
    split at h1 <;> first | (cases h1; simp [ow]; done) | (cases h1; done)
  rw [if_neg e7] at h1
  by_cases e8 : a = 8
  · subst e8
    rw [if_pos rfl] at h1
    have hb : b = 0 ∧ c = 0 := by simpa [okR, okZ, tgR] using ho
    obtain ⟨rfl, rfl⟩ := hb
    split at h1 <;> first | (cases h1; simp [ow]; done) | (cases h1; done)
  rw [if_neg e8] at h1
  by_cases e40 : a = 40
  · subst e40
    rw [if_pos rfl] at h1
    (repeat' split at h1) <;> first | (cases h1; simp [isDyn] at hd; done) | (cases h1; done)
  rw [if_neg e40] at h1
  by_cases e10 : a = 10
  · subst e10
    rw [if_pos rfl] at h1
    (repeat' split at h1) <;> first | (cases h1; simp [isDyn] at hd; done) | (cases h1; done)
  rw [if_neg e10] at h1
  by_cases e20 : a = 20
  · subst e20
    rw [if_pos rfl] at h1
    (repeat' split at h1) <;> first | (cases h1; simp [isDyn] at hd; done) | (cases h1; done)
  rw [if_neg e20] at h1
  by_cases e21 : a = 21
  · subst e21
    rw [if_pos rfl] at h1
    (repeat' split at h1) <;> first | (cases h1; simp [isDyn] at hd; done) | (cases h1; done)
  rw [if_neg e21] at h1
  by_cases e22 : a = 22
  · subst e22
    rw [if_pos rfl] at h1
    (repeat' split at h1) <;> first | (cases h1; simp [isDyn] at hd; done) | (cases h1; simp [ow]; try omega; done) | (cases h1; rename_i q1 q2; simp [ow]; done) | (cases h1; done)
  rw [if_neg e22] at h1
  by_cases e30 : a = 30
  · subst e30
    rw [if_pos rfl] at h1
    (repeat' split at h1) <;> first | (cases h1; simp [isDyn] at hd; done) | (cases h1; done)
  rw [if_neg e30] at h1
  by_cases e31 : a = 31
  · subst e31
    rw [if_pos rfl] at h1
    (repeat' split at h1) <;> first | (cases h1; simp [isDyn] at hd; done) | (cases h1; done)
  rw [if_neg e31] at h1
  cases h1
theorem own_uni {o o' r : Ro} {k k' : Nat} (hd : isDyn r = true) (h1 : rtR o k = some r) (h2 : rtR o' k' = some r) (ho : okR o = true) (ho' : okR o' = true) : o' = o ∧ k' = k := by
  have e := (own_is hd h2 ho').symm.trans (own_is hd h1 ho)
  exact ⟨congrArg Prod.fst e, congrArg Prod.snd e⟩
/-- rows that grow refer to nothing, have no fixed length, are of ints, booleans or longs -/
theorem dyn_none {r : Ro} (hd : isDyn r = true) (j : Nat) : rtR r j = none := by
  obtain ⟨x, y, z⟩ := r
  simp only [isDyn, Bool.or_eq_true, Bool.and_eq_true, beq_iff_eq, bne_iff_ne, ne_eq] at hd
  rcases hd with ((((((h | h) | ⟨h, h2⟩) | ⟨h, h2⟩) | h) | ⟨h, h2⟩) | h) | h <;> subst h <;> simp [rtR] <;> omega
theorem dyn_len {r : Ro} (hd : isDyn r = true) : lenR r = none := by
  obtain ⟨x, y, z⟩ := r
  simp only [isDyn, Bool.or_eq_true, Bool.and_eq_true, beq_iff_eq, bne_iff_ne, ne_eq] at hd
  rcases hd with ((((((h | h) | ⟨h, h2⟩) | ⟨h, h2⟩) | h) | ⟨h, h2⟩) | h) | h <;> subst h <;> first | (simp [lenR]; done) | (rcases h2 with h2 | h2 <;> subst h2 <;> simp [lenR]; done) | (subst h2; simp [lenR]; done) | (simp [lenR, h2]; done)
/-- A ROW MADE ANEW and put where the old one stood -/
theorem V_grow (V : Vw G ad h ρ) {o r : Ro} {k n : Nat} (ho : okR o = true) (hr : okR r = true) (hd : isDyn r = true) (hL : r ∈ dynL) (hk : rtR o k = some r) (hn : n ≤ 8192) (hg : rmg n + 1 ≤ rmg (nR ρ r)) : Vw G (upR ad r (kX h)) (wR (wA h (tgR r) n n) (ad o) k (some (kX h))) (uN ρ r n) := by
  have hp := pot_grow hL hg
  have p1 := V.2.2.2.2.1
  have p2 := V.2.2.2.2.2
  have lt : ∀ q, okR q = true → ad q ≠ kX h := fun q hq => Nat.ne_of_lt (v_lt V hq).2
  have hor : o ≠ r := by
    intro e
    rw [e, dyn_none hd k] at hk
    cases hk
  have h0 : hok (gB G) (wA h (tgR r) n n) := hok_wA V.1 (by omega) (by omega)
  refine ⟨hok_keep h0 rfl rfl rfl, fun q1 q2 h1 h2 e => ?_, fun q hq => ?_, fun q hq => ?_, ?_, ?_⟩
  · by_cases e1 : q1 = r
    · by_cases e2 : q2 = r
      · rw [e1, e2]
      · rw [e1, uR_s, uR_n e2] at e
        exact absurd e.symm (lt q2 h2)
    · by_cases e2 : q2 = r
      · rw [e2, uR_s, uR_n e1] at e
        exact absurd e (lt q1 h1)
      · rw [uR_n e1, uR_n e2] at e
        exact V.2.1 q1 q2 h1 h2 e
  · by_cases e : q = r
    · subst e
      rw [uR_s]
      have hne : kX h ≠ ad o := fun z => lt o ho z.symm
      refine ⟨by show va_up (kT h) (kX h) (tgR q) (kX h) = _; rw [ups], by show va_up (kN h) (kX h) n (kX h) = upR (nR ρ) q n q; rw [ups, uR_s], by show va_up (kI h) (kX h) (fun _ => 0) (kX h) = upR (iR ρ) q (fun _ => 0) q; rw [ups, uR_s], by show va_up (kL h) (kX h) (fun _ => 0) (kX h) = upR (lR ρ) q (fun _ => 0) q; rw [ups, uR_s], ?_⟩
      show va_up (kR (wA h (tgR q) n n)) (ad o) _ (kX h) = _
      rw [upn hne]
      show va_up (kR h) (kX h) (fun _ => none) (kX h) = _
      rw [ups]
      funext j
      rw [dyn_none hd j]
      rfl
    · obtain ⟨a1, a2, a3, a4, a5⟩ := V.2.2.1 q hq
      have hx := lt q hq
      rw [uR_n e]
      refine ⟨by show va_up (kT h) (kX h) (tgR r) (ad q) = _; rw [upn hx]; exact a1, by show va_up (kN h) (kX h) n (ad q) = upR (nR ρ) r n q; rw [upn hx, uR_n e]; exact a2, by show va_up (kI h) (kX h) _ (ad q) = upR (iR ρ) r _ q; rw [upn hx, uR_n e]; exact a3, by show va_up (kL h) (kX h) _ (ad q) = upR (lR ρ) r _ q; rw [upn hx, uR_n e]; exact a4, ?_⟩
      have hmap : ∀ j, (q ≠ o ∨ j ≠ k) → (rtR q j).map (upR ad r (kX h)) = (rtR q j).map ad := by
        intro j hj
        cases hq2 : rtR q j with
        | none => rfl
        | some q2 =>
          have : q2 ≠ r := by
            intro z
            subst z
            have := own_uni hd hk hq2 ho hq
            rcases hj with hj | hj
            · exact hj this.1
            · exact hj this.2
          show some (upR ad r (kX h) q2) = some (ad q2)
          rw [uR_n this]
      by_cases eo : q = o
      · subst eo
        show va_up (kR (wA h (tgR r) n n)) (ad q) (va_up (kR (wA h (tgR r) n n) (ad q)) k (some (kX h))) (ad q) = _
        rw [ups]
        have e3 : kR (wA h (tgR r) n n) (ad q) = kR h (ad q) := by show va_up (kR h) (kX h) _ (ad q) = _; rw [upn hx]
        rw [e3, a5]
        funext j
        by_cases ej : j = k
        · subst ej
          rw [ups, hk]
          show some (kX h) = some (upR ad r (kX h) r)
          rw [uR_s]
        · rw [upn ej, hmap j (Or.inr ej)]
      · show va_up (kR (wA h (tgR r) n n)) (ad o) _ (ad q) = _
        rw [upn (fun z => eo (V.2.1 q o hq ho z))]
        show va_up (kR h) (kX h) _ (ad q) = _
        rw [upn hx, a5]
        funext j
        rw [hmap j (Or.inl eo)]
  · by_cases e : q = r
    · subst e
      refine ⟨fun m hm => ?_, ?_⟩
      · rw [dyn_len hd] at hm
        cases hm
      · show upR (nR ρ) q n q < _
        rw [uR_s]; omega
    · show (∀ m, _ → upR (nR ρ) r n q = m) ∧ upR (nR ρ) r n q < _
      rw [uR_n e]
      exact V.2.2.2.1 q hq
  · show kX h + 1 + _ ≤ _
    omega
  · show kS h + n + _ ≤ _
    omega
end GR
/-! the three static helpers that make rows -/
section GM
variable {G : Gc} {h : Hp} {K : Option Value → Hp → Prop}
theorem c_roomFor (hG : gok G) {m : Nat} (hm : m ≤ 4096) (k : K (some (.int (nI (roomN m)))) h) : sem G r_WP_roomFor [.int (nI m)] h K := by
  refine sem_intro yk_WP_roomFor.2.2.2.2 (Nat.le_of_ble_eq_true rfl) (fun M Q hM => ?_)
  refine S_WP_roomFor_0 hG hM _ h ?_
  have key : ∀ (d i room : Nat), i + d = 3 → room = 8 ^ (i + 1) → (room < m ∨ room = roomN m) → X G M Q 5 [(0, .int (nI m)), (1, .int (nI room)), (2, .int (nI i))] [] h := by
    intro d
    induction d with
    | zero =>
      intro i room hi hr hx
      have hi : i = 3 := by omega
      subst hi
      refine S_WP_roomFor_5 hG hM _ _ _ h ⟨fun _ => ?_, fun q => absurd (by decide) q⟩
      rcases hx with hx | hx
      · rw [hr] at hx; omega
      · rw [hx]; exact k
    | succ d ih =>
      intro i room hi hr hx
      have hi3 : i < 3 := by omega
      have hrm : room ≤ 512 := by
        rw [hr]
        rcases (show i = 0 ∨ i = 1 ∨ i = 2 by omega) with e | e | e <;> subst e <;> decide
      refine S_WP_roomFor_5 hG hM _ _ _ h ⟨fun q => ?_, fun _ => ⟨fun q => ?_, fun q => ?_⟩⟩
      · exact absurd ((nI_leI (a := 3) (b := i) (by decide) (by omega)).mp q) (by omega)
      · have hle := (nI_leI (by omega) (by omega)).mp q
        rcases hx with hx | hx
        · omega
        · rw [hx]; exact k
      · have hlt : room < m := Nat.not_le.mp fun z => q ((nI_leI (by omega) (by omega)).mpr z)
        have e1 : nI room * 8 = nI (room * 8) := pk_mul room 8
        rw [e1, nI_1]
        refine ih (i + 1) (room * 8) (by omega) (by rw [hr, Nat.pow_succ 8 (i + 1)]) ?_
        by_cases hc : room * 8 < m
        · exact Or.inl hc
        · right
          rw [hr] at hlt hc ⊢
          rcases (show i = 0 ∨ i = 1 ∨ i = 2 by omega) with e | e | e <;> subst e <;> simp only [roomN] <;> simp at hlt hc ⊢ <;> (repeat' split) <;> omega
  exact key 3 0 8 rfl rfl (by unfold roomN; split <;> omega)
theorem c_rowFor (hG : gok G) {a m : Nat} (hm : m ≤ 4096) (ht : kT h a = 50) (hn : kN h a < 2 ^ 31) (cc : kN h a < m → kX h + 1 ≤ gB G + capC ∧ kS h + 8192 ≤ capS) (k1 : m ≤ kN h a → K (some (.ref a)) h) (k2 : kN h a < m → K (some (.ref (kX h))) (wA h 50 (roomN m) (roomN m))) : sem G r_WP_rowFor [.ref a, .int (nI m)] h K := by
  refine sem_intro yk_WP_rowFor.2.2.2.2 (Nat.le_of_ble_eq_true rfl) (fun M Q hM => ?_)
  have hrl := roomN_le m
  refine S_WP_rowFor_0 hG hM _ _ h ⟨ht, fun q => ?_, fun q => ?_⟩
  · have hlt := (nI_ltI hn (by omega)).mp q
    obtain ⟨c1, c2⟩ := cc hlt
    refine c_roomFor hG hm ⟨_, rfl, nI_pos (by omega), c1, ?_, fun h4 e4 => ?_⟩
    · rw [nI_clamp (by omega)]; omega
    · rw [nI_clamp (by omega)] at e4
      subst e4
      exact k2 hlt
  · exact k1 (Nat.not_lt.mp fun z => q ((nI_ltI hn (by omega)).mpr z))
theorem c_marksFor (hG : gok G) {a m : Nat} (hm : m ≤ 4096) (ht : kT h a = 51) (hn : kN h a < 2 ^ 31) (cc : kN h a < m → kX h + 1 ≤ gB G + capC ∧ kS h + 8192 ≤ capS) (k1 : m ≤ kN h a → K (some (.ref a)) h) (k2 : kN h a < m → K (some (.ref (kX h))) (wA h 51 (roomN m) (roomN m))) : sem G r_WP_marksFor [.ref a, .int (nI m)] h K := by
  refine sem_intro yk_WP_marksFor.2.2.2.2 (Nat.le_of_ble_eq_true rfl) (fun M Q hM => ?_)
  have hrl := roomN_le m
  refine S_WP_marksFor_0 hG hM _ _ h ⟨ht, fun q => ?_, fun q => ?_⟩
  · have hlt := (nI_ltI hn (by omega)).mp q
    obtain ⟨c1, c2⟩ := cc hlt
    refine c_roomFor hG hm ⟨_, rfl, nI_pos (by omega), c1, ?_, fun h4 e4 => ?_⟩
    · rw [nI_clamp (by omega)]; omega
    · rw [nI_clamp (by omega)] at e4
      subst e4
      exact k2 hlt
  · exact k1 (Nat.not_lt.mp fun z => q ((nI_ltI hn (by omega)).mpr z))
end GM
/-- a row that is long enough, or made anew -/
def rowR (ρ : Rs) (r : Ro) (m : Nat) : Rs := if m ≤ nR ρ r then ρ else uN ρ r (roomN m)
section GY
variable {G : Gc} {M : Mc} {r : Mr} {Q : State → Prop} {K : Option Value → Hp → Prop} {pc : Nat} {lv : List (Nat × Value)} {st : List Value} {h : Hp} {ad : Ro → Nat} {ρ : Rs}
theorem sum_ge {L : List Ro} {f : Ro → Nat} {r : Ro} (hr : r ∈ L) : f r ≤ (L.map f).sum := by
  induction L with
  | nil => cases hr
  | cons a l ih =>
    simp only [List.map_cons, List.sum_cons]
    rcases List.mem_cons.mp hr with e | e
    · subst e; omega
    · have := ih e; omega
theorem St_grow {q : Ro} {x : Nat} (hd : isDyn q = true) : St [q.1] ad (upR ad q x) := by
  intro r hr
  rcases hr with hr | hr
  · exact uR_n (fun e => by rw [e] at hr; simp at hr)
  · exact uR_n (fun e => by rw [e, hd] at hr; cases hr)
theorem V_room (V : Vw G ad h ρ) {q : Ro} (hL : q ∈ dynL) (hg : 1 ≤ rmg (nR ρ q)) : kX h + 1 ≤ gB G + capC ∧ kS h + 8192 ≤ capS := by
  have h1 : rmg (nR ρ q) ≤ potR ρ := sum_ge (f := fun r => rmg (nR ρ r)) hL
  have p1 := V.2.2.2.2.1
  have p2 := V.2.2.2.2.2
  exact ⟨by omega, by omega⟩
theorem y_row (hG : gok G) (hM : mok G M r Q K) (V : Vw G ad h ρ) {own host C : String} {ci N i i2 m k : Nat} {T : u_T} {ty : Nat → FieldType} {x : Int32} (ho : (rY r).cls = own) (hrk : rok r r_WP_rowFor) (hw : Cond.methodLinkNest own i (rY r_WP_rowFor) host ∈ lw_tbl) (hws : Cond.static (rY r_WP_rowFor) ∈ lw_tbl) (hd : decode (rB r) pc = .ok (.invokestatic i, 3)) (hd2 : decode (rB r) (pc + 3) = .ok (.putfield i2, 3)) (hc : cok ci C T N ty) (hk : k < N) (hty : isR (ty k)) (hw2 : Cond.fieldLink own i2 C (T k).2.1 (T k).2.2.1 ∈ lw_tbl) (hT : (T k).1 = C) (hfin : (T k).2.2.2 = false) (hcat : (((.ref 0 : Value) :: st).map fun v => v.category).sum ≤ 8) (o q : Ro) (ho' : okR o = true) (hq : okR q = true) (hdy : isDyn q = true) (hL : q ∈ dynL) (hto : tgR o = ci + 1) (htq : tgR q = 50) (hk2 : rtR o k = some q) (hx : x = nI m) (hm : m ≤ 4096) (kk : ∀ ad' h', St [q.1] ad ad' → Vw G ad' h' (rowR ρ q m) → X G M Q (pc + 3 + 3) lv st h') : X G M Q pc lv (.int x :: .ref (ad q) :: .ref (ad o) :: st) h := by
  subst hx
  have hnq := v_n V hq
  refine x_callSN hG hM (r' := r_WP_rowFor) [.ref (ad q), .int (nI m)] ho yk_WP_rowFor hrk hw hws rfl rfl hcat hd ?_
  refine c_rowFor hG hm (by rw [vT V hq]; exact htq) (by rw [vN V hq]; omega) ?_ ?_ ?_
  · intro hlt
    rw [vN V hq] at hlt
    exact V_room V hL (by have := roomN_rmg hlt hm; omega)
  · intro hle
    rw [vN V hq] at hle
    refine x_putr hG hM hc k hk hty ho hw2 hT hd2 (Or.inl hfin) (by rw [vT V ho']; exact hto) ?_
    exact kk ad _ St_rf (by unfold rowR; rw [if_pos hle]; exact V_same V ho' hk2)
  · intro hlt
    rw [vN V hq] at hlt
    have e1 : kT (wA h 50 (roomN m) (roomN m)) (ad o) = ci + 1 := by
      show va_up (kT h) (kX h) 50 (ad o) = _
      rw [upn (Nat.ne_of_lt (v_lt V ho').2), vT V ho', hto]
    refine x_putr hG hM hc k hk hty ho hw2 hT hd2 (Or.inl hfin) e1 ?_
    have hrl := roomN_le m
    have := V_grow V ho' hq hdy hL hk2 (n := roomN m) (by omega) (roomN_rmg hlt hm)
    rw [htq] at this
    exact kk _ _ (St_grow hdy) (by unfold rowR; rw [if_neg (by omega)]; exact this)
theorem y_mark (hG : gok G) (hM : mok G M r Q K) (V : Vw G ad h ρ) {own host C : String} {ci N i i2 m k : Nat} {T : u_T} {ty : Nat → FieldType} {x : Int32} (ho : (rY r).cls = own) (hrk : rok r r_WP_marksFor) (hw : Cond.methodLinkNest own i (rY r_WP_marksFor) host ∈ lw_tbl) (hws : Cond.static (rY r_WP_marksFor) ∈ lw_tbl) (hd : decode (rB r) pc = .ok (.invokestatic i, 3)) (hd2 : decode (rB r) (pc + 3) = .ok (.putfield i2, 3)) (hc : cok ci C T N ty) (hk : k < N) (hty : isR (ty k)) (hw2 : Cond.fieldLink own i2 C (T k).2.1 (T k).2.2.1 ∈ lw_tbl) (hT : (T k).1 = C) (hfin : (T k).2.2.2 = false) (hcat : (((.ref 0 : Value) :: st).map fun v => v.category).sum ≤ 8) (o q : Ro) (ho' : okR o = true) (hq : okR q = true) (hdy : isDyn q = true) (hL : q ∈ dynL) (hto : tgR o = ci + 1) (htq : tgR q = 51) (hk2 : rtR o k = some q) (hx : x = nI m) (hm : m ≤ 4096) (kk : ∀ ad' h', St [q.1] ad ad' → Vw G ad' h' (rowR ρ q m) → X G M Q (pc + 3 + 3) lv st h') : X G M Q pc lv (.int x :: .ref (ad q) :: .ref (ad o) :: st) h := by
  subst hx
  have hnq := v_n V hq
  refine x_callSN hG hM (r' := r_WP_marksFor) [.ref (ad q), .int (nI m)] ho yk_WP_marksFor hrk hw hws rfl rfl hcat hd ?_
  refine c_marksFor hG hm (by rw [vT V hq]; exact htq) (by rw [vN V hq]; omega) ?_ ?_ ?_
  · intro hlt
    rw [vN V hq] at hlt
    exact V_room V hL (by have := roomN_rmg hlt hm; omega)
  · intro hle
    rw [vN V hq] at hle
    refine x_putr hG hM hc k hk hty ho hw2 hT hd2 (Or.inl hfin) (by rw [vT V ho']; exact hto) ?_
    exact kk ad _ St_rf (by unfold rowR; rw [if_pos hle]; exact V_same V ho' hk2)
  · intro hlt
    rw [vN V hq] at hlt
    have e1 : kT (wA h 51 (roomN m) (roomN m)) (ad o) = ci + 1 := by
      show va_up (kT h) (kX h) 51 (ad o) = _
      rw [upn (Nat.ne_of_lt (v_lt V ho').2), vT V ho', hto]
    refine x_putr hG hM hc k hk hty ho hw2 hT hd2 (Or.inl hfin) e1 ?_
    have hrl := roomN_le m
    have := V_grow V ho' hq hdy hL hk2 (n := roomN m) (by omega) (roomN_rmg hlt hm)
    rw [htq] at this
    exact kk _ _ (St_grow hdy) (by unfold rowR; rw [if_neg (by omega)]; exact this)
/-- a new row of ints, or of longs, put where the old one stood -/
theorem y_newI (hG : gok G) (hM : mok G M r Q K) (V : Vw G ad h ρ) {own C : String} {ci N i2 m k : Nat} {T : u_T} {ty : Nat → FieldType} {x : Int32} (ho : (rY r).cls = own) (hw : Cond.arrayClass .int ∈ lw_tbl) (hd : decode (rB r) pc = .ok (.newarray .int, 2)) (hd2 : decode (rB r) (pc + 2) = .ok (.putfield i2, 3)) (hc : cok ci C T N ty) (hk : k < N) (hty : isR (ty k)) (hw2 : Cond.fieldLink own i2 C (T k).2.1 (T k).2.2.1 ∈ lw_tbl) (hT : (T k).1 = C) (hfin : (T k).2.2.2 = false) (o q : Ro) (ho' : okR o = true) (hq : okR q = true) (hdy : isDyn q = true) (hL : q ∈ dynL) (hto : tgR o = ci + 1) (htq : tgR q = 50) (hk2 : rtR o k = some q) (hx : x = nI m) (hm : m ≤ 8192) (hg : rmg m + 1 ≤ rmg (nR ρ q)) (kk : ∀ ad' h', St [q.1] ad ad' → Vw G ad' h' (uN ρ q m) → X G M Q (pc + 2 + 3) lv st h') : X G M Q pc lv (.int x :: .ref (ad o) :: st) h := by
  subst hx
  obtain ⟨c1, c2⟩ := V_room V hL (by omega)
  refine x_newI hG hM (N := m) hw hd (nI_pos (by omega)) (nI_clamp (by omega)) c1 (by omega) ?_
  have e1 : kT (wA h 50 m m) (ad o) = ci + 1 := by
    show va_up (kT h) (kX h) 50 (ad o) = _
    rw [upn (Nat.ne_of_lt (v_lt V ho').2), vT V ho', hto]
  refine x_putr hG hM hc k hk hty ho hw2 hT hd2 (Or.inl hfin) e1 ?_
  have := V_grow V ho' hq hdy hL hk2 (n := m) hm hg
  rw [htq] at this
  exact kk _ _ (St_grow hdy) this
theorem y_newL (hG : gok G) (hM : mok G M r Q K) (V : Vw G ad h ρ) {own C : String} {ci N i2 m k : Nat} {T : u_T} {ty : Nat → FieldType} {x : Int32} (ho : (rY r).cls = own) (hw : Cond.arrayClass .long ∈ lw_tbl) (hd : decode (rB r) pc = .ok (.newarray .long, 2)) (hd2 : decode (rB r) (pc + 2) = .ok (.putfield i2, 3)) (hc : cok ci C T N ty) (hk : k < N) (hty : isR (ty k)) (hw2 : Cond.fieldLink own i2 C (T k).2.1 (T k).2.2.1 ∈ lw_tbl) (hT : (T k).1 = C) (hfin : (T k).2.2.2 = false) (o q : Ro) (ho' : okR o = true) (hq : okR q = true) (hdy : isDyn q = true) (hL : q ∈ dynL) (hto : tgR o = ci + 1) (htq : tgR q = 52) (hk2 : rtR o k = some q) (hx : x = nI m) (hm : m ≤ 8192) (hg : rmg m + 1 ≤ rmg (nR ρ q)) (kk : ∀ ad' h', St [q.1] ad ad' → Vw G ad' h' (uN ρ q m) → X G M Q (pc + 2 + 3) lv st h') : X G M Q pc lv (.int x :: .ref (ad o) :: st) h := by
  subst hx
  obtain ⟨c1, c2⟩ := V_room V hL (by omega)
  refine x_newL hG hM (N := m) hw hd (nI_pos (by omega)) (nI_clamp (by omega)) c1 (by omega) ?_
  have e1 : kT (wA h 52 m m) (ad o) = ci + 1 := by
    show va_up (kT h) (kX h) 52 (ad o) = _
    rw [upn (Nat.ne_of_lt (v_lt V ho').2), vT V ho', hto]
  refine x_putr hG hM hc k hk hty ho hw2 hT hd2 (Or.inl hfin) e1 ?_
  have := V_grow V ho' hq hdy hL hk2 (n := m) hm hg
  rw [htq] at this
  exact kk _ _ (St_grow hdy) this
end GY
