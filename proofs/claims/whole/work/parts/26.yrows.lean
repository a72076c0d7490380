/-! rows over roles -/
/-- rows that move keep the other addresses -/
def St (mv : List Nat) (a b : Ro → Nat) : Prop := ∀ r, (mv.contains r.1 = false ∨ isDyn r = false) → b r = a r
theorem St_rf {mv : List Nat} {a : Ro → Nat} : St mv a a := fun _ _ => rfl
theorem St_tr {mv : List Nat} {a b c : Ro → Nat} (h1 : St mv a b) (h2 : St mv b c) : St mv a c := fun r hr => (h2 r hr).trans (h1 r hr)
theorem St_eq {a b : Ro → Nat} (h : St [] a b) : b = a := funext fun r => h r (Or.inl rfl)
theorem St_mono {mv mv' : List Nat} {a b : Ro → Nat} (hm : ∀ k ∈ mv', k ∈ mv) (h : St mv' a b) : St mv a b := fun r hr => h r (by
  rcases hr with hr | hr
  · left
    cases hc : mv'.contains r.1 with
    | false => rfl
    | true =>
      have := hm r.1 (by simpa using hc)
      rw [show mv.contains r.1 = true by simpa using this] at hr
      cases hr
  · exact Or.inr hr)
theorem St_up {mv : List Nat} {a b : Ro → Nat} (h : St [] a b) : St mv a b := fun r _ => h r (Or.inl rfl)
/-- what is asked at a method's end -/
def KV (G : Gc) (mv : List Nat) (ad0 : Ro → Nat) (K : (Ro → Nat) → Option Value → Rs → Prop) : Option Value → Hp → Prop := fun v h' => ∃ (ad' : Ro → Nat) (ρ' : Rs), Vw G ad' h' ρ' ∧ St mv ad0 ad' ∧ K ad' v ρ'
/-- A CONTRACT OVER ROLES -/
def semV (G : Gc) (r : Mr) (mv : List Nat) (av : (Ro → Nat) → List Value) (ρ : Rs) (K : (Ro → Nat) → Option Value → Rs → Prop) : Prop := ∀ (ad : Ro → Nat) (h : Hp), Vw G ad h ρ → sem G r (av ad) h (KV G mv ad K)
/-- THE JUDGEMENT OVER ROLES -/
def Y (G : Gc) (mv : List Nat) (ad0 : Ro → Nat) (M : Mc) (Q : State → Prop) (pc : Nat) (lv : (Ro → Nat) → List (Nat × Value)) (st : (Ro → Nat) → List Value) (ρ : Rs) : Prop := ∀ (ad : Ro → Nat) (h : Hp), St mv ad0 ad → Vw G ad h ρ → X G M Q pc (lv ad) (st ad) h
section YR
variable {G : Gc} {M : Mc} {r r' : Mr} {Q : State → Prop} {K : Option Value → Hp → Prop} {pc : Nat} {lv : List (Nat × Value)} {st : List Value} {h : Hp} {ad ad0 : Ro → Nat} {ρ : Rs} {mv : List Nat} {KK : (Ro → Nat) → Option Value → Rs → Prop}
theorem y_end (V : Vw G ad h ρ) (hs : St mv ad0 ad) {v : Option Value} (k : KK ad v ρ) : KV G mv ad0 KK v h := ⟨ad, ρ, V, hs, k⟩
theorem vp_lt {i : Int32} {n : Nat} (hi : vp_in i n) : Int32.toNatClampNeg i < n := Nat.not_le.mp fun q => hi (Or.inr q)
theorem y_geti (hG : gok G) (hM : mok G M r Q K) (V : Vw G ad h ρ) {ci N : Nat} {C own : String} {T : u_T} {ty : Nat → FieldType} (hc : cok ci C T N ty) (k : Nat) (hk : k < N) (hty : kd (ty k) = 0) {i : Nat} (ho : (rY r).cls = own) (hw : Cond.fieldLink own i C (T k).2.1 (T k).2.2.1 ∈ lw_tbl) (hT : (T k).1 = C) (hd : decode (rB r) pc = .ok (.getfield i, 3)) (q : Ro) (hq : okR q = true) (ht : tgR q = ci + 1) (kk : X G M Q (pc + 3) lv (.int (iR ρ q k) :: st) h) : X G M Q pc lv (.ref (ad q) :: st) h :=
  x_geti hG hM hc k hk hty ho hw hT hd (by rw [vT V hq]; exact ht) (by rw [vI V hq]; exact kk)
theorem y_getl (hG : gok G) (hM : mok G M r Q K) (V : Vw G ad h ρ) {ci N : Nat} {C own : String} {T : u_T} {ty : Nat → FieldType} (hc : cok ci C T N ty) (k : Nat) (hk : k < N) (hty : kd (ty k) = 1) {i : Nat} (ho : (rY r).cls = own) (hw : Cond.fieldLink own i C (T k).2.1 (T k).2.2.1 ∈ lw_tbl) (hT : (T k).1 = C) (hd : decode (rB r) pc = .ok (.getfield i, 3)) (q : Ro) (hq : okR q = true) (ht : tgR q = ci + 1) (kk : X G M Q (pc + 3) lv (.long (lR ρ q k) :: st) h) : X G M Q pc lv (.ref (ad q) :: st) h :=
  x_getl hG hM hc k hk hty ho hw hT hd (by rw [vT V hq]; exact ht) (by rw [vL V hq]; exact kk)
theorem y_getr (hG : gok G) (hM : mok G M r Q K) (V : Vw G ad h ρ) {ci N : Nat} {C own : String} {T : u_T} {ty : Nat → FieldType} (hc : cok ci C T N ty) (k : Nat) (hk : k < N) (hty : kd (ty k) = 2) {i : Nat} (ho : (rY r).cls = own) (hw : Cond.fieldLink own i C (T k).2.1 (T k).2.2.1 ∈ lw_tbl) (hT : (T k).1 = C) (hd : decode (rB r) pc = .ok (.getfield i, 3)) (q q2 : Ro) (hq : okR q = true) (ht : tgR q = ci + 1) (hr : rtR q k = some q2) (kk : X G M Q (pc + 3) lv (.ref (ad q2) :: st) h) : X G M Q pc lv (.ref (ad q) :: st) h :=
  x_getr hG hM hc k hk hty ho hw hT hd (by rw [vT V hq]; exact ht) (by rw [vR V hq, hr]; rfl) kk
theorem y_puti (hG : gok G) (hM : mok G M r Q K) (V : Vw G ad h ρ) {ci N : Nat} {C own : String} {T : u_T} {ty : Nat → FieldType} (hc : cok ci C T N ty) (k : Nat) (hk : k < N) (hty : ty k = .int) {x : Int32} {i : Nat} (ho : (rY r).cls = own) (hw : Cond.fieldLink own i C (T k).2.1 (T k).2.2.1 ∈ lw_tbl) (hT : (T k).1 = C) (hd : decode (rB r) pc = .ok (.putfield i, 3)) (hfin : (T k).2.2.2 = false) (q : Ro) (hq : okR q = true) (ht : tgR q = ci + 1) (kk : ∀ h1, Vw G ad h1 (pI ρ q k x) → X G M Q (pc + 3) lv st h1) : X G M Q pc lv (.int x :: .ref (ad q) :: st) h :=
  x_puti hG hM hc k hk hty ho hw hT hd (Or.inl hfin) (by rw [vT V hq]; exact ht) (kk _ (V_pI V hq k x))
theorem y_putz (hG : gok G) (hM : mok G M r Q K) (V : Vw G ad h ρ) {ci N : Nat} {C own : String} {T : u_T} {ty : Nat → FieldType} (hc : cok ci C T N ty) (k : Nat) (hk : k < N) (hty : ty k = .boolean) {x : Int32} {i : Nat} (ho : (rY r).cls = own) (hw : Cond.fieldLink own i C (T k).2.1 (T k).2.2.1 ∈ lw_tbl) (hT : (T k).1 = C) (hd : decode (rB r) pc = .ok (.putfield i, 3)) (hfin : (T k).2.2.2 = false) (q : Ro) (hq : okR q = true) (ht : tgR q = ci + 1) (hx : nb x) (kk : ∀ h1, Vw G ad h1 (pI ρ q k x) → X G M Q (pc + 3) lv st h1) : X G M Q pc lv (.int x :: .ref (ad q) :: st) h :=
  x_putz hG hM hc k hk hty ho hw hT hd (Or.inl hfin) (by rw [vT V hq]; exact ht) hx (kk _ (V_pI V hq k x))
theorem y_putl (hG : gok G) (hM : mok G M r Q K) (V : Vw G ad h ρ) {ci N : Nat} {C own : String} {T : u_T} {ty : Nat → FieldType} (hc : cok ci C T N ty) (k : Nat) (hk : k < N) (hty : ty k = .long) {x : Int64} {i : Nat} (ho : (rY r).cls = own) (hw : Cond.fieldLink own i C (T k).2.1 (T k).2.2.1 ∈ lw_tbl) (hT : (T k).1 = C) (hd : decode (rB r) pc = .ok (.putfield i, 3)) (hfin : (T k).2.2.2 = false) (q : Ro) (hq : okR q = true) (ht : tgR q = ci + 1) (kk : ∀ h1, Vw G ad h1 (pL ρ q k x) → X G M Q (pc + 3) lv st h1) : X G M Q pc lv (.long x :: .ref (ad q) :: st) h :=
  x_putl hG hM hc k hk hty ho hw hT hd (Or.inl hfin) (by rw [vT V hq]; exact ht) (kk _ (V_pL V hq k x))
theorem y_iaload (hG : gok G) (hM : mok G M r Q K) (V : Vw G ad h ρ) {i : Int32} (hd : decode (rB r) pc = .ok (.iaload, 1)) (q : Ro) (hq : okR q = true) (ht : tgR q = 50) (hi : vp_in i (nR ρ q)) (kk : X G M Q (pc + 1) lv (.int (iR ρ q (Int32.toNatClampNeg i)) :: st) h) : X G M Q pc lv (.int i :: .ref (ad q) :: st) h :=
  x_iaload hG hM hd (by rw [vT V hq]; exact ht) (by rw [vN V hq]; exact hi) (by rw [vI V hq]; exact kk)
theorem y_zaload (hG : gok G) (hM : mok G M r Q K) (V : Vw G ad h ρ) {i : Int32} (hd : decode (rB r) pc = .ok (.baload, 1)) (q : Ro) (hq : okR q = true) (ht : tgR q = 51) (hi : vp_in i (nR ρ q)) (kk : X G M Q (pc + 1) lv (.int (iR ρ q (Int32.toNatClampNeg i)) :: st) h) : X G M Q pc lv (.int i :: .ref (ad q) :: st) h :=
  x_zaload hG hM hd (by rw [vT V hq]; exact ht) (by rw [vN V hq]; exact hi) (by rw [vI V hq]; exact kk)
theorem y_laload (hG : gok G) (hM : mok G M r Q K) (V : Vw G ad h ρ) {i : Int32} (hd : decode (rB r) pc = .ok (.laload, 1)) (q : Ro) (hq : okR q = true) (ht : tgR q = 52) (hi : vp_in i (nR ρ q)) (kk : X G M Q (pc + 1) lv (.long (lR ρ q (Int32.toNatClampNeg i)) :: st) h) : X G M Q pc lv (.int i :: .ref (ad q) :: st) h :=
  x_laload hG hM hd (by rw [vT V hq]; exact ht) (by rw [vN V hq]; exact hi) (by rw [vL V hq]; exact kk)
theorem y_iastore (hG : gok G) (hM : mok G M r Q K) (V : Vw G ad h ρ) {i x : Int32} (hd : decode (rB r) pc = .ok (.iastore, 1)) (q : Ro) (hq : okR q = true) (ht : tgR q = 50) (hi : vp_in i (nR ρ q)) (kk : ∀ h1, Vw G ad h1 (pI ρ q (Int32.toNatClampNeg i) x) → X G M Q (pc + 1) lv st h1) : X G M Q pc lv (.int x :: .int i :: .ref (ad q) :: st) h :=
  x_iastore hG hM hd (by rw [vT V hq]; exact ht) (by rw [vN V hq]; exact hi) (kk _ (V_pI V hq _ x))
theorem y_zastore (hG : gok G) (hM : mok G M r Q K) (V : Vw G ad h ρ) {i x : Int32} (hd : decode (rB r) pc = .ok (.bastore, 1)) (q : Ro) (hq : okR q = true) (ht : tgR q = 51) (hi : vp_in i (nR ρ q)) (hx : nb x) (kk : ∀ h1, Vw G ad h1 (pI ρ q (Int32.toNatClampNeg i) x) → X G M Q (pc + 1) lv st h1) : X G M Q pc lv (.int x :: .int i :: .ref (ad q) :: st) h :=
  x_zastore hG hM hd (by rw [vT V hq]; exact ht) (by rw [vN V hq]; exact hi) hx (kk _ (V_pI V hq _ x))
theorem y_lastore (hG : gok G) (hM : mok G M r Q K) (V : Vw G ad h ρ) {i : Int32} {x : Int64} (hd : decode (rB r) pc = .ok (.lastore, 1)) (q : Ro) (hq : okR q = true) (ht : tgR q = 52) (hi : vp_in i (nR ρ q)) (kk : ∀ h1, Vw G ad h1 (pL ρ q (Int32.toNatClampNeg i) x) → X G M Q (pc + 1) lv st h1) : X G M Q pc lv (.long x :: .int i :: .ref (ad q) :: st) h :=
  x_lastore hG hM hd (by rw [vT V hq]; exact ht) (by rw [vN V hq]; exact hi) (kk _ (V_pL V hq _ x))
theorem y_alen (hG : gok G) (hM : mok G M r Q K) (V : Vw G ad h ρ) (t : Nat) {ty : FieldType} (ht2 : (tyz (gA G))[t - 50]? = some (gA G (t - 50), ty)) (h50 : 50 ≤ t) (hd : decode (rB r) pc = .ok (.arraylength, 1)) (q : Ro) (hq : okR q = true) (ht : tgR q = t) (kk : X G M Q (pc + 1) lv (.int (nI (nR ρ q)) :: st) h) : X G M Q pc lv (.ref (ad q) :: st) h :=
  x_alen hG hM t ht2 h50 hd (by rw [vT V hq]; exact ht) (by rw [vN V hq]; exact kk)
theorem y_acts (hG : gok G) (hM : mok G M r Q K) (V : Vw G ad h ρ) {i : Int32} (hd : decode (rB r) pc = .ok (.aaload, 1)) (hi : vp_in i 12) (kk : X G M Q (pc + 1) lv (.ref (ad (20, Int32.toNatClampNeg i, 0)) :: st) h) : X G M Q pc lv (.int i :: .ref (ad (30, 5, 0)) :: st) h :=
  x_aaload hG hM 53 rfl (Nat.le_of_ble_eq_true rfl) hd (by rw [vT V rfl]; rfl) (by rw [vN V rfl, vlen V (r := (30, 5, 0)) rfl rfl]; exact hi) (by rw [vR V rfl, show rtR (30, 5, 0) (Int32.toNatClampNeg i) = some (20, Int32.toNatClampNeg i, 0) by simp [rtR, vp_lt hi]]; rfl) kk
theorem y_outs (hG : gok G) (hM : mok G M r Q K) (V : Vw G ad h ρ) {i : Int32} (hd : decode (rB r) pc = .ok (.aaload, 1)) {a : Nat} (ha : a < 12) (hi : vp_in i 3) (kk : X G M Q (pc + 1) lv (.ref (ad (22, a, Int32.toNatClampNeg i)) :: st) h) : X G M Q pc lv (.int i :: .ref (ad (21, a, 0)) :: st) h :=
  x_aaload hG hM 54 rfl (Nat.le_of_ble_eq_true rfl) hd (by rw [vT V (ok_oa ha)]; rfl) (by rw [vN V (ok_oa ha), vlen V (r := (21, a, 0)) (ok_oa ha) rfl]; exact hi) (by rw [vR V (ok_oa ha), show rtR (21, a, 0) (Int32.toNatClampNeg i) = some (22, a, Int32.toNatClampNeg i) by simp [rtR, vp_lt hi]]; rfl) kk
theorem y_parts (hG : gok G) (hM : mok G M r Q K) (V : Vw G ad h ρ) {i : Int32} (hd : decode (rB r) pc = .ok (.aaload, 1)) (hi : vp_in i 6) (kk : X G M Q (pc + 1) lv (.ref (ad (10, 1, Int32.toNatClampNeg i)) :: st) h) : X G M Q pc lv (.int i :: .ref (ad (31, 1, 0)) :: st) h :=
  x_aaload hG hM 55 rfl (Nat.le_of_ble_eq_true rfl) hd (by rw [vT V rfl]; rfl) (by rw [vN V rfl, vlen V (r := (31, 1, 0)) rfl rfl]; exact hi) (by rw [vR V rfl, show rtR (31, 1, 0) (Int32.toNatClampNeg i) = some (10, 1, Int32.toNatClampNeg i) by simp [rtR, vp_lt hi]]; rfl) kk
theorem y_acopy (hG : gok G) (hM : mok G M r Q K) (V : Vw G ad h ρ) {i : Nat} {own : String} {sp dp n : Int32} (ho : (rY r).cls = own) (hw : Cond.methodLink own i arraycopyName ∈ lw_tbl) (hw2 : Cond.native arraycopyName ∈ lw_tbl) (hw3 : Cond.static arraycopyName ∈ lw_tbl) (hw4 : Cond.initialized "java/lang/System" ∈ lw_tbl) (hf : 1 ≤ rF r) (hlo : (st.map fun v => v.category).sum + (nativeFrameWords "java/lang/System" "arraycopy" 5 + 11) ≤ rW r) (hd : decode (rB r) pc = .ok (.invokestatic i, 3)) (q0 q : Ro) (hq0 : okR q0 = true) (hq : okR q = true) (ht0 : tgR q0 = 50) (ht : tgR q = 50) (h1 : ¬ sp < 0) (h2 : ¬ dp < 0) (h3 : ¬ n < 0) (h4 : sp.toNatClampNeg + n.toNatClampNeg ≤ nR ρ q0) (h5 : dp.toNatClampNeg + n.toNatClampNeg ≤ nR ρ q)
    (kk : ∀ h1, Vw G ad h1 (uI ρ q (va_cpy (iR ρ q0) (iR ρ q) sp.toNatClampNeg dp.toNatClampNeg n.toNatClampNeg)) → X G M Q (pc + 3) lv st h1) : X G M Q pc lv (.int n :: .int dp :: .ref (ad q) :: .int sp :: .ref (ad q0) :: st) h :=
  x_acopy hG hM ho hw hw2 hw3 hw4 hf hlo hd (by rw [vT V hq0]; exact ht0) (by rw [vT V hq]; exact ht) h1 h2 h3 (by rw [vN V hq0]; exact h4) (by rw [vN V hq]; exact h5) (by rw [vI V hq0, vI V hq]; exact kk _ (V_uI V hq _))
end YR
