/-! the rows that touch the store -/
def kd : FieldType → Nat
  | .long => 1
  | .object _ => 2
  | .array _ => 2
  | _ => 0
/-- a class of the tables -/
def cok (ci : Nat) (C : String) (T : u_T) (N : Nat) (ty : Nat → FieldType) : Prop := vcl[ci]? = some (C, T, N) ∧ (∀ w ∈ u_ws C T N, w ∈ lw_tbl ∧ goodWord w = true) ∧ (∀ k, k < N → parseFieldDescriptor (T k).2.2.1 = some (ty k)) ∧ (∀ a, a < N → ∀ b, b < N → a ≠ b → (T a).2.1 ≠ (T b).2.1) ∧ (fkz ci).length = N ∧ (∀ k, k < N → (fkz ci).getD k 0 = kd (ty k)) ∧ ci < 49
section XH
variable {G : Gc} {M : Mc} {r : Mr} {Q : State → Prop} {K : Option Value → Hp → Prop} {pc : Nat} {lv : List (Nat × Value)} {st : List Value} {h : Hp}
theorem hin {base a t : Nat} (hh : hok base h) (ht : kT h a = t) (h0 : t ≠ 0) : base ≤ a ∧ a < kX h := hh.2.2.2 a (by rw [ht]; exact h0)
theorem ek_o {cA : Nat → ClassId} {a ci : Nat} (ht : kT h a = ci + 1) (hc : ci < 49) : ek cA h a = .inr (ci, fvs (fkz ci) h a) := by
  unfold ek
  rw [ht, if_pos (by omega), Nat.add_sub_cancel]
theorem ek_i {cA : Nat → ClassId} {a t : Nat} (ht : kT h a = t) (h1 : t = 50 ∨ t = 51) : ek cA h a = .inl (cA (t - 50), kN h a, .inl (kI h a)) := by
  unfold ek ea
  rw [ht, if_neg (by omega), if_neg (by omega), if_neg (by omega)]
theorem ek_l {cA : Nat → ClassId} {a : Nat} (ht : kT h a = 52) : ek cA h a = .inl (cA 2, kN h a, .inr (.inl (kL h a))) := by
  unfold ek ea
  rw [ht, if_neg (by omega), if_pos rfl]
theorem ek_r {cA : Nat → ClassId} {a t : Nat} (ht : kT h a = t) (h1 : 53 ≤ t) : ek cA h a = .inl (cA (t - 50), kN h a, .inr (.inr (.inr (.inr (kR h a))))) := by
  unfold ek ea
  rw [ht, if_neg (by omega), if_neg (by omega), if_pos h1]
theorem upn {α : Type} {f : Nat → α} {a b : Nat} {v : α} (hb : b ≠ a) : va_up f a v b = f b := by simp [va_up, hb]
theorem ups {α : Type} {f : Nat → α} {a : Nat} {v : α} : va_up f a v a = v := by simp [va_up]
/-- another store of the same kinds and lengths that differs at one cell -/
theorem ek_ne {cA : Nat → ClassId} {h1 : Hp} {b : Nat} (e1 : kT h1 b = kT h b) (e2 : kN h1 b = kN h b) (e3 : kI h1 b = kI h b) (e4 : kL h1 b = kL h b) (e5 : kR h1 b = kR h b) : ek cA h1 b = ek cA h b := by
  unfold ek ea fvs fv
  rw [e1, e2, e3, e4, e5]
theorem hok_keep {base : Nat} {h1 : Hp} (hh : hok base h) (e1 : kT h1 = kT h) (e2 : kX h1 = kX h) (e3 : kS h1 = kS h) : hok base h1 := by
  unfold hok
  rw [e1, e2, e3]
  exact hh
theorem x_geti (hG : gok G) (hM : mok G M r Q K) {ci N : Nat} {C own : String} {T : u_T} {ty : Nat → FieldType} (hc : cok ci C T N ty) (k : Nat) (hk : k < N) (hty : kd (ty k) = 0) {i a : Nat} (ho : (rY r).cls = own) (hw : Cond.fieldLink own i C (T k).2.1 (T k).2.2.1 ∈ lw_tbl) (hT : (T k).1 = C) (hd : decode (rB r) pc = .ok (.getfield i, 3)) (ht : kT h a = ci + 1) (kk : X G M Q (pc + 3) lv (.int (kI h a k) :: st) h) : X G M Q pc lv (.ref a :: st) h := by
  intro a1 a2 a3 H locs ls hP hS hl
  obtain ⟨c1, c2, c3, c4, c5, c6, c7⟩ := hc
  have hb := hin a3 ht (by omega)
  have hg := hpw_get (cA := gA G) hb.1 hb.2
  rw [ek_o ht c7] at hg
  have hv : (fvs (fkz ci) h a)[k]? = some (.int (kI h a k)) := by rw [fvs_get (by omega), c6 k hk, hty]; rfl
  exact va_get (mx hM) (mb hM) (own := own) (ref := C) (Ts := u_ws C T N) (fun w hw => wd hG hM (c2 w hw).1 (c2 w hw).2) (fun w hw => hw) (by rw [← ho]; exact mo hM) (gK hG hM) hP _ hg c1 k hk (wd hG hM hw rfl) (by rw [hT]; exact fun _ h9 => h9) hv hd (kk a1 a2 a3 H locs ls hP hS hl)
theorem x_getl (hG : gok G) (hM : mok G M r Q K) {ci N : Nat} {C own : String} {T : u_T} {ty : Nat → FieldType} (hc : cok ci C T N ty) (k : Nat) (hk : k < N) (hty : kd (ty k) = 1) {i a : Nat} (ho : (rY r).cls = own) (hw : Cond.fieldLink own i C (T k).2.1 (T k).2.2.1 ∈ lw_tbl) (hT : (T k).1 = C) (hd : decode (rB r) pc = .ok (.getfield i, 3)) (ht : kT h a = ci + 1) (kk : X G M Q (pc + 3) lv (.long (kL h a k) :: st) h) : X G M Q pc lv (.ref a :: st) h := by
  intro a1 a2 a3 H locs ls hP hS hl
  obtain ⟨c1, c2, c3, c4, c5, c6, c7⟩ := hc
  have hb := hin a3 ht (by omega)
  have hg := hpw_get (cA := gA G) hb.1 hb.2
  rw [ek_o ht c7] at hg
  have hv : (fvs (fkz ci) h a)[k]? = some (.long (kL h a k)) := by rw [fvs_get (by omega), c6 k hk, hty]; rfl
  exact va_get (mx hM) (mb hM) (own := own) (ref := C) (Ts := u_ws C T N) (fun w hw => wd hG hM (c2 w hw).1 (c2 w hw).2) (fun w hw => hw) (by rw [← ho]; exact mo hM) (gK hG hM) hP _ hg c1 k hk (wd hG hM hw rfl) (by rw [hT]; exact fun _ h9 => h9) hv hd (kk a1 a2 a3 H locs ls hP hS hl)
theorem x_getr (hG : gok G) (hM : mok G M r Q K) {ci N : Nat} {C own : String} {T : u_T} {ty : Nat → FieldType} (hc : cok ci C T N ty) (k : Nat) (hk : k < N) (hty : kd (ty k) = 2) {i a b : Nat} (ho : (rY r).cls = own) (hw : Cond.fieldLink own i C (T k).2.1 (T k).2.2.1 ∈ lw_tbl) (hT : (T k).1 = C) (hd : decode (rB r) pc = .ok (.getfield i, 3)) (ht : kT h a = ci + 1) (hr : kR h a k = some b) (kk : X G M Q (pc + 3) lv (.ref b :: st) h) : X G M Q pc lv (.ref a :: st) h := by
  intro a1 a2 a3 H locs ls hP hS hl
  obtain ⟨c1, c2, c3, c4, c5, c6, c7⟩ := hc
  have hb := hin a3 ht (by omega)
  have hg := hpw_get (cA := gA G) hb.1 hb.2
  rw [ek_o ht c7] at hg
  have hv : (fvs (fkz ci) h a)[k]? = some (.ref b) := by rw [fvs_get (by omega), c6 k hk, hty]; simp [fv, hr, va_rf]
  exact va_get (mx hM) (mb hM) (own := own) (ref := C) (Ts := u_ws C T N) (fun w hw => wd hG hM (c2 w hw).1 (c2 w hw).2) (fun w hw => hw) (by rw [← ho]; exact mo hM) (gK hG hM) hP _ hg c1 k hk (wd hG hM hw rfl) (by rw [hT]; exact fun _ h9 => h9) hv hd (kk a1 a2 a3 H locs ls hP hS hl)
/-- a store of a field, final or not -/
theorem x_put (hG : gok G) (hM : mok G M r Q K) {ci N : Nat} {C own : String} {T : u_T} {ty : Nat → FieldType} (hc : cok ci C T N ty) (k : Nat) (hk : k < N) {v : Value} {i a : Nat} {h1 : Hp} (ho : (rY r).cls = own) (hw : Cond.fieldLink own i C (T k).2.1 (T k).2.2.1 ∈ lw_tbl) (hT : (T k).1 = C) (hd : decode (rB r) pc = .ok (.putfield i, 3)) (ht : kT h a = ci + 1) (hfin : (T k).2.2.2 = false ∨ ((T k).2.2.2 = true ∧ (rY r).name = "<init>" ∧ own = C)) (hn : narrow (ty k) v = v) (hf : fits (ty k) v = true)
    (e1 : kT h1 = kT h) (e2 : kN h1 = kN h) (e3 : kX h1 = kX h) (e4 : kS h1 = kS h) (hv : fv h1 a k (kd (ty k)) = v) (hs : ∀ j, j ≠ k → ∀ t, fv h1 a j t = fv h a j t) (hs2 : ∀ b, b ≠ a → kI h1 b = kI h b ∧ kL h1 b = kL h b ∧ kR h1 b = kR h b) (kk : X G M Q (pc + 3) lv st h1) : X G M Q pc lv (v :: .ref a :: st) h := by
  intro a1 a2 a3 H locs ls hP hS hl
  obtain ⟨c1, c2, c3, c4, c5, c6, c7⟩ := hc
  have hb := hin a3 ht (by omega)
  have hg := hpw_get (cA := gA G) hb.1 hb.2
  rw [ek_o ht c7] at hg
  have hset : fvs (fkz ci) h1 a = (fvs (fkz ci) h a).set k v := fvs_set (by omega) (by rw [c6 k hk]; exact hv) hs
  have he : (hpw (gA G) (gB G) h).set (a - gB G) (a, .inr (ci, (fvs (fkz ci) h a).set k v)) = hpw (gA G) (gB G) h1 :=
    hpw_set hb.1 hb.2 e3 (by rw [ek_o (by rw [e1]; exact ht) c7, hset]) (fun b hb => ek_ne (congrFun e1 b) (congrFun e2 b) (hs2 b hb).1 (hs2 b hb).2.1 (hs2 b hb).2.2)
  have hfl : k < (fvs (fkz ci) h a).length := by rw [fvs_len]; omega
  have go : ∀ (H1 : Heap) (locs1 : List Loc), va_P (gD G) vcl ((hpw (gA G) (gB G) h).set (a - gB G) (a, .inr (ci, (fvs (fkz ci) h a).set k v))) H1 → va_D (fun q => gB G ≤ q) ((hpw (gA G) (gB G) h).set (a - gB G) (a, .inr (ci, (fvs (fkz ci) h a).set k v))) → va_S (fun q => gB G ≤ q) (mS M).heap H1 locs1 → Wx G M H1 locs1 (kX h - (mS M).heap.size) (kS h - mZ M) Q (F0 (mI M) (pc + 3) ls st) := by
    intro H1 locs1 hP1 _ hS1
    rw [he] at hP1
    have := kk (by rw [e3]; exact a1) (by rw [e4]; exact a2) (hok_keep a3 e1 e3 e4) H1 locs1 ls hP1 hS1 hl
    rw [e3, e4] at this
    exact this
  rcases hfin with hfin | ⟨hfin, hnm, hown⟩
  · exact va_put (mx hM) (mb hM) (own := own) (ref := C) (Ts := u_ws C T N) (fun w hw => wd hG hM (c2 w hw).1 (c2 w hw).2) (fun w hw => hw) ty c3 c4 (by rw [← ho]; exact mo hM) (gK hG hM) hP hpw_D hS _ hg c1 k hk (wd hG hM hw rfl) (by rw [hT]; exact fun _ h9 => h9) hfin (c3 k hk) hn hf hfl hd go
  · exact va_putF (mx hM) (mb hM) (own := own) (ref := C) (Ts := u_ws C T N) (fun w hw => wd hG hM (c2 w hw).1 (c2 w hw).2) (fun w hw => hw) ty c3 c4 (by rw [← ho]; exact mo hM) (gK hG hM) hP hpw_D hS _ hg c1 k hk (wd hG hM hw rfl) (by rw [hT]; exact fun _ h9 => h9) hfin (by rw [mnm hM]; exact hnm) (by rw [hT, hown]) (c3 k hk) hn hf hfl hd go
theorem fv_wI {a k j t : Nat} {x : Int32} (hj : j ≠ k) : fv (wI h a k x) a j t = fv h a j t := by simp [fv, wI, wIs, kI, kL, kR, va_up, hj]
theorem fv_wL {a k j t : Nat} {x : Int64} (hj : j ≠ k) : fv (wL h a k x) a j t = fv h a j t := by simp [fv, wL, wLs, kI, kL, kR, va_up, hj]
theorem fv_wR {a k j t : Nat} {x : Option Nat} (hj : j ≠ k) : fv (wR h a k x) a j t = fv h a j t := by simp [fv, wR, wRs, kI, kL, kR, va_up, hj]
theorem x_puti (hG : gok G) (hM : mok G M r Q K) {ci N : Nat} {C own : String} {T : u_T} {ty : Nat → FieldType} (hc : cok ci C T N ty) (k : Nat) (hk : k < N) (hty : ty k = .int) {x : Int32} {i a : Nat} (ho : (rY r).cls = own) (hw : Cond.fieldLink own i C (T k).2.1 (T k).2.2.1 ∈ lw_tbl) (hT : (T k).1 = C) (hd : decode (rB r) pc = .ok (.putfield i, 3)) (hfin : (T k).2.2.2 = false ∨ ((T k).2.2.2 = true ∧ (rY r).name = "<init>" ∧ own = C)) (ht : kT h a = ci + 1) (kk : X G M Q (pc + 3) lv st (wI h a k x)) : X G M Q pc lv (.int x :: .ref a :: st) h :=
  x_put (h1 := wI h a k x) hG hM hc k hk ho hw hT hd ht hfin (by rw [hty]; rfl) (by rw [hty]; rfl) rfl rfl rfl rfl (by rw [hty]; simp [fv, kd, wI, wIs, kI, va_up]) (fun j hj t => fv_wI hj) (fun b hb => ⟨by simp [wI, wIs, kI, va_up, hb], rfl, rfl⟩) kk
theorem x_putz (hG : gok G) (hM : mok G M r Q K) {ci N : Nat} {C own : String} {T : u_T} {ty : Nat → FieldType} (hc : cok ci C T N ty) (k : Nat) (hk : k < N) (hty : ty k = .boolean) {x : Int32} {i a : Nat} (ho : (rY r).cls = own) (hw : Cond.fieldLink own i C (T k).2.1 (T k).2.2.1 ∈ lw_tbl) (hT : (T k).1 = C) (hd : decode (rB r) pc = .ok (.putfield i, 3)) (hfin : (T k).2.2.2 = false ∨ ((T k).2.2.2 = true ∧ (rY r).name = "<init>" ∧ own = C)) (ht : kT h a = ci + 1) (hx : nb x) (kk : X G M Q (pc + 3) lv st (wI h a k x)) : X G M Q pc lv (.int x :: .ref a :: st) h :=
  x_put (h1 := wI h a k x) hG hM hc k hk ho hw hT hd ht hfin (by rw [hty]; rcases hx with rfl | rfl <;> rfl) (by rw [hty]; rcases hx with rfl | rfl <;> rfl) rfl rfl rfl rfl (by rw [hty]; simp [fv, kd, wI, wIs, kI, va_up]) (fun j hj t => fv_wI hj) (fun b hb => ⟨by simp [wI, wIs, kI, va_up, hb], rfl, rfl⟩) kk
theorem x_putl (hG : gok G) (hM : mok G M r Q K) {ci N : Nat} {C own : String} {T : u_T} {ty : Nat → FieldType} (hc : cok ci C T N ty) (k : Nat) (hk : k < N) (hty : ty k = .long) {x : Int64} {i a : Nat} (ho : (rY r).cls = own) (hw : Cond.fieldLink own i C (T k).2.1 (T k).2.2.1 ∈ lw_tbl) (hT : (T k).1 = C) (hd : decode (rB r) pc = .ok (.putfield i, 3)) (hfin : (T k).2.2.2 = false ∨ ((T k).2.2.2 = true ∧ (rY r).name = "<init>" ∧ own = C)) (ht : kT h a = ci + 1) (kk : X G M Q (pc + 3) lv st (wL h a k x)) : X G M Q pc lv (.long x :: .ref a :: st) h :=
  x_put (h1 := wL h a k x) hG hM hc k hk ho hw hT hd ht hfin (by rw [hty]; rfl) (by rw [hty]; rfl) rfl rfl rfl rfl (by rw [hty]; simp [fv, kd, wL, wLs, kL, va_up]) (fun j hj t => fv_wL hj) (fun b hb => ⟨rfl, by simp [wL, wLs, kL, va_up, hb], rfl⟩) kk
theorem x_putr (hG : gok G) (hM : mok G M r Q K) {ci N : Nat} {C own : String} {T : u_T} {ty : Nat → FieldType} (hc : cok ci C T N ty) (k : Nat) (hk : k < N) (hty : isR (ty k)) {x : Nat} {i a : Nat} (ho : (rY r).cls = own) (hw : Cond.fieldLink own i C (T k).2.1 (T k).2.2.1 ∈ lw_tbl) (hT : (T k).1 = C) (hd : decode (rB r) pc = .ok (.putfield i, 3)) (hfin : (T k).2.2.2 = false ∨ ((T k).2.2.2 = true ∧ (rY r).name = "<init>" ∧ own = C)) (ht : kT h a = ci + 1) (kk : X G M Q (pc + 3) lv st (wR h a k (some x))) : X G M Q pc lv (.ref x :: .ref a :: st) h := by
  have hk2 : kd (ty k) = 2 := by rcases hty with ⟨n, e⟩ | ⟨n, e⟩ <;> rw [e] <;> rfl
  exact x_put (h1 := wR h a k (some x)) hG hM hc k hk ho hw hT hd ht hfin (by rcases hty with ⟨n, e⟩ | ⟨n, e⟩ <;> rw [e] <;> rfl) (by rcases hty with ⟨n, e⟩ | ⟨n, e⟩ <;> rw [e] <;> rfl) rfl rfl rfl rfl (by rw [hk2]; simp [fv, wR, wRs, kR, va_up, va_rf]) (fun j hj t => fv_wR hj) (fun b hb => ⟨rfl, rfl, by simp [wR, wRs, kR, va_up, hb]⟩) kk
end XH
