/-! arrays, makings, calls -/
section XA
variable {G : Gc} {M : Mc} {r : Mr} {Q : State → Prop} {K : Option Value → Hp → Prop} {pc : Nat} {lv : List (Nat × Value)} {st : List Value} {h : Hp}
theorem x_iaload (hG : gok G) (hM : mok G M r Q K) {a : Nat} {i : Int32} (hd : decode (rB r) pc = .ok (.iaload, 1)) (ht : kT h a = 50) (hi : vp_in i (kN h a)) (kk : X G M Q (pc + 1) lv (.int (kI h a i.toNatClampNeg) :: st) h) : X G M Q pc lv (.int i :: .ref a :: st) h := by
  intro a1 a2 a3 H locs ls hP hS hl
  have hb := hin a3 ht (by omega)
  have hg := hpw_get (cA := gA G) hb.1 hb.2
  rw [ek_i ht (Or.inl rfl)] at hg
  exact va_iald (mx hM) (mb hM) (gK hG hM) hP _ 0 hg rfl hi hd (kk a1 a2 a3 H locs ls hP hS hl)
theorem x_zaload (hG : gok G) (hM : mok G M r Q K) {a : Nat} {i : Int32} (hd : decode (rB r) pc = .ok (.baload, 1)) (ht : kT h a = 51) (hi : vp_in i (kN h a)) (kk : X G M Q (pc + 1) lv (.int (kI h a i.toNatClampNeg) :: st) h) : X G M Q pc lv (.int i :: .ref a :: st) h := by
  intro a1 a2 a3 H locs ls hP hS hl
  have hb := hin a3 ht (by omega)
  have hg := hpw_get (cA := gA G) hb.1 hb.2
  rw [ek_i ht (Or.inr rfl)] at hg
  exact va_zald (mx hM) (mb hM) (gK hG hM) hP _ 1 hg rfl hi hd (kk a1 a2 a3 H locs ls hP hS hl)
theorem x_laload (hG : gok G) (hM : mok G M r Q K) {a : Nat} {i : Int32} (hd : decode (rB r) pc = .ok (.laload, 1)) (ht : kT h a = 52) (hi : vp_in i (kN h a)) (kk : X G M Q (pc + 1) lv (.long (kL h a i.toNatClampNeg) :: st) h) : X G M Q pc lv (.int i :: .ref a :: st) h := by
  intro a1 a2 a3 H locs ls hP hS hl
  have hb := hin a3 ht (by omega)
  have hg := hpw_get (cA := gA G) hb.1 hb.2
  rw [ek_l ht] at hg
  exact va_lald (mx hM) (mb hM) (gK hG hM) hP _ 2 hg rfl hi hd (kk a1 a2 a3 H locs ls hP hS hl)
theorem x_aaload (hG : gok G) (hM : mok G M r Q K) (t : Nat) {a b : Nat} {i : Int32} {C : String} (ht2 : (tyz (gA G))[t - 50]? = some (gA G (t - 50), .object C)) (h53 : 53 ≤ t) (hd : decode (rB r) pc = .ok (.aaload, 1)) (ht : kT h a = t) (hi : vp_in i (kN h a)) (hr : kR h a i.toNatClampNeg = some b) (kk : X G M Q (pc + 1) lv (.ref b :: st) h) : X G M Q pc lv (.int i :: .ref a :: st) h := by
  intro a1 a2 a3 H locs ls hP hS hl
  have hb := hin a3 ht (by omega)
  have hg := hpw_get (cA := gA G) hb.1 hb.2
  rw [ek_r ht h53] at hg
  refine va_aldq (mx hM) (mb hM) (gK hG hM) hP _ (t - 50) hg ht2 hi hd ?_
  rw [hr]
  exact kk a1 a2 a3 H locs ls hP hS hl
theorem x_alen (hG : gok G) (hM : mok G M r Q K) (t : Nat) {a : Nat} {ty : FieldType} (ht2 : (tyz (gA G))[t - 50]? = some (gA G (t - 50), ty)) (h50 : 50 ≤ t) (hd : decode (rB r) pc = .ok (.arraylength, 1)) (ht : kT h a = t) (kk : X G M Q (pc + 1) lv (.int (nI (kN h a)) :: st) h) : X G M Q pc lv (.ref a :: st) h := by
  intro a1 a2 a3 H locs ls hP hS hl
  have hb := hin a3 ht (by omega)
  have hg := hpw_get (cA := gA G) hb.1 hb.2
  have he : ek (gA G) h a = .inl (gA G (t - 50), kN h a, ea h a) := by unfold ek; rw [ht, if_neg (by omega)]
  rw [he] at hg
  exact va_alen (mx hM) (mb hM) (gK hG hM) hP _ (t - 50) hg ht2 (v := nI (kN h a)) rfl hd (kk a1 a2 a3 H locs ls hP hS hl)
/-- behind a store into an array -/
theorem x_after {a pc2 : Nat} {h1 : Hp} {e : va_E} {ls : Array Slot} (a1 : (mS M).heap.size ≤ kX h) (a2 : mZ M ≤ kS h) (a3 : hok (gB G) h) (hb : gB G ≤ a ∧ a < kX h) (e1 : kT h1 = kT h) (e2 : kN h1 = kN h) (e3 : kX h1 = kX h) (e4 : kS h1 = kS h) (he : ek (gA G) h1 a = e) (hs2 : ∀ b, b ≠ a → kI h1 b = kI h b ∧ kL h1 b = kL h b ∧ kR h1 b = kR h b) (hl : lv_has ls (mC M).maxLocals lv) (kk : X G M Q pc2 lv st h1) :
    ∀ (H1 : Heap) (locs1 : List Loc), va_P (gD G) vcl ((hpw (gA G) (gB G) h).set (a - gB G) (a, e)) H1 → va_D (fun q => gB G ≤ q) ((hpw (gA G) (gB G) h).set (a - gB G) (a, e)) → va_S (fun q => gB G ≤ q) (mS M).heap H1 locs1 → Wx G M H1 locs1 (kX h - (mS M).heap.size) (kS h - mZ M) Q (F0 (mI M) pc2 ls st) := by
  intro H1 locs1 hP1 _ hS1
  rw [hpw_set hb.1 hb.2 e3 he (fun b hb => ek_ne (congrFun e1 b) (congrFun e2 b) (hs2 b hb).1 (hs2 b hb).2.1 (hs2 b hb).2.2)] at hP1
  have := kk (by rw [e3]; exact a1) (by rw [e4]; exact a2) (hok_keep a3 e1 e3 e4) H1 locs1 ls hP1 hS1 hl
  rw [e3, e4] at this
  exact this
theorem x_iastore (hG : gok G) (hM : mok G M r Q K) {a : Nat} {i x : Int32} (hd : decode (rB r) pc = .ok (.iastore, 1)) (ht : kT h a = 50) (hi : vp_in i (kN h a)) (kk : X G M Q (pc + 1) lv st (wI h a i.toNatClampNeg x)) : X G M Q pc lv (.int x :: .int i :: .ref a :: st) h := by
  intro a1 a2 a3 H locs ls hP hS hl
  have hb := hin a3 ht (by omega)
  have hg := hpw_get (cA := gA G) hb.1 hb.2
  rw [ek_i ht (Or.inl rfl)] at hg
  exact va_iast (mx hM) (mb hM) (gK hG hM) hP hpw_D hS _ 0 hg rfl hi hd (x_after (h1 := wI h a i.toNatClampNeg x) a1 a2 a3 hb rfl rfl rfl rfl (by rw [ek_i (h := wI h a i.toNatClampNeg x) ht (Or.inl rfl)]; simp only [wI, wIs, kI, kN, ups]; rfl) (fun b hb => ⟨by simp [wI, wIs, kI, va_up, hb], rfl, rfl⟩) hl kk)
theorem nb_nar {x : Int32} (hx : nb x) : vp_nar .boolean x = x := by rcases hx with rfl | rfl <;> rfl
theorem x_zastore (hG : gok G) (hM : mok G M r Q K) {a : Nat} {i x : Int32} (hd : decode (rB r) pc = .ok (.bastore, 1)) (ht : kT h a = 51) (hi : vp_in i (kN h a)) (hx : nb x) (kk : X G M Q (pc + 1) lv st (wI h a i.toNatClampNeg x)) : X G M Q pc lv (.int x :: .int i :: .ref a :: st) h := by
  intro a1 a2 a3 H locs ls hP hS hl
  have hb := hin a3 ht (by omega)
  have hg := hpw_get (cA := gA G) hb.1 hb.2
  rw [ek_i ht (Or.inr rfl)] at hg
  exact va_zast (mx hM) (mb hM) (gK hG hM) hP hpw_D hS _ 1 hg rfl hi hd (x_after (h1 := wI h a i.toNatClampNeg x) a1 a2 a3 hb rfl rfl rfl rfl (by rw [ek_i (h := wI h a i.toNatClampNeg x) ht (Or.inr rfl), nb_nar hx]; simp only [wI, wIs, kI, kN, ups]; rfl) (fun b hb => ⟨by simp [wI, wIs, kI, va_up, hb], rfl, rfl⟩) hl kk)
theorem x_lastore (hG : gok G) (hM : mok G M r Q K) {a : Nat} {i : Int32} {x : Int64} (hd : decode (rB r) pc = .ok (.lastore, 1)) (ht : kT h a = 52) (hi : vp_in i (kN h a)) (kk : X G M Q (pc + 1) lv st (wL h a i.toNatClampNeg x)) : X G M Q pc lv (.long x :: .int i :: .ref a :: st) h := by
  intro a1 a2 a3 H locs ls hP hS hl
  have hb := hin a3 ht (by omega)
  have hg := hpw_get (cA := gA G) hb.1 hb.2
  rw [ek_l ht] at hg
  exact va_last (mx hM) (mb hM) (gK hG hM) hP hpw_D hS _ 2 hg rfl hi hd (x_after (h1 := wL h a i.toNatClampNeg x) a1 a2 a3 hb rfl rfl rfl rfl (by rw [ek_l (h := wL h a i.toNatClampNeg x) ht]; simp only [wL, wLs, kL, kN, ups]; rfl) (fun b hb => ⟨rfl, by simp [wL, wLs, kL, va_up, hb], rfl⟩) hl kk)
theorem x_aastore (hG : gok G) (hM : mok G M r Q K) (t ci : Nat) {a v N : Nat} {i : Int32} {C : String} {T : u_T} (hc : vcl[ci]? = some (C, T, N)) (hci : ci < 49) (ht2 : (tyz (gA G))[t - 50]? = some (gA G (t - 50), .object C)) (h53 : 53 ≤ t) (hd : decode (rB r) pc = .ok (.aastore, 1)) (ht : kT h a = t) (hv : kT h v = ci + 1) (hi : vp_in i (kN h a)) (kk : X G M Q (pc + 1) lv st (wR h a i.toNatClampNeg (some v))) : X G M Q pc lv (.ref v :: .int i :: .ref a :: st) h := by
  intro a1 a2 a3 H locs ls hP hS hl
  have hb := hin a3 ht (by omega)
  have hg := hpw_get (cA := gA G) hb.1 hb.2
  have hb2 := hin a3 hv (by omega)
  have hg2 := hpw_get (cA := gA G) hb2.1 hb2.2
  rw [ek_r ht h53] at hg
  rw [ek_o hv hci] at hg2
  exact va_astq (mx hM) (mb hM) (gK hG hM) hP hpw_D hS _ (t - 50) _ ci hg ht2 hg2 hc hi hd (x_after (h1 := wR h a i.toNatClampNeg (some v)) a1 a2 a3 hb rfl rfl rfl rfl (by rw [ek_r (h := wR h a i.toNatClampNeg (some v)) ht h53]; simp only [wR, wRs, kR, kN, ups]) (fun b hb => ⟨rfl, rfl, by simp [wR, wRs, kR, va_up, hb]⟩) hl kk)
/-- the size of the heap -/
theorem hsz {H : Heap} {base S : Nat} {D : va_G} {cA : Nat → ClassId} (hP : va_P D vcl (hpw cA base h) H) (hb : base ≤ S) (f1 : S ≤ H.size) (f2 : H.size ≤ kX h) (hS : S ≤ kX h) : H.size = kX h := by
  by_cases e : kX h = S
  · omega
  · have := (hP _ _ (hpw_get (cA := cA) (base := base) (a := kX h - 1) (h := h) (by omega) (by omega))).lt
    have : kX h - 1 < H.size := this
    omega
theorem hok_wA {base t n z : Nat} (hh : hok base h) (c1 : kX h + 1 ≤ base + capC) (c2 : kS h + z ≤ capS) : hok base (wA h t n z) := by
  refine ⟨Nat.le_succ_of_le hh.1, c1, c2, fun a ha => ?_⟩
  by_cases e : a = kX h
  · subst e
    exact ⟨hh.1, Nat.lt_succ_self _⟩
  · have : kT h a ≠ 0 := by
      have e2 : kT (wA h t n z) a = kT h a := by simp [wA, kT, va_up, e]
      rw [← e2]; exact ha
    have := hh.2.2.2 a this
    exact ⟨this.1, Nat.lt_succ_of_lt this.2⟩
theorem ek_wA {cA : Nat → ClassId} {t n z b : Nat} (hb : b ≠ kX h) : ek cA (wA h t n z) b = ek cA h b := ek_ne (by simp [wA, kT, va_up, hb]) (by simp [wA, kN, va_up, hb]) (by simp [wA, kI, va_up, hb]) (by simp [wA, kL, va_up, hb]) (by simp [wA, kR, va_up, hb])
/-- behind a making -/
theorem x_made (hM : mok G M r Q K) {pc2 t n z q : Nat} {e : va_E} {ls : Array Slot} {H1 : Heap} {locs : List Loc} (a1 : (mS M).heap.size ≤ kX h) (a2 : mZ M ≤ kS h) (a3 : hok (gB G) h) (c1 : kX h + 1 ≤ gB G + capC) (c2 : kS h + z ≤ capS) (he : ek (gA G) (wA h t n z) (kX h) = e) (hP1 : va_P (gD G) vcl (hpw (gA G) (gB G) h ++ [(q, e)]) H1) (hD1 : va_D (fun q => gB G ≤ q) (hpw (gA G) (gB G) h ++ [(q, e)])) (hS1 : va_S (fun q => gB G ≤ q) (mS M).heap H1 locs) (hl : lv_has ls (mC M).maxLocals lv) (kk : X G M Q pc2 lv (.ref (kX h) :: st) (wA h t n z)) : Wx G M H1 locs (kX h - (mS M).heap.size + 1) (kS h - mZ M + z) Q (F0 (mI M) pc2 ls (.ref q :: st)) := by
  refine W_facts (fun f1 f2 _ _ => ?_)
  have hlast : (hpw (gA G) (gB G) h ++ [(q, e)])[kX h - gB G]? = some (q, e) := by rw [List.getElem?_append_right (by rw [hpw_len]; exact Nat.le_refl _), hpw_len, Nat.sub_self]; rfl
  have q1 : q < H1.size := (hP1 _ _ hlast).lt
  have q2 : gB G ≤ q := hD1.2 _ _ hlast
  have q3 : ¬ q < kX h := by
    intro hq
    have h1 := hpw_get (cA := gA G) q2 hq
    have h2 : (hpw (gA G) (gB G) h ++ [(q, e)])[q - gB G]? = some (q, ek (gA G) h q) := by rw [List.getElem?_append_left (by rw [hpw_len]; omega)]; exact h1
    have := hD1.1 _ _ _ _ h2 hlast rfl
    omega
  have hq : q = kX h := by omega
  subst hq
  rw [hpw_push (h1 := wA h t n z) a3.1 rfl he (fun b hb => ek_wA hb)] at hP1
  have e1 : kX h - (mS M).heap.size + 1 = kX (wA h t n z) - (mS M).heap.size := by show _ = kX h + 1 - _; omega
  have e2 : kS h - mZ M + z = kS (wA h t n z) - mZ M := by show _ = kS h + z - _; omega
  refine W.cs e1 e2 ?_
  exact kk (Nat.le_succ_of_le a1) (Nat.le_trans a2 (Nat.le_add_right _ _)) (hok_wA a3 c1 c2) H1 locs ls hP1 hS1 hl
theorem x_newarray (hG : gok G) (hM : mok G M r Q K) (t : Nat) {at0 : ArrayType} {n : Int32} {N : Nat} {ty : FieldType} {a0 : vp_A} (hty : newarray.typeOf at0 = ty) (hw : Cond.arrayClass ty ∈ lw_tbl) (ht2 : (tyz (gA G))[t - 50]? = some (gA G (t - 50), ty)) (hRA : ∀ (U : State) (c : ClassId), va_RA U c ty → U.vm.findClass ("[" ++ ty.toString) = some c) (ha : ∀ cA : ClassId, vp_cell cA a0 = arrV cA N (fun _ => defaultValue ty)) (he : ek (gA G) (wA h t N N) (kX h) = .inl (gA G (t - 50), a0)) (hb8 : componentBytes ty ≤ 8) (hd : decode (rB r) pc = .ok (.newarray at0, 2)) (hn : ¬ n < 0) (hN : n.toNatClampNeg = N) (c1 : kX h + 1 ≤ gB G + capC) (c2 : kS h + N ≤ capS) (kk : X G M Q (pc + 2) lv (.ref (kX h) :: st) (wA h t N N)) : X G M Q pc lv (.int n :: st) h := by
  intro a1 a2 a3 H locs ls hP hS hl
  have m1 := mcl hM
  have m2 := msl hM
  have m3 := mbase hM
  refine va_newa (mx hM) (mb hM) (by rw [hty]; exact wd hG hM hw rfl) hty (gK hG hM) hP hpw_D hS (fun q hq => Nat.le_trans m3 hq) ha hn hN ?_ (by omega) (by omega) hd ?_
  · have : N * componentBytes ty ≤ 8000000 * 8 := Nat.mul_le_mul (by have := capS_hi; omega) hb8
    omega
  · intro q cA H1 hK1 hP1 hD1 hS1
    have r1 := hRA _ _ ((gK hG hM).2 _ _ ht2).2
    have r2 := hRA _ _ (hK1.2 (tyz (gA G)).length (cA, ty) (by rw [List.getElem?_append_right (Nat.le_refl _), Nat.sub_self]; rfl)).2
    have hcA : cA = gA G (t - 50) := Option.some.inj (r2.symm.trans r1)
    subst hcA
    exact x_made hM a1 a2 a3 c1 c2 he hP1 hD1 hS1 hl kk
theorem x_newI (hG : gok G) (hM : mok G M r Q K) {n : Int32} {N : Nat} (hw : Cond.arrayClass .int ∈ lw_tbl) (hd : decode (rB r) pc = .ok (.newarray .int, 2)) (hn : ¬ n < 0) (hN : n.toNatClampNeg = N) (c1 : kX h + 1 ≤ gB G + capC) (c2 : kS h + N ≤ capS) (kk : X G M Q (pc + 2) lv (.ref (kX h) :: st) (wA h 50 N N)) : X G M Q pc lv (.int n :: st) h :=
  x_newarray hG hM 50 (at0 := .int) (ty := .int) (a0 := (N, .inl (fun _ => 0))) rfl hw rfl (fun _ _ h => h) (fun _ => rfl) (by rw [ek_i (t := 50) (by simp [wA, kT, va_up]) (Or.inl rfl)]; simp [wA, kN, kI, va_up]) (by decide) hd hn hN c1 c2 kk
theorem x_newZ (hG : gok G) (hM : mok G M r Q K) {n : Int32} {N : Nat} (hw : Cond.arrayClass .boolean ∈ lw_tbl) (hd : decode (rB r) pc = .ok (.newarray .boolean, 2)) (hn : ¬ n < 0) (hN : n.toNatClampNeg = N) (c1 : kX h + 1 ≤ gB G + capC) (c2 : kS h + N ≤ capS) (kk : X G M Q (pc + 2) lv (.ref (kX h) :: st) (wA h 51 N N)) : X G M Q pc lv (.int n :: st) h :=
  x_newarray hG hM 51 (at0 := .boolean) (ty := .boolean) (a0 := (N, .inl (fun _ => 0))) rfl hw rfl (fun _ _ h => h) (fun _ => rfl) (by rw [ek_i (t := 51) (by simp [wA, kT, va_up]) (Or.inr rfl)]; simp [wA, kN, kI, va_up]) (by decide) hd hn hN c1 c2 kk
theorem x_newL (hG : gok G) (hM : mok G M r Q K) {n : Int32} {N : Nat} (hw : Cond.arrayClass .long ∈ lw_tbl) (hd : decode (rB r) pc = .ok (.newarray .long, 2)) (hn : ¬ n < 0) (hN : n.toNatClampNeg = N) (c1 : kX h + 1 ≤ gB G + capC) (c2 : kS h + N ≤ capS) (kk : X G M Q (pc + 2) lv (.ref (kX h) :: st) (wA h 52 N N)) : X G M Q pc lv (.int n :: st) h :=
  x_newarray hG hM 52 (at0 := .long) (ty := .long) (a0 := (N, .inr (.inl (fun _ => 0)))) rfl hw rfl (fun _ _ h => h) (fun _ => rfl) (by rw [ek_l (by simp [wA, kT, va_up])]; simp [wA, kN, kL, va_up]) (by decide) hd hn hN c1 c2 kk
theorem x_anew (hG : gok G) (hM : mok G M r Q K) (t : Nat) {n : Int32} {N i : Nat} {C own : String} (ho : (rY r).cls = own) (hw : Cond.classLink own i C ∈ lw_tbl) (hw2 : Cond.arrayOver (.object C) ∈ lw_tbl) (ht2 : (tyz (gA G))[t - 50]? = some (gA G (t - 50), .object C)) (h53 : 53 ≤ t) (hd : decode (rB r) pc = .ok (.anewarray i, 3)) (hn : ¬ n < 0) (hN : n.toNatClampNeg = N) (c1 : kX h + 1 ≤ gB G + capC) (c2 : kS h + N ≤ capS) (kk : X G M Q (pc + 3) lv (.ref (kX h) :: st) (wA h t N N)) : X G M Q pc lv (.int n :: st) h := by
  intro a1 a2 a3 H locs ls hP hS hl
  have m1 := mcl hM
  have m2 := msl hM
  have m3 := mbase hM
  refine va_newq (mx hM) (mb hM) (by rw [← ho]; exact mo hM) (wd hG hM hw rfl) (va_AO.moved (mw hM).alike (va_AO.of (hG.1 _ hw2))) (gK hG hM) hP hpw_D hS (fun q hq => Nat.le_trans m3 hq) hn hN (by have := capS_hi; omega) (by omega) (by omega) hd ?_
  intro q cA H1 hK1 hP1 hD1 hS1
  obtain ⟨_, _, _, _, _, r1⟩ := ((gK hG hM).2 _ _ ht2).2
  obtain ⟨_, _, _, _, _, r2⟩ := (hK1.2 (tyz (gA G)).length (cA, .object C) (by rw [List.getElem?_append_right (Nat.le_refl _), Nat.sub_self]; rfl)).2
  have hcA : cA = gA G (t - 50) := Option.some.inj (r2.symm.trans r1)
  subst hcA
  exact x_made hM a1 a2 a3 c1 c2 (by rw [ek_r (t := t) (by simp [wA, kT, va_up]) h53]; simp [wA, kN, kR, va_up]) hP1 hD1 hS1 hl kk
theorem x_new (hG : gok G) (hM : mok G M r Q K) {ci N : Nat} {C own : String} {T : u_T} {ty : Nat → FieldType} (hc : cok ci C T N ty) {i : Nat} (ho : (rY r).cls = own) (hw : Cond.classLink own i C ∈ lw_tbl) (hw2 : Cond.instantiable C N ∈ lw_tbl) (hw3 : Cond.initialized C ∈ lw_tbl) (hdv : ∀ k, k < N → defaultValue (ty k) = if kd (ty k) = 0 then .int 0 else if kd (ty k) = 1 then .long 0 else .null) (hd : decode (rB r) pc = .ok (.new i, 3)) (c1 : kX h + 1 ≤ gB G + capC) (c2 : kS h + N ≤ capS) (kk : X G M Q (pc + 3) lv (.ref (kX h) :: st) (wA h (ci + 1) 0 N)) : X G M Q pc lv st h := by
  intro a1 a2 a3 H locs ls hP hS hl
  have m1 := mcl hM
  have m2 := msl hM
  have m3 := mbase hM
  obtain ⟨d1, d2, d3, d4, d5, d6, d7⟩ := hc
  refine va_new (fs := fvs (fkz ci) (wA h (ci + 1) 0 N) (kX h)) (mx hM) (mb hM) (own := own) (Ts := u_ws C T N) (fun w hw => wd hG hM (d2 w hw).1 (d2 w hw).2) (fun w hw => hw) ty d3 (by rw [← ho]; exact mo hM) (wd hG hM hw rfl) (wd hG hM hw2 rfl) (wd hG hM hw3 rfl) (gK hG hM) hP hpw_D hS (fun q hq => Nat.le_trans m3 hq) d1 ?_ (by omega) (by omega) hd ?_
  · intro j hj
    rw [hdv j hj]
    unfold vp_V
    rw [List.getD_eq_getElem?_getD, fvs_get (by omega), d6 j hj]
    simp [fv, wA, kI, kL, kR, va_up, va_rf]
  · intro q H1 hP1 hD1 hS1
    exact x_made hM a1 a2 a3 c1 c2 (ek_o (by simp [wA, kT, va_up]) d7) hP1 hD1 hS1 hl kk
end XA
