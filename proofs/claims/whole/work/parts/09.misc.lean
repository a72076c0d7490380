/-! a field's reference as a number; switches; System.arraycopy -/
def rf (h : Hp) (a k : Nat) : Nat := (kR h a k).getD 0
theorem sw_outG {x : Int32} {n : Nat} (hn : n < 2 ^ 31) (hq : ∀ k, k ≤ n → ¬ x = nI k) : x.toInt < 0 ∨ (n : Int) < x.toInt := by
  by_cases h0 : x < 0
  · exact Or.inl (by simpa using (Int32.lt_iff_toInt_lt.mp h0))
  · obtain ⟨j, hj, e⟩ := nI_of h0
    refine Or.inr ?_
    rw [e, nI_toInt hj]
    have : ¬ j ≤ n := fun hjn => hq j hjn e
    omega
theorem sw_out2 {x : Int32} (q0 : ¬ x = 0) (q1 : ¬ x = 1) (q2 : ¬ x = 2) : x.toInt < 0 ∨ 2 < x.toInt := sw_outG (n := 2) (by decide) (fun k hk => match k, hk with
  | 0, _ => q0 | 1, _ => q1 | 2, _ => q2 | k + 3, hk => absurd hk (by omega))
theorem sw_out3 {x : Int32} (q0 : ¬ x = 0) (q1 : ¬ x = 1) (q2 : ¬ x = 2) (q3 : ¬ x = 3) : x.toInt < 0 ∨ 3 < x.toInt := sw_outG (n := 3) (by decide) (fun k hk => match k, hk with
  | 0, _ => q0 | 1, _ => q1 | 2, _ => q2 | 3, _ => q3 | k + 4, hk => absurd hk (by omega))
theorem sw_out10 {x : Int32} (q0 : ¬ x = 0) (q1 : ¬ x = 1) (q2 : ¬ x = 2) (q3 : ¬ x = 3) (q4 : ¬ x = 4) (q5 : ¬ x = 5) (q6 : ¬ x = 6) (q7 : ¬ x = 7) (q8 : ¬ x = 8) (q9 : ¬ x = 9) (q10 : ¬ x = 10) : x.toInt < 0 ∨ 10 < x.toInt := sw_outG (n := 10) (by decide) (fun k hk => match k, hk with
  | 0, _ => q0 | 1, _ => q1 | 2, _ => q2 | 3, _ => q3 | 4, _ => q4 | 5, _ => q5 | 6, _ => q6 | 7, _ => q7 | 8, _ => q8 | 9, _ => q9 | 10, _ => q10 | k + 11, hk => absurd hk (by omega))
theorem sw_out22 {x : Int32} (q0 : ¬ x = 0) (q1 : ¬ x = 1) (q2 : ¬ x = 2) (q3 : ¬ x = 3) (q4 : ¬ x = 4) (q5 : ¬ x = 5) (q6 : ¬ x = 6) (q7 : ¬ x = 7) (q8 : ¬ x = 8) (q9 : ¬ x = 9) (q10 : ¬ x = 10) (q11 : ¬ x = 11) (q12 : ¬ x = 12) (q13 : ¬ x = 13) (q14 : ¬ x = 14) (q15 : ¬ x = 15) (q16 : ¬ x = 16) (q17 : ¬ x = 17) (q18 : ¬ x = 18) (q19 : ¬ x = 19) (q20 : ¬ x = 20) (q21 : ¬ x = 21) (q22 : ¬ x = 22) : x.toInt < 0 ∨ 22 < x.toInt := sw_outG (n := 22) (by decide) (fun k hk => match k, hk with
  | 0, _ => q0 | 1, _ => q1 | 2, _ => q2 | 3, _ => q3 | 4, _ => q4 | 5, _ => q5 | 6, _ => q6 | 7, _ => q7 | 8, _ => q8 | 9, _ => q9 | 10, _ => q10 | 11, _ => q11 | 12, _ => q12 | 13, _ => q13 | 14, _ => q14 | 15, _ => q15 | 16, _ => q16 | 17, _ => q17 | 18, _ => q18 | 19, _ => q19 | 20, _ => q20 | 21, _ => q21 | 22, _ => q22 | k + 23, hk => absurd hk (by omega))
section XE
variable {G : Gc} {M : Mc} {r : Mr} {Q : State → Prop} {K : Option Value → Hp → Prop} {pc : Nat} {lv : List (Nat × Value)} {st : List Value} {h : Hp}
theorem x_acopy (hG : gok G) (hM : mok G M r Q K) {i a a0 : Nat} {own : String} {sp dp n : Int32} (ho : (rY r).cls = own) (hw : Cond.methodLink own i arraycopyName ∈ lw_tbl) (hw2 : Cond.native arraycopyName ∈ lw_tbl) (hw3 : Cond.static arraycopyName ∈ lw_tbl) (hw4 : Cond.initialized "java/lang/System" ∈ lw_tbl) (hf : 1 ≤ rF r) (hlo : (st.map fun v => v.category).sum + (nativeFrameWords "java/lang/System" "arraycopy" 5 + 11) ≤ rW r) (hd : decode (rB r) pc = .ok (.invokestatic i, 3)) (ht0 : kT h a0 = 50) (ht : kT h a = 50) (h1 : ¬ sp < 0) (h2 : ¬ dp < 0) (h3 : ¬ n < 0) (h4 : sp.toNatClampNeg + n.toNatClampNeg ≤ kN h a0) (h5 : dp.toNatClampNeg + n.toNatClampNeg ≤ kN h a)
    (kk : X G M Q (pc + 3) lv st (wIs h a (va_cpy (kI h a0) (kI h a) sp.toNatClampNeg dp.toNatClampNeg n.toNatClampNeg))) : X G M Q pc lv (.int n :: .int dp :: .ref a :: .int sp :: .ref a0 :: st) h := by
  intro a1 a2 a3 H locs ls hP hS hl
  have hb := hin a3 ht (by omega)
  have hg := hpw_get (cA := gA G) hb.1 hb.2
  have hb0 := hin a3 ht0 (by omega)
  have hg0 := hpw_get (cA := gA G) hb0.1 hb0.2
  rw [ek_i ht (Or.inl rfl)] at hg
  rw [ek_i ht0 (Or.inl rfl)] at hg0
  have m1 := mfr hM
  have m2 := mlo hM
  exact va_copyi (mx hM) (mb hM) hl.1.symm (by rw [← ho]; exact mo hM) (wd hG hM hw rfl) (wd hG hM hw2 rfl) (wd hG hM hw3 rfl) (wd hG hM hw4 rfl) (gK hG hM) hP hpw_D hS _ _ 0 0 hg0 hg rfl rfl rfl h1 h2 h3 h4 h5 (fun _ _ => rfl) (by omega) (by omega) hd (x_after (h1 := wIs h a (va_cpy (kI h a0) (kI h a) sp.toNatClampNeg dp.toNatClampNeg n.toNatClampNeg)) a1 a2 a3 hb rfl rfl rfl rfl (by rw [ek_i (h := wIs h a (va_cpy (kI h a0) (kI h a) sp.toNatClampNeg dp.toNatClampNeg n.toNatClampNeg)) ht (Or.inl rfl)]; simp only [wIs, kI, kN, ups]) (fun b hb => ⟨by simp [wIs, kI, va_up, hb], rfl, rfl⟩) hl kk)
theorem x_mmax (hG : gok G) (hM : mok G M r Q K) {i : Nat} {own : String} {x y : Int32} (ho : (rY r).cls = own) (hw : Cond.methodLink own i Lib.Math.max.name ∈ lw_tbl) (hw2 : Cond.static Lib.Math.max.name ∈ lw_tbl) (hw3 : Cond.initialized "java/lang/Math" ∈ lw_tbl) (hw4 : Cond.code Lib.Math.max.name Lib.Math.max.code 2 (some .int) ∈ lw_tbl) (hf : 1 ≤ rF r) (hlo : (st.map fun v => v.category).sum + 13 ≤ rW r) (hd : decode (rB r) pc = .ok (.invokestatic i, 3)) (kk : X G M Q (pc + 3) lv (.int (if x < y then y else x) :: st) h) : X G M Q pc lv (.int y :: .int x :: st) h := by
  intro a1 a2 a3 H locs ls hP hS hl
  have m1 := mfr hM
  have m2 := mlo hM
  have m3 := call_f hM a1 a2 a3
  exact va_mmax (mx hM) (mb hM) hl.1.symm (by rw [← ho]; exact mo hM) (wd hG hM hw rfl) (wd hG hM hw2 rfl) (wd hG hM hw3 rfl) (wd hG hM hw4 rfl) (by omega) (by omega) (by omega) (by omega) hd (kk a1 a2 a3 H locs ls hP hS hl)
theorem x_mmin (hG : gok G) (hM : mok G M r Q K) {i : Nat} {own : String} {x y : Int32} (ho : (rY r).cls = own) (hw : Cond.methodLink own i Lib.Math.min.name ∈ lw_tbl) (hw2 : Cond.static Lib.Math.min.name ∈ lw_tbl) (hw3 : Cond.initialized "java/lang/Math" ∈ lw_tbl) (hw4 : Cond.code Lib.Math.min.name Lib.Math.min.code 2 (some .int) ∈ lw_tbl) (hf : 1 ≤ rF r) (hlo : (st.map fun v => v.category).sum + 13 ≤ rW r) (hd : decode (rB r) pc = .ok (.invokestatic i, 3)) (kk : X G M Q (pc + 3) lv (.int (if y < x then y else x) :: st) h) : X G M Q pc lv (.int y :: .int x :: st) h := by
  intro a1 a2 a3 H locs ls hP hS hl
  have m1 := mfr hM
  have m2 := mlo hM
  have m3 := call_f hM a1 a2 a3
  exact va_mmin (mx hM) (mb hM) hl.1.symm (by rw [← ho]; exact mo hM) (wd hG hM hw rfl) (wd hG hM hw2 rfl) (wd hG hM hw3 rfl) (wd hG hM hw4 rfl) (by omega) (by omega) (by omega) (by omega) hd (kk a1 a2 a3 H locs ls hP hS hl)
theorem x_mmaxL (hG : gok G) (hM : mok G M r Q K) {i : Nat} {own : String} {x y : Int64} (ho : (rY r).cls = own) (hw : Cond.methodLink own i Lib.MathLoose.max_long.x ∈ lw_tbl) (hw2 : Cond.static Lib.MathLoose.max_long.x ∈ lw_tbl) (hw3 : Cond.initialized "java/lang/Math" ∈ lw_tbl) (hw4 : Cond.code Lib.MathLoose.max_long.x Lib.MathLoose.max_long.code 4 (some .long) ∈ lw_tbl) (hf : 1 ≤ rF r) (hlo : (st.map fun v => v.category).sum + 15 ≤ rW r) (hd : decode (rB r) pc = .ok (.invokestatic i, 3)) (kk : X G M Q (pc + 3) lv (.long (if y < x then x else y) :: st) h) : X G M Q pc lv (.long y :: .long x :: st) h := by
  intro a1 a2 a3 H locs ls hP hS hl
  have m1 := mfr hM
  have m2 := mlo hM
  have m3 := call_f hM a1 a2 a3
  exact va_mmax_long (mx hM) (mb hM) hl.1.symm (by rw [← ho]; exact mo hM) (wd hG hM hw rfl) (wd hG hM hw2 rfl) (wd hG hM hw3 rfl) (wd hG hM hw4 rfl) (by omega) (by omega) (by omega) (by omega) hd (kk a1 a2 a3 H locs ls hP hS hl)
end XE
