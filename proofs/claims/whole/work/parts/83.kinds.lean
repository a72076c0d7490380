/-! KINDS: rows as functions; moving and marking -/
theorem nI_ad (a b : Nat) : nI a + nI b = nI (a + b) := (Int32.ofNat_add a b).symm
theorem nI_sb {a b : Nat} (h : b ≤ a) : nI a - nI b = nI (a - b) := by
  have h1 : nI (a - b) + nI b = nI a := by rw [nI_ad, Nat.sub_add_cancel h]
  rw [← h1, Int32.add_sub_cancel]
def Hv (ρ : Rs) (r : Ro) (n : Nat) (f : Nat → Nat) : Prop := ∀ i, i < n → iR ρ r i = nI (f i)
theorem Hv_s {ρ : Rs} {r : Ro} {n x y : Nat} {f : Nat → Nat} (h : Hv ρ r n f) : Hv (pI ρ r x (nI y)) r n (va_up f x y) := by
  intro i hi
  rw [iR_pI]
  by_cases e : i = x
  · rw [if_pos ⟨rfl, e⟩, e, ups]
  · rw [if_neg (fun z => e z.2), upn e]; exact h i hi
theorem Hv_x {ρ : Rs} {r : Ro} {n y : Nat} {f : Nat → Nat} (h : Hv ρ r n f) : Hv (pI ρ r n (nI y)) r (n + 1) (va_up f n y) := by
  intro i hi
  rw [iR_pI]
  by_cases e : i = n
  · rw [if_pos ⟨rfl, e⟩, e, ups]
  · rw [if_neg (fun z => e z.2), upn e]; exact h i (by omega)
theorem Hv_o {ρ : Rs} {r r' : Ro} {n x : Nat} {v : Int32} {f : Nat → Nat} (hr : r ≠ r') (h : Hv ρ r n f) : Hv (pI ρ r' x v) r n f := by
  intro i hi
  rw [iR_pI, if_neg (fun z => hr z.1)]; exact h i hi
theorem Hv_ag {ρ ρ' : Rs} {P : Ro → Prop} {r : Ro} {n : Nat} {f : Nat → Nat} (h : Hv ρ r n f) (ha : Ag P ρ ρ') (hr : ¬ P r) : Hv ρ' r n f := by
  intro i hi
  rw [(ha r hr).2.1]; exact h i hi
/-- long enough -/
def KLn (n : Ro → Nat) (N : Nat) : Prop := (∀ f, (2 ≤ f ∧ f ≤ 10) ∨ (12 ≤ f ∧ f ≤ 15) → N ≤ n (34, f, 0)) ∧ ∃ r, (r = 8 ∨ r = 64 ∨ r = 512 ∨ r = 4096) ∧ N ≤ r ∧ n (34, 16, 0) = 2 * r ∧ n (34, 17, 0) = 2 * r
def KRw (ρ : Rs) (N m wc : Nat) (od pl kd fr un cc cm wt : Nat → Nat) : Prop :=
  Hv ρ (34, 4, 0) N od ∧ Hv ρ (34, 5, 0) N pl ∧ Hv ρ (34, 2, 0) N kd ∧ Hv ρ (34, 6, 0) m fr ∧ Hv ρ (34, 7, 0) m un ∧ Hv ρ (34, 8, 0) m cc ∧ Hv ρ (34, 9, 0) N cm ∧ Hv ρ (34, 10, 0) wc wt ∧ iR ρ (7, 0, 0) 0 = nI m ∧ iR ρ (7, 0, 0) 11 = nI wc
def PMk (q : Ro) : Prop := q = (7, 0, 0) ∨ q = (34, 4, 0) ∨ q = (34, 5, 0) ∨ q = (34, 8, 0) ∨ q = (34, 9, 0) ∨ q = (34, 10, 0)
def PKi (q : Ro) : Prop := q.1 = 7 ∨ q.1 = 34
theorem PKi_nW {q : Ro} (h : PKi q) : nW q := by
  unfold nW wrB
  rcases h with h | h <;> rw [h] <;> rfl
theorem PMk_Ki {q : Ro} (h : PMk q) : PKi q := by
  rcases h with h | h | h | h | h | h <;> rw [h] <;> first | exact Or.inl rfl | exact Or.inr rfl
section B29
variable {G : Gc} {ρ : Rs} {K : (Ro → Nat) → Option Value → Rs → Prop}
theorem c_move (hG : gok G) {N m wc s : Nat} {od pl kd fr un cc cm wt : Nat → Nat} {z : Prop} (hL : KLn (nR ρ) N) (hN : N ≤ 4096) (hK : KRw ρ N m wc od pl kd fr un cc cm wt) (hP : PT N m od pl kd fr un) (hC : PK m od fr un cc cm z) (nz : ¬ z) (hQ : PQ m cc wt wc) (hs : s < N) (h0 : cm s = 0)
    (k : ∀ ad ρ', KRw ρ' N m (if cc (kd s) = 0 then wc + 1 else wc) (va_up (va_up od (pl s) (od (fr (kd s) + cc (kd s)))) (fr (kd s) + cc (kd s)) s) (va_up (va_up pl (od (fr (kd s) + cc (kd s))) (pl s)) s (fr (kd s) + cc (kd s))) kd fr un (va_up cc (kd s) (cc (kd s) + 1)) cm (if cc (kd s) = 0 then va_up wt wc (kd s) else wt) → Ag PMk ρ ρ' → nR ρ' = nR ρ → K ad none ρ') :
    semV G r_Ki_moveToChanged [] (fun ad => [.ref (ad (7, 0, 0)), .int (nI s), .int (nI (kd s))]) ρ K := by
  have hmN := PT_m hP
  obtain ⟨p1, p2, -⟩ := PK_move (x := 1) hP hC nz hs h0 (by omega)
  obtain ⟨hb, hb1, hb2⟩ := hP.2.2.2.1 s hs
  have hun := (hP.2.2.1 _ hb).2
  have hps := hP.2.1 s hs
  obtain ⟨l1, -⟩ := hL
  have l2 := l1 2 (by omega); have l4 := l1 4 (by omega); have l5 := l1 5 (by omega); have l6 := l1 6 (by omega); have l7 := l1 7 (by omega); have l8 := l1 8 (by omega); have l9 := l1 9 (by omega); have l10 := l1 10 (by omega)
  obtain ⟨r4, r5, r2, r6, r7, r8, r9, r10, q0, q11⟩ := hK
  obtain ⟨b, eb⟩ : ∃ b, b = kd s := ⟨_, rfl⟩
  rw [← eb] at p1 p2 hb hb1 hb2 hun ⊢
  rw [← eb] at k
  obtain ⟨p, ep⟩ : ∃ p, p = fr b + cc b := ⟨_, rfl⟩
  rw [← ep] at p1 p2 k
  have hp : p < N := by omega
  have hop := hP.1 p hp
  refine semV_intro yk_Ki_moveToChanged.2.2.2.2 (fun _ => Nat.le_of_ble_eq_true rfl) (fun M Q ad0 hM => ?_)
  refine T_Ki_moveToChanged_0 hG hM _ _ ρ ?_
  rw [nI_clamp (n := b) (by omega), r6 b hb, r8 b hb, nI_ad, ← ep, nI_clamp (n := p) (by omega), nI_clamp (n := s) (by omega), r5 s hs, nI_clamp (n := pl s) (by omega), r4 p hp, nI_clamp (n := od p) (by omega)]
  refine ⟨in_nI (by omega) (by omega), in_nI (by omega) (by omega), in_nI (by omega) (by omega), in_nI (by omega) (by omega), in_nI (by omega) (by omega), fun ρ5 e5 => ?_⟩
  have g5 : iR ρ5 (34, 5, 0) s = nI (pl s) := by rw [e5, iR_pI, if_neg (by simp)]; exact r5 s hs
  rw [g5]
  refine ⟨in_nI (by rw [e5, nR_pI]; omega) (by omega), in_nI (by rw [e5, nR_pI]; omega) (by omega), fun ρ7 e7 => ⟨in_nI (by rw [e7, e5, nR_pI, nR_pI]; omega) (by omega), fun ρ8 e8 => ⟨in_nI (by rw [e8, e7, e5, nR_pI, nR_pI, nR_pI]; omega) (by omega), fun ρ9 e9 => ?_⟩⟩⟩
  have n9 : nR ρ9 = nR ρ := by rw [e9, e8, e7, e5]; rfl
  have a9 : Ag PMk ρ ρ9 := by
    rw [e9, e8, e7, e5]
    exact Ag_tr (Ag_pI (Or.inr (Or.inl rfl))) (Ag_tr (Ag_pI (Or.inr (Or.inr (Or.inl rfl)))) (Ag_tr (Ag_pI (Or.inr (Or.inl rfl))) (Ag_pI (Or.inr (Or.inr (Or.inl rfl))))))
  have o9 : Hv ρ9 (34, 4, 0) N (va_up (va_up od (pl s) (od p)) p s) := by
    rw [e9, e8, e7, e5]
    exact Hv_o (by decide) (Hv_s (Hv_o (by decide) (Hv_s r4)))
  have c9 : Hv ρ9 (34, 5, 0) N (va_up (va_up pl (od p) (pl s)) s p) := by
    rw [e9, e8, e7, e5]
    exact Hv_s (Hv_o (by decide) (Hv_s (Hv_o (by decide) r5)))
  have ot : ∀ (r : Ro) n (f : Nat → Nat), r ≠ (34, 4, 0) → r ≠ (34, 5, 0) → Hv ρ r n f → Hv ρ9 r n f := by
    intro r n f h1 h2 h
    rw [e9, e8, e7, e5]
    exact Hv_o h2 (Hv_o h1 (Hv_o h2 (Hv_o h1 h)))
  have s9 : ∀ j, iR ρ9 (7, 0, 0) j = iR ρ (7, 0, 0) j := by
    intro j
    rw [e9, iR_pI, if_neg (by simp), e8, iR_pI, if_neg (by simp), e7, iR_pI, if_neg (by simp), e5, iR_pI, if_neg (by simp)]
  have t8 := ot (34, 8, 0) m cc (by decide) (by decide) r8
  rw [t8 b hb, s9 11, q11]
  refine ⟨in_nI (by rw [n9]; omega) (by omega), fun y => ?_, fun y => ?_⟩
  · have y : cc b = 0 := (nI_eq (b := 0) (by omega) (by decide)).mp y
    have hwc := PQ_lt hQ hb y
    rw [nI_clamp (by omega)]
    refine ⟨in_nI (by rw [n9]; omega) (by omega), fun ρ14 e14 ρ15 e15 => ?_⟩
    have s14 : iR ρ14 (7, 0, 0) 11 = nI wc := by rw [e14, iR_pI, if_neg (by simp), s9]; exact q11
    rw [s14, nI_1] at e15
    have t15 : iR ρ15 (34, 8, 0) b = nI (cc b) := by rw [e15, iR_pI, if_neg (by simp), e14, iR_pI, if_neg (by simp)]; exact t8 b hb
    rw [t15, nI_1]
    refine ⟨in_nI (by rw [e15, e14]; show b < nR ρ9 (34, 8, 0); rw [n9]; omega) (by omega), in_nI (by rw [e15, e14]; show b < nR ρ9 (34, 8, 0); rw [n9]; omega) (by omega), fun ρ17 e17 ad => ?_⟩
    rw [if_pos y, if_pos y] at k
    refine k ad ρ17 ⟨?_, ?_, ?_, ?_, ?_, ?_, ?_, ?_, ?_, ?_⟩ ?_ ?_
    · rw [e17, e15, e14]; exact Hv_o (by decide) (Hv_o (by decide) (Hv_o (by decide) o9))
    · rw [e17, e15, e14]; exact Hv_o (by decide) (Hv_o (by decide) (Hv_o (by decide) c9))
    · rw [e17, e15, e14]; exact Hv_o (by decide) (Hv_o (by decide) (Hv_o (by decide) (ot _ _ _ (by decide) (by decide) r2)))
    · rw [e17, e15, e14]; exact Hv_o (by decide) (Hv_o (by decide) (Hv_o (by decide) (ot _ _ _ (by decide) (by decide) r6)))
    · rw [e17, e15, e14]; exact Hv_o (by decide) (Hv_o (by decide) (Hv_o (by decide) (ot _ _ _ (by decide) (by decide) r7)))
    · rw [e17, e15, e14]; exact Hv_s (Hv_o (by decide) (Hv_o (by decide) t8))
    · rw [e17, e15, e14]; exact Hv_o (by decide) (Hv_o (by decide) (Hv_o (by decide) (ot _ _ _ (by decide) (by decide) r9)))
    · rw [e17, e15, e14]; exact Hv_o (by decide) (Hv_o (by decide) (Hv_x (ot _ _ _ (by decide) (by decide) r10)))
    · rw [e17, iR_pI, if_neg (by simp), e15, iR_pI, if_neg (by simp), e14, iR_pI, if_neg (by simp), s9]; exact q0
    · rw [e17, iR_pI, if_neg (by simp), e15, iR_pI, if_pos ⟨rfl, rfl⟩]
    · rw [e17, e15, e14]
      exact Ag_tr a9 (Ag_tr (Ag_pI (Or.inr (Or.inr (Or.inr (Or.inr (Or.inr rfl)))))) (Ag_tr (Ag_pI (Or.inl rfl)) (Ag_pI (Or.inr (Or.inr (Or.inr (Or.inl rfl)))))))
    · rw [e17, e15, e14]; exact n9
  · have y : ¬ cc b = 0 := fun x => y (by rw [x]; rfl)
    rw [nI_1]
    refine ⟨in_nI (by rw [n9]; omega) (by omega), in_nI (by rw [n9]; omega) (by omega), fun ρ12 e12 ad => ?_⟩
    rw [if_neg y, if_neg y] at k
    refine k ad ρ12 ⟨?_, ?_, ?_, ?_, ?_, ?_, ?_, ?_, ?_, ?_⟩ ?_ ?_
    · rw [e12]; exact Hv_o (by decide) o9
    · rw [e12]; exact Hv_o (by decide) c9
    · rw [e12]; exact Hv_o (by decide) (ot _ _ _ (by decide) (by decide) r2)
    · rw [e12]; exact Hv_o (by decide) (ot _ _ _ (by decide) (by decide) r6)
    · rw [e12]; exact Hv_o (by decide) (ot _ _ _ (by decide) (by decide) r7)
    · rw [e12]; exact Hv_s t8
    · rw [e12]; exact Hv_o (by decide) (ot _ _ _ (by decide) (by decide) r9)
    · rw [e12]; exact Hv_o (by decide) (ot _ _ _ (by decide) (by decide) r10)
    · rw [e12, iR_pI, if_neg (by simp), s9]; exact q0
    · rw [e12, iR_pI, if_neg (by simp), s9]; exact q11
    · rw [e12]
      exact Ag_tr a9 (Ag_pI (Or.inr (Or.inr (Or.inr (Or.inl rfl)))))
    · rw [e12]; exact n9
end B29
