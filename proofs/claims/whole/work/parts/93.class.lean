/-! THE CLASS AS A WHOLE: what its fields and rows say of σ -/
theorem RSt_of {ρ ρ' : Rs} {σ : Wd} (h : RSt ρ σ) (e0 : nR ρ' (32, 0, 0) = nR ρ (32, 0, 0)) (e1 : iR ρ' (32, 0, 0) = iR ρ (32, 0, 0)) (e2 : nR ρ' (32, 1, 0) = nR ρ (32, 1, 0)) (e3 : lR ρ' (32, 1, 0) = lR ρ (32, 1, 0)) (e4 : iR ρ' (5, 0, 0) 3 = iR ρ (5, 0, 0) 3) : RSt ρ' σ := by
  unfold RSt at *
  rw [e0, e1, e2, e3, e4]; exact h
theorem RM_of {ρ ρ' : Rs} {σ : Wd} (h : RM ρ σ) (e0 : nR ρ' (33, 0, 0) = nR ρ (33, 0, 0)) (e1 : iR ρ' (33, 0, 0) = iR ρ (33, 0, 0)) (e2 : iR ρ' (6, 0, 0) 1 = iR ρ (6, 0, 0) 1) : RM ρ' σ := by
  unfold RM at *
  rw [e0, e1, e2]; exact h
theorem RNu_of {ρ ρ' : Rs} {σ : Wd} {w : Nat} (h : RNu ρ σ w) (e0 : nR ρ' (gNo w) = nR ρ (gNo w)) (e1 : iR ρ' (gNo w) = iR ρ (gNo w)) : RNu ρ' σ w := by
  unfold RNu at *
  rw [e0, e1]; exact h
theorem RKd_of {ρ ρ' : Rs} {σ : Wd} (h : RKd ρ σ) (e0 : nR ρ' (34, 2, 0) = nR ρ (34, 2, 0)) (e1 : iR ρ' (34, 2, 0) = iR ρ (34, 2, 0)) (e2 : nR ρ' (34, 3, 0) = nR ρ (34, 3, 0)) (e3 : iR ρ' (34, 3, 0) = iR ρ (34, 3, 0)) (e4 : iR ρ' (7, 0, 0) 0 = iR ρ (7, 0, 0) 0) : RKd ρ' σ := by
  unfold RKd at *
  rw [e0, e1, e2, e3, e4]; exact h
theorem RFl_of {ρ ρ' : Rs} {σ : Wd} (h : RFl ρ σ) (e : iR ρ' (3, 0, 0) = iR ρ (3, 0, 0)) : RFl ρ' σ := by
  unfold RFl at *
  rw [e]; exact h
theorem RWo_ag {ρ ρ' : Rs} {σ : Wd} (h : RWo ρ σ) (ha : Ag nW ρ ρ') : RWo ρ' σ := by
  obtain ⟨hT, h12, hna, hA, h8, h3, h9⟩ := h
  have n : ∀ q, wrB q = true → ¬ nW q := fun q h1 h2 => by unfold nW at h2; rw [h1] at h2; cases h2
  have b1 := (ha (1, 0, 0) (n _ rfl)).2.1
  have fF : ∀ a, RF ρ σ a → RF ρ' σ a := fun a h k hk => by
    have := h k hk
    rw [(ha (23, a, k) (n _ rfl)).1, (ha (24, a, k) (n _ rfl)).1, (ha (23, a, k) (n _ rfl)).2.1]
    exact this
  refine ⟨RT_ag hT ha (by rw [b1]) (by rw [b1]) (n _ rfl) (n _ rfl), h12, by rw [b1]; exact hna, fun a h => RA_of (hA a h) ha (by rw [(ha (20, a, 0) (n _ rfl)).2.1]) (fun i j => ⟨n _ rfl, n _ rfl, n _ rfl, n _ rfl⟩), fun z => RP_ag (h8 (by rw [← b1]; exact z)) ha (n _ rfl) (ha _ (n _ rfl)).1, fun a h z => fF a (h3 a h (by rw [← (ha (20, a, 0) (n _ rfl)).2.1]; exact z)), fun z => ?_⟩
  obtain ⟨hP, hF, ch, hch⟩ := h9 (by rw [← b1]; exact z)
  exact ⟨RP_ag hP ha (n _ rfl) (ha _ (n _ rfl)).1, fun a h => fF a (hF a h), ch, fun x hx => ⟨by rw [(ha (30, 7, 0) (n _ rfl)).2.1]; exact Lk_ag ha (fun a k => n _ rfl) (hch x hx).1, (hch x hx).2⟩⟩
theorem RD_ag {ρ ρ' : Rs} {σ : Wd} (h : RD ρ σ) (ha : Ag nW ρ ρ') : RD ρ' σ := by
  have n : ∀ q, wrB q = true → ¬ nW q := fun q h1 h2 => by unfold nW at h2; rw [h1] at h2; cases h2
  obtain ⟨hP, hF, ch, hch⟩ := h
  refine ⟨RP_ag hP ha (n _ rfl) (ha _ (n _ rfl)).1, fun a h k hk => ?_, ch, fun x hx => ⟨by rw [(ha (30, 7, 0) (n _ rfl)).2.1]; exact Lk_ag ha (fun a k => n _ rfl) (hch x hx).1, (hch x hx).2⟩⟩
  have := hF a h k hk
  rw [(ha (23, a, k) (n _ rfl)).1, (ha (24, a, k) (n _ rfl)).1, (ha (23, a, k) (n _ rfl)).2.1]
  exact this
theorem RG_ag {ρ ρ' : Rs} {σ : Wd} {P : Ro → Prop} (h : RG ρ σ) (ha : Ag P ρ ρ') (hP : ¬ P (10, 0, 0) ∧ ¬ P (11, 0, 0) ∧ ¬ P (12, 0, 0) ∧ ¬ P (13, 0, 0)) : RG ρ' σ := ⟨Cls_ag h.1 ha hP.1 hP.2.1 hP.2.2.1 hP.2.2.2, h.2⟩
/-- the acts that are needed, as a set of bits -/
def isNd (σ : Wd) (n : Nat) : Prop := n < 4096 ∧ ∀ a, (n.testBit a = true ↔ a < dA σ ∧ ¬ isRW σ (some a) (fun _ => false))
theorem isNd_uni {σ : Wd} {n n' : Nat} (h : isNd σ n) (h' : isNd σ n') : n = n' := by
  apply Nat.eq_of_testBit_eq
  intro a
  rw [Bool.eq_iff_iff, h.2 a, h'.2 a]
/-- the stamps: 0 latest, 1 world, 2 start, 3 aim, 4 reach, 5 aim's row, 7 8 9 numbers, 10 kinds, 11 needed, 12 cover -/
def RSp (ρ : Rs) (st : Nat → Nat) : Prop := (∀ i, i < 4 → lR ρ (4, 0, 0) i = lN (st i)) ∧ lR ρ (5, 0, 0) 4 = lN (st 4) ∧ lR ρ (6, 0, 0) 2 = lN (st 5) ∧ (∀ i, 1 ≤ i → i ≤ 3 → lR ρ (33, 6, 0) i = lN (st (6 + i))) ∧ lR ρ (7, 0, 0) 1 = lN (st 10) ∧ lR ρ (0, 0, 0) 10 = lN (st 11) ∧ lR ρ (3, 0, 0) 6 = lN (st 12)
def RVd (ρ : Rs) (σ : Wd) (st : Nat → Nat) : Prop := (st 1 ≤ st 4 → st 2 ≤ st 4 → RSt ρ σ) ∧ (st 1 ≤ st 5 → st 3 ≤ st 5 → RM ρ σ) ∧ (∀ i, 1 ≤ i → i ≤ 3 → st 1 ≤ st (6 + i) → st 3 ≤ st (6 + i) → RNu ρ σ i) ∧ (st 1 ≤ st 10 → st 3 ≤ st 10 → RKd ρ σ) ∧ (st 0 ≤ st 11 → ∃ n, isNd σ n ∧ iR ρ (0, 0, 0) 9 = nI n) ∧ (st 0 ≤ st 12 → RFl ρ σ)
def RC (ρ : Rs) (σ : Wd) (B : Nat) : Prop := Wok σ ∧ RWo ρ σ ∧ RG ρ σ ∧ RCv ρ σ ∧ iR ρ (0, 0, 0) 8 = nI (dB σ) ∧ KRm (nR ρ) ∧ ∃ st, RSp ρ st ∧ (∀ i, i ≤ 12 → st i ≤ st 0) ∧ st 0 ≤ B ∧ RVd ρ σ st
/-- roles of caches -/
theorem RSp_ag {ρ ρ' : Rs} {st : Nat → Nat} (h : RSp ρ st) (e4 : lR ρ' (4, 0, 0) = lR ρ (4, 0, 0)) (e5 : lR ρ' (5, 0, 0) = lR ρ (5, 0, 0)) (e6 : lR ρ' (6, 0, 0) = lR ρ (6, 0, 0)) (e33 : lR ρ' (33, 6, 0) = lR ρ (33, 6, 0)) (e7 : lR ρ' (7, 0, 0) = lR ρ (7, 0, 0)) (e0 : lR ρ' (0, 0, 0) = lR ρ (0, 0, 0)) (e3 : lR ρ' (3, 0, 0) = lR ρ (3, 0, 0)) : RSp ρ' st := by
  unfold RSp at *
  rw [e4, e5, e6, e33, e7, e0, e3]; exact h
theorem KRm_of {n n' : Ro → Nat} (h : KRm n) (e : ∀ f, n' (34, f, 0) = n (34, f, 0)) : KRm n' := by
  obtain ⟨r, h1, h2, h3, h4⟩ := h
  exact ⟨r, h1, fun f hf => by rw [e]; exact h2 f hf, by rw [e]; exact h3, by rw [e]; exact h4⟩
theorem nW_ag {P : Ro → Prop} {ρ ρ' : Rs} (ha : Ag P ρ ρ') (h : ∀ q, P q → nW q) : Ag nW ρ ρ' := Ag_mono ha h
theorem n10 (i j : Nat) : ¬ nW (10, i, j) ∧ ¬ nW (11, i, j) ∧ ¬ nW (12, i, j) ∧ ¬ nW (13, i, j) := by
  refine ⟨fun h => ?_, fun h => ?_, fun h => ?_, fun h => ?_⟩ <;> cases h
/-- where only caches changed -/
theorem RC_mk {ρ ρ' : Rs} {σ : Wd} {B : Nat} {st : Nat → Nat} (h : RC ρ σ B) (ha : Ag nW ρ ρ') (h3 : iR ρ' (3, 0, 0) 0 = iR ρ (3, 0, 0) 0) (h8 : iR ρ' (0, 0, 0) 8 = iR ρ (0, 0, 0) 8) (hm : KRm (nR ρ')) (hs : RSp ρ' st) (hb : ∀ i, i ≤ 12 → st i ≤ st 0) (hB : st 0 ≤ B) (hv : RVd ρ' σ st) : RC ρ' σ B := by
  obtain ⟨g1, g2, g3, g4, g5, -, -⟩ := h
  exact ⟨g1, RWo_ag g2 ha, RG_ag g3 ha (n10 0 0), RCv_ag g4 ha h3 (fun j => n10 1 j), h8.trans g5, hm, st, hs, hb, hB, hv⟩
/-- where only the world's rows changed -/
theorem RC_pw {ρ ρ' : Rs} {σ : Wd} {B : Nat} (h : RC ρ σ B) (hw : RWo ρ' σ) (ha : Ag PW ρ ρ') : RC ρ' σ B := by
  obtain ⟨g1, g2, g3, g4, g5, g6, st, s1, s2, s3, v1, v2, v3, v4, v5, v6⟩ := h
  have n : ∀ q : Ro, (q.1 = 0 ∨ q.1 = 3 ∨ q.1 = 4 ∨ q.1 = 5 ∨ q.1 = 6 ∨ q.1 = 7 ∨ q.1 = 10 ∨ q.1 = 11 ∨ q.1 = 12 ∨ q.1 = 13 ∨ q.1 = 32 ∨ q.1 = 33 ∨ q.1 = 34) → ¬ PW q := by
    rintro ⟨a, b, c⟩ hq hp
    simp only [PW, Prod.mk.injEq] at hp hq
    omega
  have A := fun q hq => ha q (n q hq)
  refine ⟨g1, hw, RG_ag g3 ha ⟨n _ (by simp), n _ (by simp), n _ (by simp), n _ (by simp)⟩, RCv_ag g4 ha (by rw [(A (3, 0, 0) (by simp)).2.1]) (fun j => ⟨n _ (by simp), n _ (by simp), n _ (by simp), n _ (by simp)⟩), by rw [(A (0, 0, 0) (by simp)).2.1]; exact g5, KRm_of g6 (fun f => (A (34, f, 0) (by simp)).1), st, RSp_ag s1 (A (4, 0, 0) (by simp)).2.2 (A (5, 0, 0) (by simp)).2.2 (A (6, 0, 0) (by simp)).2.2 (A (33, 6, 0) (by simp)).2.2 (A (7, 0, 0) (by simp)).2.2 (A (0, 0, 0) (by simp)).2.2 (A (3, 0, 0) (by simp)).2.2, s2, s3, ?_, ?_, ?_, ?_, ?_, ?_⟩
  · intro x y; exact RSt_of (v1 x y) (A (32, 0, 0) (by simp)).1 (A (32, 0, 0) (by simp)).2.1 (A (32, 1, 0) (by simp)).1 (A (32, 1, 0) (by simp)).2.2 (by rw [(A (5, 0, 0) (by simp)).2.1])
  · intro x y; exact RM_of (v2 x y) (A (33, 0, 0) (by simp)).1 (A (33, 0, 0) (by simp)).2.1 (by rw [(A (6, 0, 0) (by simp)).2.1])
  · intro i i1 i2 x y
    have hg : (gNo i).1 = 33 := by unfold gNo; split <;> (try split) <;> rfl
    exact RNu_of (v3 i i1 i2 x y) (A (gNo i) (by simp [hg])).1 (A (gNo i) (by simp [hg])).2.1
  · intro x y; exact RKd_of (v4 x y) (A (34, 2, 0) (by simp)).1 (A (34, 2, 0) (by simp)).2.1 (A (34, 3, 0) (by simp)).1 (A (34, 3, 0) (by simp)).2.1 (by rw [(A (7, 0, 0) (by simp)).2.1])
  · intro x
    rw [(A (0, 0, 0) (by simp)).2.1]; exact v5 x
  · intro x; exact RFl_of (v6 x) (A (3, 0, 0) (by simp)).2.1
