/-! THE LAW'S LOOP: what holds between two calls, a pair of calls for each case -/
theorem RMo_cl {ρ ρ' : Rs} {σ : Wd} (h : RMo ρ σ) (ha : Ag PCl ρ ρ') : RMo ρ' σ := RMo_p h ha (by simp [PCl]) (fun f _ _ _ => by simp [PCl])
theorem RC_mo {ρ ρ' : Rs} {σ : Wd} {B : Nat} (h : RC ρ σ B) (ha : Ag PMo ρ ρ') : RC ρ' σ B := by
  have h0 := h
  obtain ⟨g1, g2, g3, g4, g5, g6, st, s1, s2, s3, v1, v2, v3, v4, v5, v6⟩ := h
  have n : ∀ q : Ro, q.1 < 40 → ¬ PMo q := fun q h1 h2 => absurd h1 (Nat.not_lt.mpr h2)
  have A := fun q hq => ha q (n q hq)
  refine RC_mk (st := st) h0 (nW_ag ha (fun q hq => ?_)) (by rw [(A (3, 0, 0) (by decide)).2.1]) (by rw [(A (0, 0, 0) (by decide)).2.1]) (KRm_of g6 (fun f => (A (34, f, 0) (by simp)).1)) (RSp_ag s1 (A (4, 0, 0) (by decide)).2.2 (A (5, 0, 0) (by decide)).2.2 (A (6, 0, 0) (by decide)).2.2 (A (33, 6, 0) (by decide)).2.2 (A (7, 0, 0) (by decide)).2.2 (A (0, 0, 0) (by decide)).2.2 (A (3, 0, 0) (by decide)).2.2) s2 s3 ⟨?_, ?_, ?_, ?_, ?_, ?_⟩
  · obtain ⟨a, b, c⟩ := q
    have hq' : 40 ≤ a := hq
    unfold nW wrB
    simp only [Bool.or_eq_false_iff, beq_eq_false_iff_ne, Bool.and_eq_false_iff, decide_eq_false_iff_not]
    omega
  · intro x y; exact RSt_of (v1 x y) (A (32, 0, 0) (by decide)).1 (A (32, 0, 0) (by decide)).2.1 (A (32, 1, 0) (by decide)).1 (A (32, 1, 0) (by decide)).2.2 (by rw [(A (5, 0, 0) (by decide)).2.1])
  · intro x y; exact RM_of (v2 x y) (A (33, 0, 0) (by decide)).1 (A (33, 0, 0) (by decide)).2.1 (by rw [(A (6, 0, 0) (by decide)).2.1])
  · intro i i1 i2 x y
    have hg : (gNo i).1 = 33 := by unfold gNo; split <;> (try split) <;> rfl
    exact RNu_of (v3 i i1 i2 x y) (A (gNo i) (by rw [hg]; decide)).1 (A (gNo i) (by rw [hg]; decide)).2.1
  · intro x y; exact RKd_of (v4 x y) (A (34, 2, 0) (by decide)).1 (A (34, 2, 0) (by decide)).2.1 (A (34, 3, 0) (by decide)).1 (A (34, 3, 0) (by decide)).2.1 (by rw [(A (7, 0, 0) (by decide)).2.1])
  · intro x; rw [(A (0, 0, 0) (by decide)).2.1]; exact v5 x
  · intro x; exact RFl_of (v6 x) (A (3, 0, 0) (by decide)).2.1
/-- WHAT HOLDS BETWEEN TWO CALLS: one world σ, held by the class and by the reference -/
def Inv (G : Gc) (v1 v2 B : Nat) (h : Hp) : Prop := ∃ (ad : Ro → Nat) (ρ : Rs) (σ : Wd), Vw G ad h ρ ∧ ad (0, 0, 0) = v1 ∧ ad (40, 0, 0) = v2 ∧ RC ρ σ B ∧ RMo ρ σ
section PRS
variable {G : Gc} {M : Mc} {Q : State → Prop} {K : Option Value → Hp → Prop} {h : Hp} {v1 v2 b L n B : Nat} {xs : Nat → Int32}
theorem Inv_B (I : Inv G v1 v2 B h) : Inv G v1 v2 (B + 1) h := by
  obtain ⟨ad, ρ, σ, V, e1, e2, hc, hm⟩ := I
  exact ⟨ad, ρ, σ, V, e1, e2, RC_le hc (Nat.le_succ B), hm⟩
/-- a pair of calls that step -/
theorem pr_tr {rc rm : Mr} {mv mv' : List Nat} {as : List Value} {T : Int32 → Wd → Prop} {ad : Ro → Nat} {ρ : Rs} {σ : Wd} (V : Vw G ad h ρ) (e1 : ad (0, 0, 0) = v1) (e2 : ad (40, 0, 0) = v2) (hc : RC ρ σ B) (hm : RMo ρ σ) (C : ∀ K : (Ro → Nat) → Option Value → Rs → Prop, (∀ ad' ρ' r τ, RC ρ' τ (B + 1) → T r τ → Ag PCl ρ ρ' → K ad' (some (.int r)) ρ') → semV G rc mv (fun ad => .ref (ad (0, 0, 0)) :: as) ρ K) (D : ∀ ρ1, RMo ρ1 σ → ∀ K : (Ro → Nat) → Option Value → Rs → Prop, (∀ ad' ρ' r τ, RMo ρ' τ → T r τ → Ag PMo ρ1 ρ' → K ad' (some (.int r)) ρ') → semV G rm mv' (fun ad => .ref (ad (40, 0, 0)) :: as) ρ1 K) (U : ∀ r τ r' τ', T r τ → T r' τ' → r = r' ∧ τ = τ') : sem G rc (.ref v1 :: as) h (fun u h2 => ∃ x : Int32, u = some (.int x) ∧ (kT h2 v2 = 12 ∧ sem G rm (.ref v2 :: as) h2 (fun u h3 => ∃ y : Int32, u = some (.int y) ∧ (x = y ∧ Inv G v1 v2 (B + 1) h3)))) := by
  have F := C (fun _ u ρ' => ∃ r τ, u = some (.int r) ∧ RC ρ' τ (B + 1) ∧ T r τ ∧ Ag PCl ρ ρ') (fun ad' ρ' r τ a b c => ⟨r, τ, rfl, a, b, c⟩) ad h V
  rw [← e1]
  refine sem_mono F ?_
  rintro u h2 ⟨ad', ρ', V', hS, r, τ, rfl, hc', ht, ha⟩
  have f1 : ad' (0, 0, 0) = v1 := (hS _ (Or.inr rfl)).trans e1
  have f2 : ad' (40, 0, 0) = v2 := (hS _ (Or.inr rfl)).trans e2
  refine ⟨r, rfl, by rw [← f2]; exact vT V' rfl, ?_⟩
  have F2 := D ρ' (RMo_cl hm ha) (fun _ u ρ2 => ∃ r τ, u = some (.int r) ∧ RMo ρ2 τ ∧ T r τ ∧ Ag PMo ρ' ρ2) (fun ad' ρ' r τ a b c => ⟨r, τ, rfl, a, b, c⟩) ad' h2 V'
  rw [← f2]
  refine sem_mono F2 ?_
  rintro u h3 ⟨ad2, ρ2, V2, hS2, r2, τ2, rfl, hm2, ht2, ha2⟩
  obtain ⟨rfl, rfl⟩ := U _ _ _ _ ht ht2
  exact ⟨r, rfl, rfl, ad2, ρ2, τ, V2, by rw [hS2 _ (Or.inr rfl), e1]; exact f1, hS2 _ (Or.inr rfl), RC_mo hc' ha2, hm2⟩
theorem pr_an {rc rm : Mr} {mv mv' : List Nat} {as : List Value} {T : Int32 → Prop} {ad : Ro → Nat} {ρ : Rs} {σ : Wd} (V : Vw G ad h ρ) (e1 : ad (0, 0, 0) = v1) (e2 : ad (40, 0, 0) = v2) (hc : RC ρ σ B) (hm : RMo ρ σ) (C : ∀ K : (Ro → Nat) → Option Value → Rs → Prop, (∀ ad' ρ' r, RC ρ' σ B → T r → Ag PCl ρ ρ' → K ad' (some (.int r)) ρ') → semV G rc mv (fun ad => .ref (ad (0, 0, 0)) :: as) ρ K) (D : ∀ ρ1, RMo ρ1 σ → ∀ K : (Ro → Nat) → Option Value → Rs → Prop, (∀ ad' ρ' r, RMo ρ' σ → T r → Ag PMo ρ1 ρ' → K ad' (some (.int r)) ρ') → semV G rm mv' (fun ad => .ref (ad (40, 0, 0)) :: as) ρ1 K) (U : ∀ r r', T r → T r' → r = r') : sem G rc (.ref v1 :: as) h (fun u h2 => ∃ x : Int32, u = some (.int x) ∧ (kT h2 v2 = 12 ∧ sem G rm (.ref v2 :: as) h2 (fun u h3 => ∃ y : Int32, u = some (.int y) ∧ (x = y ∧ Inv G v1 v2 (B + 1) h3)))) :=
  pr_tr (T := fun r τ => T r ∧ τ = σ) V e1 e2 hc hm (fun K k => C K (fun ad' ρ' r a b c => k ad' ρ' r σ (RC_le a (Nat.le_succ B)) ⟨b, rfl⟩ c)) (fun ρ1 h1 K k => D ρ1 h1 K (fun ad' ρ' r a b c => k ad' ρ' r σ a ⟨b, rfl⟩ c)) (fun r τ r' τ' a b => ⟨U r r' a.1 b.1, a.2.trans b.2.symm⟩)
theorem pr_al {rc rm : Mr} {mv mv' : List Nat} {as : List Value} {T : Int64 → Prop} {ad : Ro → Nat} {ρ : Rs} {σ : Wd} (V : Vw G ad h ρ) (e1 : ad (0, 0, 0) = v1) (e2 : ad (40, 0, 0) = v2) (hc : RC ρ σ B) (hm : RMo ρ σ) (C : ∀ K : (Ro → Nat) → Option Value → Rs → Prop, (∀ ad' ρ' r, RC ρ' σ B → T r → Ag PCl ρ ρ' → K ad' (some (.long r)) ρ') → semV G rc mv (fun ad => .ref (ad (0, 0, 0)) :: as) ρ K) (D : ∀ ρ1, RMo ρ1 σ → ∀ K : (Ro → Nat) → Option Value → Rs → Prop, (∀ ad' ρ' r, RMo ρ' σ → T r → Ag PMo ρ1 ρ' → K ad' (some (.long r)) ρ') → semV G rm mv' (fun ad => .ref (ad (40, 0, 0)) :: as) ρ1 K) (U : ∀ r r', T r → T r' → r = r') : sem G rc (.ref v1 :: as) h (fun u h2 => ∃ x : Int64, u = some (.long x) ∧ (kT h2 v2 = 12 ∧ sem G rm (.ref v2 :: as) h2 (fun u h3 => ∃ y : Int64, u = some (.long y) ∧ (x = y ∧ Inv G v1 v2 (B + 1) h3)))) := by
  have F := C (fun _ u ρ' => ∃ r, u = some (.long r) ∧ RC ρ' σ B ∧ T r ∧ Ag PCl ρ ρ') (fun ad' ρ' r a b c => ⟨r, rfl, a, b, c⟩) ad h V
  rw [← e1]
  refine sem_mono F ?_
  rintro u h2 ⟨ad', ρ', V', hS, r, rfl, hc', ht, ha⟩
  have f1 : ad' (0, 0, 0) = v1 := (hS _ (Or.inr rfl)).trans e1
  have f2 : ad' (40, 0, 0) = v2 := (hS _ (Or.inr rfl)).trans e2
  refine ⟨r, rfl, by rw [← f2]; exact vT V' rfl, ?_⟩
  have F2 := D ρ' (RMo_cl hm ha) (fun _ u ρ2 => ∃ r, u = some (.long r) ∧ RMo ρ2 σ ∧ T r ∧ Ag PMo ρ' ρ2) (fun ad' ρ' r a b c => ⟨r, rfl, a, b, c⟩) ad' h2 V'
  rw [← f2]
  refine sem_mono F2 ?_
  rintro u h3 ⟨ad2, ρ2, V2, hS2, r2, rfl, hm2, ht2, ha2⟩
  obtain rfl := U _ _ ht ht2
  exact ⟨r, rfl, rfl, ad2, ρ2, σ, V2, by rw [hS2 _ (Or.inr rfl), e1]; exact f1, hS2 _ (Or.inr rfl), RC_mo (RC_le hc' (Nat.le_succ B)) ha2, hm2⟩
theorem La_p0 (hG : gok G) (hM : mok G M r_La_law Q K) (hs : Scr G M b L xs) (hn : n + 6 ≤ L) (hL : L ≤ 3072) (hB : B < 2 ^ 30) (I : Inv G v1 v2 B h) (kk : ∀ h3, Inv G v1 v2 (B + 1) h3 → X G M Q 770 [(0, .ref b), (1, .ref v1), (2, .ref v2), (3, .int (nI n))] [] h3) : X G M Q 140 [(0, .ref b), (1, .ref v1), (2, .ref v2), (3, .int (nI n))] [] h := by
  obtain ⟨ad, ρ, σ, V, e1, e2, hc, hm⟩ := I
  exact La_c0 hG hM hs hn hL (by rw [← e1]; exact vT V rfl) (pr_tr V e1 e2 hc hm (as := []) (T := fun r τ => trClear σ r τ) (fun K k => c_clear hG hc k) (fun ρ1 h1 K k => cM_clear hG h1  k) (fun r τ r' τ' a b => ⟨a.1.trans b.1.symm, a.2.trans b.2.symm⟩)) kk
theorem La_p1 (hG : gok G) (hM : mok G M r_La_law Q K) (hs : Scr G M b L xs) (hn : n + 6 ≤ L) (hL : L ≤ 3072) (hB : B < 2 ^ 30) (I : Inv G v1 v2 B h) (kk : ∀ h3, Inv G v1 v2 (B + 1) h3 → X G M Q 770 [(0, .ref b), (1, .ref v1), (2, .ref v2), (3, .int (nI n))] [] h3) : X G M Q 153 [(0, .ref b), (1, .ref v1), (2, .ref v2), (3, .int (nI n))] [] h := by
  obtain ⟨ad, ρ, σ, V, e1, e2, hc, hm⟩ := I
  exact La_c1 hG hM hs hn hL (by rw [← e1]; exact vT V rfl) (pr_tr V e1 e2 hc hm (as := [.int (xs (n + 1))]) (T := fun r τ => trThing σ (xs (n + 1)) r τ) (fun K k => c_thing hG hc k) (fun ρ1 h1 K k => cM_thing hG h1 hc.1 k) (fun r τ r' τ' a b => trThing_u a b)) kk
theorem La_p2 (hG : gok G) (hM : mok G M r_La_law Q K) (hs : Scr G M b L xs) (hn : n + 6 ≤ L) (hL : L ≤ 3072) (hB : B < 2 ^ 30) (I : Inv G v1 v2 B h) (kk : ∀ h3, Inv G v1 v2 (B + 1) h3 → X G M Q 770 [(0, .ref b), (1, .ref v1), (2, .ref v2), (3, .int (nI n))] [] h3) : X G M Q 176 [(0, .ref b), (1, .ref v1), (2, .ref v2), (3, .int (nI n))] [] h := by
  obtain ⟨ad, ρ, σ, V, e1, e2, hc, hm⟩ := I
  exact La_c2 hG hM hs hn hL (by rw [← e1]; exact vT V rfl) (pr_tr V e1 e2 hc hm (as := [.int (xs (n + 1))]) (T := fun r τ => trStart σ (xs (n + 1)) r τ) (fun K k => c_start hG hc k) (fun ρ1 h1 K k => cM_start hG h1 hc.1.2.2.2.1 k) (fun r τ r' τ' a b => trStart_u hc.1.2.2.1 a b)) kk
theorem La_p3 (hG : gok G) (hM : mok G M r_La_law Q K) (hs : Scr G M b L xs) (hn : n + 6 ≤ L) (hL : L ≤ 3072) (hB : B < 2 ^ 30) (I : Inv G v1 v2 B h) (kk : ∀ h3, Inv G v1 v2 (B + 1) h3 → X G M Q 770 [(0, .ref b), (1, .ref v1), (2, .ref v2), (3, .int (nI n))] [] h3) : X G M Q 199 [(0, .ref b), (1, .ref v1), (2, .ref v2), (3, .int (nI n))] [] h := by
  obtain ⟨ad, ρ, σ, V, e1, e2, hc, hm⟩ := I
  exact La_c3 hG hM hs hn hL (by rw [← e1]; exact vT V rfl) (pr_tr V e1 e2 hc hm (as := []) (T := fun r τ => trAct σ r τ) (fun K k => c_act hG hc k) (fun ρ1 h1 K k => cM_act hG h1 hc.1.2.2.2.2.1 hc.1.2.2.2.2.2.2.1 (fun a h => (hc.1.2.2.2.2.2.1 a h).2) k) (fun r τ r' τ' a b => trAct_u a b)) kk
theorem La_p4 (hG : gok G) (hM : mok G M r_La_law Q K) (hs : Scr G M b L xs) (hn : n + 6 ≤ L) (hL : L ≤ 3072) (hB : B < 2 ^ 30) (I : Inv G v1 v2 B h) (kk : ∀ h3, Inv G v1 v2 (B + 1) h3 → X G M Q 770 [(0, .ref b), (1, .ref v1), (2, .ref v2), (3, .int (nI n))] [] h3) : X G M Q 212 [(0, .ref b), (1, .ref v1), (2, .ref v2), (3, .int (nI n))] [] h := by
  obtain ⟨ad, ρ, σ, V, e1, e2, hc, hm⟩ := I
  exact La_c4 hG hM hs hn hL (by rw [← e1]; exact vT V rfl) (pr_tr V e1 e2 hc hm (as := [.int (xs (n + 1))]) (T := fun r τ => trOut σ (xs (n + 1)) r τ) (fun K k => c_outcome hG hc k) (fun ρ1 h1 K k => cM_outcome hG h1 hc.1 k) (fun r τ r' τ' a b => trOut_u hc.1.2.2.2.2.1 a b)) kk
theorem La_p5 (hG : gok G) (hM : mok G M r_La_law Q K) (hs : Scr G M b L xs) (hn : n + 6 ≤ L) (hL : L ≤ 3072) (hB : B < 2 ^ 30) (I : Inv G v1 v2 B h) (kk : ∀ h3, Inv G v1 v2 (B + 1) h3 → X G M Q 770 [(0, .ref b), (1, .ref v1), (2, .ref v2), (3, .int (nI n))] [] h3) : X G M Q 235 [(0, .ref b), (1, .ref v1), (2, .ref v2), (3, .int (nI n))] [] h := by
  obtain ⟨ad, ρ, σ, V, e1, e2, hc, hm⟩ := I
  exact La_c5 hG hM hs hn hL (by rw [← e1]; exact vT V rfl) (pr_tr V e1 e2 hc hm (as := [.int (xs (n + 1)), .int (xs (n + 2)), .int (xs (n + 3)), .int (xs (n + 4))]) (T := fun r τ => trWhen σ (xs (n + 1)) (xs (n + 2)) (xs (n + 3)) (xs (n + 4)) r τ) (fun K k => c_when hG hc k) (fun ρ1 h1 K k => cM_when hG h1 hc.1.2.2.2.2.1 k) (fun r τ r' τ' a b => trWhen_u hc.1.1 hc.1.2.2.2.2.1 a b)) kk
theorem La_p6 (hG : gok G) (hM : mok G M r_La_law Q K) (hs : Scr G M b L xs) (hn : n + 6 ≤ L) (hL : L ≤ 3072) (hB : B < 2 ^ 30) (I : Inv G v1 v2 B h) (kk : ∀ h3, Inv G v1 v2 (B + 1) h3 → X G M Q 770 [(0, .ref b), (1, .ref v1), (2, .ref v2), (3, .int (nI n))] [] h3) : X G M Q 288 [(0, .ref b), (1, .ref v1), (2, .ref v2), (3, .int (nI n))] [] h := by
  obtain ⟨ad, ρ, σ, V, e1, e2, hc, hm⟩ := I
  exact La_c6 hG hM hs hn hL (by rw [← e1]; exact vT V rfl) (pr_tr V e1 e2 hc hm (as := [.int (xs (n + 1)), .int (xs (n + 2)), .int (xs (n + 3)), .int (xs (n + 4)), .int (xs (n + 5))]) (T := fun r τ => trEff σ (xs (n + 1)) (xs (n + 2)) (xs (n + 3)) (xs (n + 4)) (xs (n + 5)) r τ) (fun K k => c_effect hG hc k) (fun ρ1 h1 K k => cM_effect hG h1 hc.1 k) (fun r τ r' τ' a b => trEff_u hc.1 a b)) kk
theorem La_p7 (hG : gok G) (hM : mok G M r_La_law Q K) (hs : Scr G M b L xs) (hn : n + 6 ≤ L) (hL : L ≤ 3072) (hB : B < 2 ^ 30) (I : Inv G v1 v2 B h) (kk : ∀ h3, Inv G v1 v2 (B + 1) h3 → X G M Q 770 [(0, .ref b), (1, .ref v1), (2, .ref v2), (3, .int (nI n))] [] h3) : X G M Q 351 [(0, .ref b), (1, .ref v1), (2, .ref v2), (3, .int (nI n))] [] h := by
  obtain ⟨ad, ρ, σ, V, e1, e2, hc, hm⟩ := I
  exact La_c7 hG hM hs hn hL (by rw [← e1]; exact vT V rfl) (pr_tr V e1 e2 hc hm (as := [.int (xs (n + 1)), .int (xs (n + 2)), .int (xs (n + 3))]) (T := fun r τ => trCo σ 12 (xs (n + 1)) (xs (n + 2)) (xs (n + 3)) r τ) (fun K k => c_aim hG hc k) (fun ρ1 h1 K k => cM_aim hG h1  k) (fun r τ r' τ' a b => trCo_u hc.1.1 a b)) kk
theorem La_p8 (hG : gok G) (hM : mok G M r_La_law Q K) (hs : Scr G M b L xs) (hn : n + 6 ≤ L) (hL : L ≤ 3072) (hB : B < 2 ^ 30) (I : Inv G v1 v2 B h) (kk : ∀ h3, Inv G v1 v2 (B + 1) h3 → X G M Q 770 [(0, .ref b), (1, .ref v1), (2, .ref v2), (3, .int (nI n))] [] h3) : X G M Q 394 [(0, .ref b), (1, .ref v1), (2, .ref v2), (3, .int (nI n))] [] h := by
  obtain ⟨ad, ρ, σ, V, e1, e2, hc, hm⟩ := I
  exact La_c8 hG hM hs hn hL (by rw [← e1]; exact vT V rfl) (pr_tr V e1 e2 hc hm (as := []) (T := fun r τ => trAimless σ r τ) (fun K k => c_aimless hG hc k) (fun ρ1 h1 K k => cM_aimless hG h1  k) (fun r τ r' τ' a b => ⟨a.1.trans b.1.symm, a.2.trans b.2.symm⟩)) kk
theorem La_p9 (hG : gok G) (hM : mok G M r_La_law Q K) (hs : Scr G M b L xs) (hn : n + 6 ≤ L) (hL : L ≤ 3072) (hB : B < 2 ^ 30) (I : Inv G v1 v2 B h) (kk : ∀ h3, Inv G v1 v2 (B + 1) h3 → X G M Q 770 [(0, .ref b), (1, .ref v1), (2, .ref v2), (3, .int (nI n))] [] h3) : X G M Q 407 [(0, .ref b), (1, .ref v1), (2, .ref v2), (3, .int (nI n))] [] h := by
  obtain ⟨ad, ρ, σ, V, e1, e2, hc, hm⟩ := I
  exact La_c9 hG hM hs hn hL (by rw [← e1]; exact vT V rfl) (pr_tr V e1 e2 hc hm (as := []) (T := fun r τ => trUnact σ r τ) (fun K k => c_unact hG hc k) (fun ρ1 h1 K k => cM_unact hG h1 hc.1.2.2.2.2.1 k) (fun r τ r' τ' a b => trUnact_u a b)) kk
theorem La_p10 (hG : gok G) (hM : mok G M r_La_law Q K) (hs : Scr G M b L xs) (hn : n + 6 ≤ L) (hL : L ≤ 3072) (hB : B < 2 ^ 30) (I : Inv G v1 v2 B h) (kk : ∀ h3, Inv G v1 v2 (B + 1) h3 → X G M Q 770 [(0, .ref b), (1, .ref v1), (2, .ref v2), (3, .int (nI n))] [] h3) : X G M Q 420 [(0, .ref b), (1, .ref v1), (2, .ref v2), (3, .int (nI n))] [] h := by
  obtain ⟨ad, ρ, σ, V, e1, e2, hc, hm⟩ := I
  exact La_c10 hG hM hs hn hL (by rw [← e1]; exact vT V rfl) (pr_an V e1 e2 hc hm (as := [.int (xs (n + 1)), .int (xs (n + 2)), .int (xs (n + 3))]) (T := fun r => anLd σ (xs (n + 1)) (xs (n + 2)) (xs (n + 3)) r) (fun K k => c_leads hG hc (fun ad r h => k ad ρ r hc h Ag_rf)) (fun ρ1 h1 K k => cM_leads hG h1 hc.1 k) (fun r r' a b => anLd_u hc.1 a b)) kk
theorem La_p11 (hG : gok G) (hM : mok G M r_La_law Q K) (hs : Scr G M b L xs) (hn : n + 6 ≤ L) (hL : L ≤ 3072) (hB : B < 2 ^ 30) (I : Inv G v1 v2 B h) (kk : ∀ h3, Inv G v1 v2 (B + 1) h3 → X G M Q 770 [(0, .ref b), (1, .ref v1), (2, .ref v2), (3, .int (nI n))] [] h3) : X G M Q 463 [(0, .ref b), (1, .ref v1), (2, .ref v2), (3, .int (nI n))] [] h := by
  obtain ⟨ad, ρ, σ, V, e1, e2, hc, hm⟩ := I
  exact La_c11 hG hM hs hn hL (by rw [← e1]; exact vT V rfl) (pr_an V e1 e2 hc hm (as := [.int (xs (n + 1))]) (T := fun r => anCnt σ (xs (n + 1)) r) (fun K k => c_count hG hB hc k) (fun ρ1 h1 K k => cM_count hG h1 hc.1 k) (fun r r' a b => anCnt_u a b)) kk
theorem La_p12 (hG : gok G) (hM : mok G M r_La_law Q K) (hs : Scr G M b L xs) (hn : n + 6 ≤ L) (hL : L ≤ 3072) (hB : B < 2 ^ 30) (I : Inv G v1 v2 B h) (kk : ∀ h3, Inv G v1 v2 (B + 1) h3 → X G M Q 770 [(0, .ref b), (1, .ref v1), (2, .ref v2), (3, .int (nI n))] [] h3) : X G M Q 486 [(0, .ref b), (1, .ref v1), (2, .ref v2), (3, .int (nI n))] [] h := by
  obtain ⟨ad, ρ, σ, V, e1, e2, hc, hm⟩ := I
  exact La_c12 hG hM hs hn hL (by rw [← e1]; exact vT V rfl) (pr_an V e1 e2 hc hm (as := [.int (xs (n + 1)), .int (xs (n + 2))]) (T := fun r => anOf σ (xs (n + 1)) (xs (n + 2)) r) (fun K k => c_of hG hB hc k) (fun ρ1 h1 K k => cM_of hG h1 hc.1 k) (fun r r' a b => anOf_u hc.1.2.2.1 a b)) kk
theorem La_p13 (hG : gok G) (hM : mok G M r_La_law Q K) (hs : Scr G M b L xs) (hn : n + 6 ≤ L) (hL : L ≤ 3072) (hB : B < 2 ^ 30) (I : Inv G v1 v2 B h) (kk : ∀ h3, Inv G v1 v2 (B + 1) h3 → X G M Q 770 [(0, .ref b), (1, .ref v1), (2, .ref v2), (3, .int (nI n))] [] h3) : X G M Q 519 [(0, .ref b), (1, .ref v1), (2, .ref v2), (3, .int (nI n))] [] h := by
  obtain ⟨ad, ρ, σ, V, e1, e2, hc, hm⟩ := I
  exact La_c13 hG hM hs hn hL (by rw [← e1]; exact vT V rfl) (pr_an V e1 e2 hc hm (as := [.int (xs (n + 1)), .int (xs (n + 2))]) (T := fun r => anBs σ (xs (n + 1)) (xs (n + 2)) r) (fun K k => c_best hG hB hc k) (fun ρ1 h1 K k => cM_best hG h1 hc.1 k) (fun r r' a b => anBs_u hc.1.2.2.1 a b)) kk
theorem La_p14 (hG : gok G) (hM : mok G M r_La_law Q K) (hs : Scr G M b L xs) (hn : n + 6 ≤ L) (hL : L ≤ 3072) (hB : B < 2 ^ 30) (I : Inv G v1 v2 B h) (kk : ∀ h3, Inv G v1 v2 (B + 1) h3 → X G M Q 770 [(0, .ref b), (1, .ref v1), (2, .ref v2), (3, .int (nI n))] [] h3) : X G M Q 552 [(0, .ref b), (1, .ref v1), (2, .ref v2), (3, .int (nI n))] [] h := by
  obtain ⟨ad, ρ, σ, V, e1, e2, hc, hm⟩ := I
  exact La_c14 hG hM hs hn hL (by rw [← e1]; exact vT V rfl) (pr_an V e1 e2 hc hm (as := [.int (xs (n + 1)), .int (xs (n + 2))]) (T := fun r => anPy σ (xs (n + 1)) (xs (n + 2)) r) (fun K k => c_play hG hB hc k) (fun ρ1 h1 K k => cM_play hG h1 hc.1 k) (fun r r' a b => anPy_u a b)) kk
theorem La_p15 (hG : gok G) (hM : mok G M r_La_law Q K) (hs : Scr G M b L xs) (hn : n + 6 ≤ L) (hL : L ≤ 3072) (hB : B < 2 ^ 30) (I : Inv G v1 v2 B h) (kk : ∀ h3, Inv G v1 v2 (B + 1) h3 → X G M Q 770 [(0, .ref b), (1, .ref v1), (2, .ref v2), (3, .int (nI n))] [] h3) : X G M Q 585 [(0, .ref b), (1, .ref v1), (2, .ref v2), (3, .int (nI n))] [] h := by
  obtain ⟨ad, ρ, σ, V, e1, e2, hc, hm⟩ := I
  exact La_c15 hG hM hs hn hL (by rw [← e1]; exact vT V rfl) (pr_al V e1 e2 hc hm (as := []) (T := fun r => anPl σ r) (fun K k => c_plays hG hB hc k) (fun ρ1 h1 K k => cM_plays hG h1 hc.1 k) (fun r r' a b => anPl_u a b)) kk
theorem La_p16 (hG : gok G) (hM : mok G M r_La_law Q K) (hs : Scr G M b L xs) (hn : n + 6 ≤ L) (hL : L ≤ 3072) (hB : B < 2 ^ 30) (I : Inv G v1 v2 B h) (kk : ∀ h3, Inv G v1 v2 (B + 1) h3 → X G M Q 770 [(0, .ref b), (1, .ref v1), (2, .ref v2), (3, .int (nI n))] [] h3) : X G M Q 599 [(0, .ref b), (1, .ref v1), (2, .ref v2), (3, .int (nI n))] [] h := by
  obtain ⟨ad, ρ, σ, V, e1, e2, hc, hm⟩ := I
  exact La_c16 hG hM hs hn hL (by rw [← e1]; exact vT V rfl) (pr_an V e1 e2 hc hm (as := []) (T := fun r => anNd σ r) (fun K k => c_needed hG hB hc k) (fun ρ1 h1 K k => cM_needed hG h1 hc.1 k) (fun r r' a b => anNd_u a b)) kk
theorem La_p17 (hG : gok G) (hM : mok G M r_La_law Q K) (hs : Scr G M b L xs) (hn : n + 6 ≤ L) (hL : L ≤ 3072) (hB : B < 2 ^ 30) (I : Inv G v1 v2 B h) (kk : ∀ h3, Inv G v1 v2 (B + 1) h3 → X G M Q 770 [(0, .ref b), (1, .ref v1), (2, .ref v2), (3, .int (nI n))] [] h3) : X G M Q 612 [(0, .ref b), (1, .ref v1), (2, .ref v2), (3, .int (nI n))] [] h := by
  obtain ⟨ad, ρ, σ, V, e1, e2, hc, hm⟩ := I
  exact La_c17 hG hM hs hn hL (by rw [← e1]; exact vT V rfl) (pr_an V e1 e2 hc hm (as := [.int (xs (n + 1)), .int (xs (n + 2))]) (T := fun r => anFc σ (xs (n + 1)) (xs (n + 2)) r) (fun K k => c_fact hG hB hc k) (fun ρ1 h1 K k => cM_fact hG h1 hc.1 k) (fun r r' a b => anFc_u hc.1 a b)) kk
theorem La_p18 (hG : gok G) (hM : mok G M r_La_law Q K) (hs : Scr G M b L xs) (hn : n + 6 ≤ L) (hL : L ≤ 3072) (hB : B < 2 ^ 30) (I : Inv G v1 v2 B h) (kk : ∀ h3, Inv G v1 v2 (B + 1) h3 → X G M Q 770 [(0, .ref b), (1, .ref v1), (2, .ref v2), (3, .int (nI n))] [] h3) : X G M Q 645 [(0, .ref b), (1, .ref v1), (2, .ref v2), (3, .int (nI n))] [] h := by
  obtain ⟨ad, ρ, σ, V, e1, e2, hc, hm⟩ := I
  exact La_c18 hG hM hs hn hL (by rw [← e1]; exact vT V rfl) (pr_an V e1 e2 hc hm (as := [.int (xs (n + 1))]) (T := fun r => anVl σ (xs (n + 1)) r) (fun K k => c_values hG hB hc k) (fun ρ1 h1 K k => cM_values hG h1 hc.1 k) (fun r r' a b => anVl_u hc.1 a b)) kk
theorem La_p19 (hG : gok G) (hM : mok G M r_La_law Q K) (hs : Scr G M b L xs) (hn : n + 6 ≤ L) (hL : L ≤ 3072) (hB : B < 2 ^ 30) (I : Inv G v1 v2 B h) (kk : ∀ h3, Inv G v1 v2 (B + 1) h3 → X G M Q 770 [(0, .ref b), (1, .ref v1), (2, .ref v2), (3, .int (nI n))] [] h3) : X G M Q 668 [(0, .ref b), (1, .ref v1), (2, .ref v2), (3, .int (nI n))] [] h := by
  obtain ⟨ad, ρ, σ, V, e1, e2, hc, hm⟩ := I
  exact La_c19 hG hM hs hn hL (by rw [← e1]; exact vT V rfl) (pr_tr V e1 e2 hc hm (as := []) (T := fun r τ => trCover σ r τ) (fun K k => c_cover hG hc k) (fun ρ1 h1 K k => cM_cover hG h1 hc.1.2.2.2.2.1 hc.1.2.2.2.2.2.2.1 k) (fun r τ r' τ' a b => trCover_u a b)) kk
theorem La_p20 (hG : gok G) (hM : mok G M r_La_law Q K) (hs : Scr G M b L xs) (hn : n + 6 ≤ L) (hL : L ≤ 3072) (hB : B < 2 ^ 30) (I : Inv G v1 v2 B h) (kk : ∀ h3, Inv G v1 v2 (B + 1) h3 → X G M Q 770 [(0, .ref b), (1, .ref v1), (2, .ref v2), (3, .int (nI n))] [] h3) : X G M Q 681 [(0, .ref b), (1, .ref v1), (2, .ref v2), (3, .int (nI n))] [] h := by
  obtain ⟨ad, ρ, σ, V, e1, e2, hc, hm⟩ := I
  exact La_c20 hG hM hs hn hL (by rw [← e1]; exact vT V rfl) (pr_tr V e1 e2 hc hm (as := [.int (xs (n + 1)), .int (xs (n + 2)), .int (xs (n + 3)), .int (xs (n + 4))]) (T := fun r τ => trPart σ (xs (n + 1)) (xs (n + 2)) (xs (n + 3)) (xs (n + 4)) r τ) (fun K k => c_part hG hc k) (fun ρ1 h1 K k => cM_part hG h1 hc.1.2.2.2.2.2.2.1 k) (fun r τ r' τ' a b => trPart_u hc.1.1 hc.1.2.2.2.2.2.2.1 a b)) kk
theorem La_p21 (hG : gok G) (hM : mok G M r_La_law Q K) (hs : Scr G M b L xs) (hn : n + 6 ≤ L) (hL : L ≤ 3072) (hB : B < 2 ^ 30) (I : Inv G v1 v2 B h) (kk : ∀ h3, Inv G v1 v2 (B + 1) h3 → X G M Q 770 [(0, .ref b), (1, .ref v1), (2, .ref v2), (3, .int (nI n))] [] h3) : X G M Q 734 [(0, .ref b), (1, .ref v1), (2, .ref v2), (3, .int (nI n))] [] h := by
  obtain ⟨ad, ρ, σ, V, e1, e2, hc, hm⟩ := I
  exact La_c21 hG hM hs hn hL (by rw [← e1]; exact vT V rfl) (pr_tr V e1 e2 hc hm (as := []) (T := fun r τ => trBare σ r τ) (fun K k => c_bare hG hc k) (fun ρ1 h1 K k => cM_bare hG h1  k) (fun r τ r' τ' a b => ⟨a.1.trans b.1.symm, a.2.trans b.2.symm⟩)) kk
theorem La_p22 (hG : gok G) (hM : mok G M r_La_law Q K) (hs : Scr G M b L xs) (hn : n + 6 ≤ L) (hL : L ≤ 3072) (hB : B < 2 ^ 30) (I : Inv G v1 v2 B h) (kk : ∀ h3, Inv G v1 v2 (B + 1) h3 → X G M Q 770 [(0, .ref b), (1, .ref v1), (2, .ref v2), (3, .int (nI n))] [] h3) : X G M Q 747 [(0, .ref b), (1, .ref v1), (2, .ref v2), (3, .int (nI n))] [] h := by
  obtain ⟨ad, ρ, σ, V, e1, e2, hc, hm⟩ := I
  exact La_c22 hG hM hs hn hL (by rw [← e1]; exact vT V rfl) (pr_an V e1 e2 hc hm (as := [.int (xs (n + 1))]) (T := fun r => anFl σ (xs (n + 1)) r) (fun K k => c_flaw hG hB hc k) (fun ρ1 h1 K k => cM_flaw hG h1 hc.1 k) (fun r r' a b => anFl_u a b)) kk
/-- one turn of the law's loop -/
theorem La_sw (hG : gok G) (hM : mok G M r_La_law Q K) (hs : Scr G M b L xs) (hn : n + 6 ≤ L) (hL : L ≤ 3072) (hB : B < 2 ^ 30) (I : Inv G v1 v2 B h) {x : Int32} (kk : ∀ h3, Inv G v1 v2 (B + 1) h3 → X G M Q 770 [(0, .ref b), (1, .ref v1), (2, .ref v2), (3, .int (nI n))] [] h3) : X G M Q 33 [(0, .ref b), (1, .ref v1), (2, .ref v2), (3, .int (nI n))] [.int x] h := by
  by_cases q0 : x = 0
  · exact x_tblIn (tgt := 140) hM d_La_law_33 (by rw [q0]; decide) (by rw [q0]; decide) (by rw [q0]; rfl) (by decide) (La_p0 hG hM hs hn hL hB I kk)
  by_cases q1 : x = 1
  · exact x_tblIn (tgt := 153) hM d_La_law_33 (by rw [q1]; decide) (by rw [q1]; decide) (by rw [q1]; rfl) (by decide) (La_p1 hG hM hs hn hL hB I kk)
  by_cases q2 : x = 2
  · exact x_tblIn (tgt := 176) hM d_La_law_33 (by rw [q2]; decide) (by rw [q2]; decide) (by rw [q2]; rfl) (by decide) (La_p2 hG hM hs hn hL hB I kk)
  by_cases q3 : x = 3
  · exact x_tblIn (tgt := 199) hM d_La_law_33 (by rw [q3]; decide) (by rw [q3]; decide) (by rw [q3]; rfl) (by decide) (La_p3 hG hM hs hn hL hB I kk)
  by_cases q4 : x = 4
  · exact x_tblIn (tgt := 212) hM d_La_law_33 (by rw [q4]; decide) (by rw [q4]; decide) (by rw [q4]; rfl) (by decide) (La_p4 hG hM hs hn hL hB I kk)
  by_cases q5 : x = 5
  · exact x_tblIn (tgt := 235) hM d_La_law_33 (by rw [q5]; decide) (by rw [q5]; decide) (by rw [q5]; rfl) (by decide) (La_p5 hG hM hs hn hL hB I kk)
  by_cases q6 : x = 6
  · exact x_tblIn (tgt := 288) hM d_La_law_33 (by rw [q6]; decide) (by rw [q6]; decide) (by rw [q6]; rfl) (by decide) (La_p6 hG hM hs hn hL hB I kk)
  by_cases q7 : x = 7
  · exact x_tblIn (tgt := 351) hM d_La_law_33 (by rw [q7]; decide) (by rw [q7]; decide) (by rw [q7]; rfl) (by decide) (La_p7 hG hM hs hn hL hB I kk)
  by_cases q8 : x = 8
  · exact x_tblIn (tgt := 394) hM d_La_law_33 (by rw [q8]; decide) (by rw [q8]; decide) (by rw [q8]; rfl) (by decide) (La_p8 hG hM hs hn hL hB I kk)
  by_cases q9 : x = 9
  · exact x_tblIn (tgt := 407) hM d_La_law_33 (by rw [q9]; decide) (by rw [q9]; decide) (by rw [q9]; rfl) (by decide) (La_p9 hG hM hs hn hL hB I kk)
  by_cases q10 : x = 10
  · exact x_tblIn (tgt := 420) hM d_La_law_33 (by rw [q10]; decide) (by rw [q10]; decide) (by rw [q10]; rfl) (by decide) (La_p10 hG hM hs hn hL hB I kk)
  by_cases q11 : x = 11
  · exact x_tblIn (tgt := 463) hM d_La_law_33 (by rw [q11]; decide) (by rw [q11]; decide) (by rw [q11]; rfl) (by decide) (La_p11 hG hM hs hn hL hB I kk)
  by_cases q12 : x = 12
  · exact x_tblIn (tgt := 486) hM d_La_law_33 (by rw [q12]; decide) (by rw [q12]; decide) (by rw [q12]; rfl) (by decide) (La_p12 hG hM hs hn hL hB I kk)
  by_cases q13 : x = 13
  · exact x_tblIn (tgt := 519) hM d_La_law_33 (by rw [q13]; decide) (by rw [q13]; decide) (by rw [q13]; rfl) (by decide) (La_p13 hG hM hs hn hL hB I kk)
  by_cases q14 : x = 14
  · exact x_tblIn (tgt := 552) hM d_La_law_33 (by rw [q14]; decide) (by rw [q14]; decide) (by rw [q14]; rfl) (by decide) (La_p14 hG hM hs hn hL hB I kk)
  by_cases q15 : x = 15
  · exact x_tblIn (tgt := 585) hM d_La_law_33 (by rw [q15]; decide) (by rw [q15]; decide) (by rw [q15]; rfl) (by decide) (La_p15 hG hM hs hn hL hB I kk)
  by_cases q16 : x = 16
  · exact x_tblIn (tgt := 599) hM d_La_law_33 (by rw [q16]; decide) (by rw [q16]; decide) (by rw [q16]; rfl) (by decide) (La_p16 hG hM hs hn hL hB I kk)
  by_cases q17 : x = 17
  · exact x_tblIn (tgt := 612) hM d_La_law_33 (by rw [q17]; decide) (by rw [q17]; decide) (by rw [q17]; rfl) (by decide) (La_p17 hG hM hs hn hL hB I kk)
  by_cases q18 : x = 18
  · exact x_tblIn (tgt := 645) hM d_La_law_33 (by rw [q18]; decide) (by rw [q18]; decide) (by rw [q18]; rfl) (by decide) (La_p18 hG hM hs hn hL hB I kk)
  by_cases q19 : x = 19
  · exact x_tblIn (tgt := 668) hM d_La_law_33 (by rw [q19]; decide) (by rw [q19]; decide) (by rw [q19]; rfl) (by decide) (La_p19 hG hM hs hn hL hB I kk)
  by_cases q20 : x = 20
  · exact x_tblIn (tgt := 681) hM d_La_law_33 (by rw [q20]; decide) (by rw [q20]; decide) (by rw [q20]; rfl) (by decide) (La_p20 hG hM hs hn hL hB I kk)
  by_cases q21 : x = 21
  · exact x_tblIn (tgt := 734) hM d_La_law_33 (by rw [q21]; decide) (by rw [q21]; decide) (by rw [q21]; rfl) (by decide) (La_p21 hG hM hs hn hL hB I kk)
  by_cases q22 : x = 22
  · exact x_tblIn (tgt := 747) hM d_La_law_33 (by rw [q22]; decide) (by rw [q22]; decide) (by rw [q22]; rfl) (by decide) (La_p22 hG hM hs hn hL hB I kk)
  exact x_tblOut (tgt := 770) hM d_La_law_33 (sw_out22 q0 q1 q2 q3 q4 q5 q6 q7 q8 q9 q10 q11 q12 q13 q14 q15 q16 q17 q18 q19 q20 q21 q22) (by decide) (kk h (Inv_B I))
/-- the law's loop -/
theorem La_loop (hG : gok G) (hM : mok G M r_La_law Q K) (hs : Scr G M b L xs) (hL : L ≤ 3072) (hK : ∀ h, K (some (.int 1)) h) : ∀ d B n h, L < n + 6 * d → n ≤ 3072 → B + d < 2 ^ 30 → Inv G v1 v2 B h → X G M Q 18 [(0, .ref b), (1, .ref v1), (2, .ref v2), (3, .int (nI n))] [] h := by
  intro d
  induction d with
  | zero =>
    intro B n h h1 hn _ _
    refine x_iload_n hM d_La_law_18 rfl 3 rfl (x_aload_n hM d_La_law_19 rfl 0 rfl (x_slen hM hs d_La_law_20 (x_bipush hM d_La_law_21 (v := nI 6) rfl (x_isub hM d_La_law_23 (x_icmp_gt (tgt := 776) hM d_La_law_24 (by decide) (fun _ => ?_) (fun q => ?_))))))
    · exact x_iconst hM d_La_law_776 rfl (x_zreturn hM d_La_law_777 rfl (Or.inr rfl) (hK h))
    · exfalso
      apply q
      rw [Int32.lt_iff_toInt_lt, pk_sub_toInt (by omega) (by omega), nI_toInt (by omega)]
      omega
  | succ d ih =>
    intro B n h h1 hn hB I
    refine x_iload_n hM d_La_law_18 rfl 3 rfl (x_aload_n hM d_La_law_19 rfl 0 rfl (x_slen hM hs d_La_law_20 (x_bipush hM d_La_law_21 (v := nI 6) rfl (x_isub hM d_La_law_23 (x_icmp_gt (tgt := 776) hM d_La_law_24 (by decide) (fun _ => ?_) (fun q => ?_))))))
    · exact x_iconst hM d_La_law_776 rfl (x_zreturn hM d_La_law_777 rfl (Or.inr rfl) (hK h))
    · have hn6 : n + 6 ≤ L := by
        rw [Int32.lt_iff_toInt_lt, pk_sub_toInt (by omega) (by omega), nI_toInt (by omega)] at q
        omega
      refine x_aload_n hM d_La_law_27 rfl 0 rfl (x_iload_n hM d_La_law_28 rfl 3 rfl (x_sld hM hs rfl ⟨by omega, hL⟩ d_La_law_29 (x_bipush hM d_La_law_30 (v := 31) rfl (x_iand hM d_La_law_32 (La_sw hG hM hs hn6 hL (by omega) I (fun h3 I3 => ?_))))))
      refine x_iinc (j := 3) (v := nI (n + 6)) hM d_La_law_770 rfl (nI_ad n 6) (by decide) rfl (x_goto (tgt := 18) hM d_La_law_773 (by decide) (x_sub [1, 2, 3, 0] rfl ?_))
      exact ih (B + 1) (n + 6) h3 (by omega) (by omega) (by omega) I3
end PRS
