/-! THE REFERENCE: partAll -/
def slt (x : Int64) : Nat := (Int64.toInt32 (x &&& 8191)).toNatClampNeg
theorem slt_eq (x : Int64) : Int64.toInt32 (x &&& 8191) = nI (slt x) ∧ slt x < 8192 := by
  have e : Int64.toInt32 (x &&& 8191) = Int64.toInt32 x &&& 8191 := by rw [Int64.toInt32_and]; rfl
  obtain ⟨j, h1, h2⟩ := pk_andE (Int64.toInt32 x) (m := 8191) 13 (by decide)
  have h3 : slt x = j := by
    unfold slt
    rw [e, h2, nI_clamp (by omega)]
  rw [h3, e]
  exact ⟨h2, h1⟩
theorem bool_of (P : Nat → Prop) : ∃ g : Nat → Bool, ∀ u, g u = true ↔ P u := ⟨fun u => @decide (P u) (Classical.propDecidable _), fun u => by simp⟩
theorem cnt_pos {p : Nat → Bool} {x : Nat} : ∀ {n : Nat}, x < n → p x = true → 0 < cnt p n
  | 0, h, _ => absurd h (by omega)
  | n + 1, h, hx => by
    show 0 < cnt p n + _
    by_cases e : x = n
    · subst e; rw [hx]; simp
    · have := cnt_pos (n := n) (by omega) hx
      omega
/-- states that are first of their class, linked -/
def Cs (ρ : Rs) : List Nat → Int32 → Prop
  | [], v => v = -1
  | u :: L, v => v = nI u ∧ Cs ρ L (iR ρ (41, 31, 0) u)
theorem Cs_of {ρ ρ' : Rs} : ∀ {L : List Nat} {v : Int32}, (∀ u, u ∈ L → iR ρ' (41, 31, 0) u = iR ρ (41, 31, 0) u) → Cs ρ L v → Cs ρ' L v
  | [], _, _, h => h
  | u :: L, _, he, ⟨h1, h2⟩ => ⟨h1, by rw [he u List.mem_cons_self]; exact Cs_of (fun x hx => he x (List.mem_cons_of_mem _ hx)) h2⟩
theorem mch_on {σ : Wd} {E E' : Nat → Nat → Prop} {s t a : Nat} (hW : Wok σ) (ha : a < dA σ) (h : ∀ x y, x < nS σ → y < nS σ → E x y → E' x y) (hm : mch σ E s t a) : mch σ E' s t a := by
  refine ⟨hm.1, fun hc => ⟨fun k hk => ?_, fun j hj => ?_⟩⟩
  · obtain ⟨j, hj, e⟩ := (hm.2 hc).1 k hk
    exact ⟨j, hj, h _ _ (goA_lt hW ha hk) (goA_lt hW ha hj) e⟩
  · obtain ⟨k, hk, e⟩ := (hm.2 hc).2 j hj
    exact ⟨k, hk, h _ _ (goA_lt hW ha hk) (goA_lt hW ha hj) e⟩
/-- what partAll may write -/
def PPt (q : Ro) : Prop := q = (40, 0, 0) ∨ (q.1 = 41 ∧ q.2.2 = 0 ∧ 27 ≤ q.2.1 ∧ q.2.1 < 32)
theorem PPt_n {f : Nat} (h : f < 27) : ¬ PPt (41, f, 0) := by
  rintro (z | ⟨_, _, h1, h2⟩)
  · exact absurd z (by simp)
  · have h1 : 27 ≤ f := h1
    omega
theorem PPt_y {f : Nat} (h1 : 27 ≤ f) (h2 : f < 32) : PPt (41, f, 0) := Or.inr ⟨rfl, rfl, h1, h2⟩
def S4 (ρ ρ' : Rs) : Prop := (∀ j, j ≠ 32 → iR ρ' (40, 0, 0) j = iR ρ (40, 0, 0) j) ∧ Ag PPt ρ ρ'
theorem S4_rf {ρ : Rs} : S4 ρ ρ := ⟨fun _ _ => rfl, Ag_rf⟩
theorem S4_i {ρ ρ1 ρ2 : Rs} {f k : Nat} {x : Int32} (h : S4 ρ ρ1) (h1 : 27 ≤ f) (h2 : f < 32) (e : ρ2 = pI ρ1 (41, f, 0) k x) : S4 ρ ρ2 := ⟨fun j hj => by rw [e, iR_pI, if_neg (by simp)]; exact h.1 j hj, Ag_tr h.2 (by rw [e]; exact Ag_pI (PPt_y h1 h2))⟩
theorem S4_l {ρ ρ1 ρ2 : Rs} {f k : Nat} {x : Int64} (h : S4 ρ ρ1) (h1 : 27 ≤ f) (h2 : f < 32) (e : ρ2 = pL ρ1 (41, f, 0) k x) : S4 ρ ρ2 := ⟨fun j hj => by rw [e, iR_pL]; exact h.1 j hj, Ag_tr h.2 (by rw [e]; exact Ag_pL (PPt_y h1 h2))⟩
theorem S4_s {ρ ρ1 ρ2 : Rs} {x : Int32} (h : S4 ρ ρ1) (e : ρ2 = pI ρ1 (40, 0, 0) 32 x) : S4 ρ ρ2 := ⟨fun j hj => by rw [e, iR_pI, if_neg (fun z => hj z.2)]; exact h.1 j hj, Ag_tr h.2 (by rw [e]; exact Ag_pI (Or.inl rfl))⟩
section B58
variable {G : Gc} {ρ : Rs} {K : (Ro → Nat) → Option Value → Rs → Prop}
theorem c_Mo_partAll (hG : gok G) {σ : Wd} (h : RMo ρ σ) (hW : Wok σ) (k : ∀ ad ρ', RMo ρ' σ → ML ρ' σ → MP ρ' σ → Ag PMo ρ ρ' → K ad none ρ') : semV G r_Mo_partAll [] (fun ad => [.ref (ad (40, 0, 0))]) ρ K := by
  have hN := hW.2.2.1
  have hBN := hW.2.2.2.1
  have h12 := hW.2.2.2.2.1
  refine semV_intro yk_Mo_partAll.2.2.2.2 (fun _ => Nat.le_of_ble_eq_true rfl) (fun M Q ad0 hM => ?_)
  refine T_Mo_partAll_0 hG hM ρ ?_
  refine c_Mo_lay hG h hW (fun ad ρ1 hr hl hag => ⟨rfl, fun z0 ρ4 e4 => ?_, fun z0 ad => k ad ρ1 hr hl (hr.2.2 z0) hag⟩)
  have b4 : Ag (fun q => q = (40, 0, 0)) ρ1 ρ4 := by rw [e4]; exact Ag_pI rfl
  have i4 : ∀ j, iR ρ4 (40, 0, 0) j = if j = 26 then 1 else iR ρ1 (40, 0, 0) j := fun j => by rw [e4, iR_pI]; simp
  have hB4 : MB ρ4 σ := MB_ag hr.1 b4 (fun j hj => by rw [i4, if_neg (by omega)]) (fun f _ => by simp)
  have hL4 : ML ρ4 σ := ML_of hl (by rw [i4]; simp) (fun f f1 f2 => (b4 (41, f, 0) (by simp)).2.1)
  have bq : ∀ {ρ2}, S4 ρ4 ρ2 → MB ρ2 σ ∧ ML ρ2 σ ∧ MR ρ2 σ := fun h => by
    have hl2 : ML _ σ := ML_of hL4 (h.1 13 (by omega)) (fun f f1 f2 => (h.2 (41, f, 0) (PPt_n (by omega))).2.1)
    exact ⟨MB_ag hB4 h.2 (fun j hj => h.1 j (by omega)) (fun f hf => PPt_n (by omega)), hl2, hl2.1, hl2.2.1, hl2.2.2.1⟩
  have hgo : ∀ s a k, s < nS σ → a < dA σ → k < dO σ a → goA σ s a k < nS σ := fun s a k _ ha hk => goA_lt hW ha hk
  have k62 : ∀ (m r had : Nat) (ρ2 : Rs) (p : Nat → Nat) (f : Nat → Bool), nS σ ≤ had + m → S4 ρ4 ρ2 → MPr ρ2 σ p → (∀ s t, s < nS σ → t < nS σ → (p s = p t ↔ ekv σ r s t)) → (∀ s, s < nS σ → (f s = true ↔ isF (ekv σ r) s)) → (had = 0 ∨ had = cnt f (nS σ)) → had ≤ nS σ → Y G [] ad0 M Q 62 (fun ad => [(0, .ref (ad (40, 0, 0))), (1, .int (nI had)), (2, .int 1)]) (fun ad => []) ρ2 := by
    intro m
    induction m using Nat.strongRecOn with
    | ind m ihm =>
      intro r had ρ2 p f hm s2 hp hpe hf hhad hhN
      obtain ⟨g, hg⟩ := bool_of (isF (ekv σ (r + 1)))
      have hpb : ∀ u, u < nS σ → p u < 4096 := fun u hu => (hp u hu).2
      have hal : ∀ s q, s < nS σ → q < nS σ → ((p s = p q ∧ ∀ a, a < dA σ → mch σ (fun x y => p x = p y) s q a) ↔ ekv σ (r + 1) s q) := by
        intro s q hs hq
        constructor
        · rintro ⟨x1, x2⟩
          exact ⟨(hpe s q hs hq).mp x1, fun a ha => mch_on hW ha (fun x y hx hy e => (hpe x y hx hy).mp e) (x2 a ha)⟩
        · rintro ⟨x1, x2⟩
          exact ⟨(hpe s q hs hq).mpr x1, fun a ha => mch_on hW ha (fun x y hx hy e => (hpe x y hx hy).mpr e) (x2 a ha)⟩
      have hsg : ∀ s q, s < nS σ → q < nS σ → ekv σ (r + 1) s q → sgn σ p s (dA σ) = sgn σ p q (dA σ) := fun s q hs hq e => sgn_same hW hpb ((hal s q hs hq).mpr e).1 ((hal s q hs hq).mpr e).2 (dA σ) (Nat.le_refl _)
      have gN := cnt_le g (nS σ)
      have g0 : 0 < cnt g (nS σ) := cnt_pos (x := 0) (by omega) ((hg 0).mpr (fun q hq => absurd hq (by omega)))
      have gf : had ≤ cnt g (nS σ) := by
        rcases hhad with e | e
        · omega
        · rw [e]
          refine cnt_mono (fun s hs hx => (hg s).mpr (fun q hq e => ?_))
          exact ((hf s hs).mp hx) q hq e.1
      -- the pieces are written over
      have k252 : ∀ (dd s : Nat) (ρ3 : Rs) (p' : Nat → Nat), s + dd = nS σ → S4 ρ4 ρ3 → iR ρ3 (40, 0, 0) 32 = nI (cnt g (nS σ)) → (∀ u, u < nS σ → iR ρ3 (41, 28, 0) u = nI (p' u) ∧ p' u < cnt g (nS σ)) → (∀ u t, u < nS σ → t < nS σ → (p' u = p' t ↔ ekv σ (r + 1) u t)) → (∀ u, u < s → iR ρ3 (41, 27, 0) u = nI (p' u)) → Y G [] ad0 M Q 252 (fun ad => [(0, .ref (ad (40, 0, 0))), (1, .int (nI had)), (3, .int (nI s))]) (fun ad => []) ρ3 := by
        intro dd
        induction dd with
        | zero =>
          intro s ρ3 p' hdd s3 h32 h28 hp' h27
          have es : s = nS σ := by omega
          subst es
          obtain ⟨q1, q2, q3⟩ := bq s3
          refine T_Mo_partAll_252 hG hM _ _ ρ3 ⟨fun _ z2 ez2 => ?_, fun z => absurd (by rw [q2.1]; exact (nI_leI (by omega) (by omega)).mpr (Nat.le_refl _)) z⟩
          rw [h32]
          rw [h32] at ez2
          have pr' : MPr ρ3 σ p' := fun u hu => ⟨h27 u hu, by have := (h28 u hu).2; omega⟩
          by_cases ec : cnt g (nS σ) = had
          · rw [if_pos (by rw [ec])] at ez2
            rw [ez2]
            refine T_Mo_partAll_62 hG hM _ _ ρ3 ⟨fun _ ad => ?_, fun z => absurd rfl z⟩
            have hc : cnt f (nS σ) = cnt g (nS σ) := by
              rcases hhad with e | e
              · omega
              · omega
            have fix := ekv_fix (n := r) hgo (ekv_same hf (fun s _ => hg s) hc)
            have al : ∀ u t, u < nS σ → t < nS σ → (ekv σ (r + 1) u t ↔ alk σ u t) := fun u t hu ht => ⟨fun e => fix u t hu ht e.1, fun e => e (r + 1)⟩
            have mp : MP ρ3 σ := ⟨⟨p', pr', fun u t hu ht => (hp' u t hu ht).trans (al u t hu ht)⟩, g, fun u hu => (hg u).trans ⟨fun x q hq e => x q hq ((al q u (by omega) hu).mpr e), fun x q hq e => x q hq ((al q u (by omega) hu).mp e)⟩, h32⟩
            exact k ad ρ3 ⟨q1, fun _ => q2, fun _ => mp⟩ q2 mp (Ag_tr hag (Ag_tr (Ag_mono b4 (fun q e => by rw [e]; unfold PMo; decide)) (Ag_mono s3.2 (fun q e => by
              rcases e with e | e
              · rw [e]; unfold PMo; decide
              · unfold PMo; rw [e.1]; omega))))
          · rw [if_neg (fun z => ec ((nI_eq (by omega) (by omega)).mp z))] at ez2
            rw [ez2]
            exact ihm (m - 1) (by omega) (r + 1) (cnt g (nS σ)) ρ3 p' g (by omega) s3 pr' hp' (fun u _ => hg u) (Or.inr rfl) gN
        | succ dd ih =>
          intro s ρ3 p' hdd s3 h32 h28 hp' h27
          obtain ⟨q1, q2, q3⟩ := bq s3
          refine T_Mo_partAll_252 hG hM _ _ ρ3 ⟨fun z => absurd (by rw [q2.1] at z; exact (nI_leI (by omega) (by omega)).mp z) (by omega), fun _ => ⟨vp_in_nI (by omega) (by omega), vp_in_nI (by omega) (by omega), ?_⟩⟩
          rw [nI_clamp (n := s) (by omega), (h28 s (by omega)).1, nI_1 s]
          intro ρ5 e5
          refine ih (s + 1) ρ5 p' (by omega) (S4_i s3 (by omega) (by omega) e5) (by rw [e5, iR_pI, if_neg (by simp)]; exact h32) (fun u hu => by rw [e5, iR_pI, if_neg (by simp)]; exact h28 u hu) hp' (fun u hu => ?_)
          rw [e5, iR_pI]
          by_cases e : u = s
          · rw [if_pos ⟨rfl, e⟩, e]
          · rw [if_neg (fun z => e z.2)]; exact h27 u (by omega)
      -- every state gets its class
      have k95 : ∀ (dd s : Nat) (ρ3 : Rs) (p' : Nat → Nat), s + dd = nS σ → S4 ρ4 ρ3 → MPr ρ3 σ p → (∀ u, u < s → lR ρ3 (41, 29, 0) u = sgn σ p u (dA σ)) → iR ρ3 (40, 0, 0) 32 = nI (cnt g s) → (∀ u, u < s → iR ρ3 (41, 28, 0) u = nI (p' u) ∧ p' u < cnt g s) → (∀ u t, u < s → t < s → (p' u = p' t ↔ ekv σ (r + 1) u t)) → (∀ x, x < 8192 → ∃ L, Cs ρ3 L (iR ρ3 (41, 30, 0) x) ∧ ∀ u, u ∈ L ↔ (u < s ∧ g u = true ∧ slt (sgn σ p u (dA σ)) = x)) → Y G [] ad0 M Q 95 (fun ad => [(0, .ref (ad (40, 0, 0))), (1, .int (nI had)), (3, .int (nI s))]) (fun ad => []) ρ3 := by
        intro dd
        induction dd with
        | zero =>
          intro s ρ3 p' hdd s3 hp3 h29 h32 h28 hp' hch
          have es : s = nS σ := by omega
          subst es
          obtain ⟨q1, q2, q3⟩ := bq s3
          exact T_Mo_partAll_95 hG hM _ _ ρ3 ⟨fun _ => k252 (nS σ) 0 ρ3 p' (by omega) s3 h32 h28 hp' (fun u hu => absurd hu (by omega)), fun z => absurd (by rw [q2.1]; exact (nI_leI (by omega) (by omega)).mpr (Nat.le_refl _)) z⟩
        | succ dd ih =>
          intro s ρ3 p' hdd s3 hp3 h29 h32 h28 hp' hch
          have hs : s < nS σ := by omega
          obtain ⟨q1, q2, q3⟩ := bq s3
          refine T_Mo_partAll_95 hG hM _ _ ρ3 ⟨fun z => absurd (by rw [q2.1] at z; exact (nI_leI (by omega) (by omega)).mp z) (by omega), fun _ => ?_⟩
          refine c_signOf hG q1.2.2.1 q1.2.2.2.1 q3 hW hp3 hs (fun ad => ⟨_, rfl, vp_in_nI (by omega) (by omega), ?_⟩)
          rw [nI_clamp (n := s) (by omega)]
          intro ρ5 e5
          have s5 := S4_l s3 (by omega) (by omega) e5
          obtain ⟨w1, w2, w3⟩ := bq s5
          have l5 : ∀ u, lR ρ5 (41, 29, 0) u = if u = s then sgn σ p s (dA σ) else lR ρ3 (41, 29, 0) u := fun u => by rw [e5, lR_pL]; simp
          have i5 : iR ρ5 = iR ρ3 := by rw [e5, iR_pL]
          obtain ⟨sl1, sl2⟩ := slt_eq (sgn σ p s (dA σ))
          rw [l5, if_pos rfl, sl1, nI_clamp (n := slt _) (by omega), i5]
          refine ⟨vp_in_nI (by omega) (by omega), vp_in_nI (by omega) (by omega), ?_⟩
          have hp5 : MPr ρ5 σ p := fun u hu => by rw [i5]; exact hp3 u hu
          have h29' : ∀ u, u < s + 1 → lR ρ5 (41, 29, 0) u = sgn σ p u (dA σ) := fun u hu => by
            rw [l5]
            by_cases e : u = s
            · rw [if_pos e, e]
            · rw [if_neg e]; exact h29 u (by omega)
          have cgs := cnt_le g s
          -- it is like q
          have k181q : ∀ q, q < s → ekv σ (r + 1) s q → Y G [] ad0 M Q 181 (fun ad => [(0, .ref (ad (40, 0, 0))), (1, .int (nI had)), (3, .int (nI s)), (4, .int (nI (slt (sgn σ p s (dA σ))))), (5, .int (nI q))]) (fun ad => []) ρ5 := by
            intro q hq he
            have gs : g s = false := by
              cases hx : g s with
              | false => rfl
              | true => exact absurd (ekv_symm _ _ _ he) ((hg s).mp hx q hq)
            have cs : cnt g (s + 1) = cnt g s := by show cnt g s + _ = _; rw [gs]; simp
            refine T_Mo_partAll_181 hG hM _ _ _ _ ρ5 ⟨fun z => absurd z (nI_m1 (by omega)), fun _ => ⟨vp_in_nI (by omega) (by omega), vp_in_nI (by omega) (by omega), ?_⟩⟩
            rw [nI_clamp (n := s) (by omega), nI_clamp (n := q) (by omega), i5, (h28 q hq).1, nI_1 s]
            intro ρ7 e7
            have i7 : ∀ (rr : Ro), rr ≠ (41, 28, 0) → iR ρ7 rr = iR ρ3 rr := fun rr hrr => by rw [← i5, e7]; exact uR_n hrr
            have r28 : ∀ u, iR ρ7 (41, 28, 0) u = if u = s then nI (p' q) else iR ρ3 (41, 28, 0) u := fun u => by rw [e7, iR_pI, i5]; simp
            refine ih (s + 1) ρ7 (va_up p' s (p' q)) (by omega) (S4_i s5 (by omega) (by omega) e7) (fun u hu => by rw [i7 _ (by decide)]; exact hp3 u hu) (fun u hu => by rw [e7, lR_pI]; exact h29' u hu) (by rw [i7 _ (by decide), cs]; exact h32) (fun u hu => ?_) (fun u t hu ht => ?_) (fun x hx => ?_)
            · rw [r28, cs]
              by_cases e : u = s
              · rw [if_pos e, e, ups]; exact ⟨rfl, (h28 q hq).2⟩
              · rw [if_neg e, upn e]; exact h28 u (by omega)
            · by_cases e : u = s
              · by_cases e2 : t = s
                · rw [e, e2]; exact ⟨fun _ => ekv_refl _ _, fun _ => rfl⟩
                · rw [e, ups, upn e2, hp' q t hq (by omega)]
                  exact ⟨fun x => ekv_trans _ _ _ _ he x, fun x => ekv_trans _ _ _ _ (ekv_symm _ _ _ he) x⟩
              · by_cases e2 : t = s
                · rw [e2, ups, upn e, hp' u q (by omega) hq]
                  exact ⟨fun x => ekv_trans _ _ _ _ x (ekv_symm _ _ _ he), fun x => ekv_trans _ _ _ _ x he⟩
                · rw [upn e, upn e2]; exact hp' u t (by omega) (by omega)
            · obtain ⟨L, l1, l2⟩ := hch x hx
              refine ⟨L, by rw [i7 (41, 30, 0) (by decide)]; exact Cs_of (fun u _ => by rw [i7 (41, 31, 0) (by decide)]) l1, fun u => (l2 u).trans ⟨fun ⟨y1, y2⟩ => ⟨by omega, y2⟩, fun ⟨y1, y2, y3⟩ => ⟨?_, y2, y3⟩⟩⟩
              by_cases e : u = s
              · rw [e, gs] at y2; cases y2
              · omega
          -- it is like none
          have k181n : isF (ekv σ (r + 1)) s → Y G [] ad0 M Q 181 (fun ad => [(0, .ref (ad (40, 0, 0))), (1, .int (nI had)), (3, .int (nI s)), (4, .int (nI (slt (sgn σ p s (dA σ))))), (5, .int (-1))]) (fun ad => []) ρ5 := by
            intro hF
            have gs : g s = true := (hg s).mpr hF
            have cs : cnt g (s + 1) = cnt g s + 1 := by show cnt g s + _ = _; rw [gs]; simp
            refine T_Mo_partAll_181 hG hM _ _ _ _ ρ5 ⟨fun _ => ⟨vp_in_nI (by omega) (by omega), ?_⟩, fun z => absurd rfl z⟩
            rw [nI_clamp (n := s) (by omega), nI_clamp (n := slt _) (by omega), i5, h32, nI_1 s]
            intro ρ6 e6 ρ7 e7
            have x6 : iR ρ6 (40, 0, 0) 32 = nI (cnt g s) := by rw [e6, iR_pI, if_neg (by simp), i5]; exact h32
            rw [x6, nI_1] at e7
            refine ⟨vp_in_nI (by omega) (by omega), vp_in_nI (by omega) (by omega), ?_⟩
            have x7 : iR ρ7 (41, 30, 0) = iR ρ3 (41, 30, 0) := by
              funext x
              rw [e7, iR_pI, if_neg (by simp), e6, iR_pI, if_neg (by simp), i5]
            rw [x7]
            intro ρ8 e8
            refine ⟨vp_in_nI (by omega) (by omega), fun ρ9 e9 => ?_⟩
            have s9 : S4 ρ4 ρ9 := S4_i (S4_i (S4_s (S4_i s5 (by omega) (by omega) e6) e7) (by omega) (by omega) e8) (by omega) (by omega) e9
            have r28 : ∀ u, iR ρ9 (41, 28, 0) u = if u = s then nI (cnt g s) else iR ρ3 (41, 28, 0) u := fun u => by rw [e9, iR_pI, e8, iR_pI, e7, iR_pI, e6, iR_pI, i5]; simp
            have r27 : ∀ u, iR ρ9 (41, 27, 0) u = iR ρ3 (41, 27, 0) u := fun u => by rw [e9, iR_pI, e8, iR_pI, e7, iR_pI, e6, iR_pI, i5]; simp
            have r32 : iR ρ9 (40, 0, 0) 32 = nI (cnt g s + 1) := by rw [e9, iR_pI, e8, iR_pI, e7, iR_pI]; simp
            have r31 : ∀ u, iR ρ9 (41, 31, 0) u = if u = s then iR ρ3 (41, 30, 0) (slt (sgn σ p s (dA σ))) else iR ρ3 (41, 31, 0) u := fun u => by rw [e9, iR_pI, e8, iR_pI, e7, iR_pI, e6, iR_pI, i5]; simp
            have r30 : ∀ x, iR ρ9 (41, 30, 0) x = if x = slt (sgn σ p s (dA σ)) then nI s else iR ρ3 (41, 30, 0) x := fun x => by rw [e9, iR_pI, e8, iR_pI, e7, iR_pI, e6, iR_pI, i5]; simp
            refine ih (s + 1) ρ9 (va_up p' s (cnt g s)) (by omega) s9 (fun u hu => by rw [r27]; exact hp3 u hu) (fun u hu => by rw [e9, lR_pI, e8, lR_pI, e7, lR_pI, e6, lR_pI]; exact h29' u hu) (by rw [r32, cs]) (fun u hu => ?_) (fun u t hu ht => ?_) (fun x hx => ?_)
            · rw [r28, cs]
              by_cases e : u = s
              · rw [if_pos e, e, ups]; exact ⟨rfl, by omega⟩
              · rw [if_neg e, upn e]
                have := h28 u (by omega)
                exact ⟨this.1, by omega⟩
            · by_cases e : u = s
              · by_cases e2 : t = s
                · rw [e, e2]; exact ⟨fun _ => ekv_refl _ _, fun _ => rfl⟩
                · rw [e, ups, upn e2]
                  have := (h28 t (by omega)).2
                  exact ⟨fun x => by omega, fun x => absurd (ekv_symm _ _ _ x) (hF t (by omega))⟩
              · by_cases e2 : t = s
                · rw [e2, ups, upn e]
                  have := (h28 u (by omega)).2
                  exact ⟨fun x => by omega, fun x => absurd x (hF u (by omega))⟩
                · rw [upn e, upn e2]; exact hp' u t (by omega) (by omega)
            · obtain ⟨L, l1, l2⟩ := hch x hx
              have l1' : Cs ρ9 L (iR ρ3 (41, 30, 0) x) := Cs_of (fun u hu => by
                have := ((l2 u).mp hu).1
                rw [r31, if_neg (by omega)]) l1
              by_cases ex : x = slt (sgn σ p s (dA σ))
              · refine ⟨s :: L, ?_, fun u => ?_⟩
                · rw [r30, if_pos ex]
                  exact ⟨rfl, by rw [r31, if_pos rfl, ← ex]; exact l1'⟩
                · rw [List.mem_cons, l2 u]
                  constructor
                  · rintro (z | ⟨z1, z2⟩)
                    · rw [z]; exact ⟨by omega, gs, ex.symm⟩
                    · exact ⟨by omega, z2⟩
                  · rintro ⟨z1, z2⟩
                    by_cases e : u = s
                    · exact Or.inl e
                    · exact Or.inr ⟨by omega, z2⟩
              · refine ⟨L, by rw [r30, if_neg ex]; exact l1', fun u => (l2 u).trans ⟨fun ⟨y1, y2⟩ => ⟨by omega, y2⟩, fun ⟨y1, y2, y3⟩ => ⟨?_, y2, y3⟩⟩⟩
                by_cases e : u = s
                · rw [e] at y3; exact absurd y3.symm ex
                · omega
          -- the states of its slot
          have k136 : ∀ (L : List Nat) (v : Int32), Cs ρ5 L v → (∀ u, u ∈ L → u < s) → (∀ u, u < s → g u = true → slt (sgn σ p u (dA σ)) = slt (sgn σ p s (dA σ)) → u ∈ L ∨ ¬ ekv σ (r + 1) s u) → Y G [] ad0 M Q 136 (fun ad => [(0, .ref (ad (40, 0, 0))), (1, .int (nI had)), (3, .int (nI s)), (4, .int (nI (slt (sgn σ p s (dA σ))))), (5, .int v)]) (fun ad => []) ρ5 := by
            intro L
            induction L with
            | nil =>
              intro v hv hin hall
              have hv : v = -1 := hv
              subst hv
              refine T_Mo_partAll_136 hG hM _ _ _ _ ρ5 ⟨fun _ => k181n (fun u hu he => ?_), fun z => absurd rfl z⟩
              obtain ⟨w, hw, hwF, hwe⟩ := isF_ex (E := ekv σ (r + 1)) (ekv_refl _) (ekv_trans _) u
              have hws : ekv σ (r + 1) w s := ekv_trans _ _ _ _ hwe he
              have hsw := ekv_symm _ _ _ hws
              rcases hall w (by omega) ((hg w).mpr hwF) (by rw [hsg w s (by omega) hs hws]) with z | z
              · cases z
              · exact z hsw
            | cons u L ih2 =>
              intro v hv hin hall
              obtain ⟨ev, hch2⟩ := hv
              subst ev
              have hu := hin u List.mem_cons_self
              -- u is not like s
              have no : ¬ ekv σ (r + 1) s u → Y G [] ad0 M Q 136 (fun ad => [(0, .ref (ad (40, 0, 0))), (1, .int (nI had)), (3, .int (nI s)), (4, .int (nI (slt (sgn σ p s (dA σ))))), (5, .int (iR ρ5 (41, 31, 0) u))]) (fun ad => []) ρ5 := fun hne => by
                refine ih2 _ hch2 (fun x hx => hin x (List.mem_cons_of_mem _ hx)) (fun x x1 x2 x3 => ?_)
                rcases hall x x1 x2 x3 with z | z
                · rcases List.mem_cons.mp z with z | z
                  · right; rw [z]; exact hne
                  · exact Or.inl z
                · exact Or.inr z
              refine T_Mo_partAll_136 hG hM _ _ _ _ ρ5 ⟨fun z => absurd z (nI_m1 (by omega)), fun _ => ⟨vp_in_nI (by omega) (by omega), vp_in_nI (by omega) (by omega), ?_⟩⟩
              rw [nI_clamp (n := u) (by omega), nI_clamp (n := s) (by omega), h29' u (by omega), h29' s (by omega), lg_cmp_eq]
              refine ⟨fun z => ?_, fun z => ⟨vp_in_nI (by omega) (by omega), no (fun he => z (hsg s u hs (by omega) he).symm)⟩⟩
              refine c_areAlike hG w1.2.2.1 w1.2.2.2.1 w3 hW hp5 hs (by omega) (fun a1 a2 ad => ⟨_, rfl, fun z => absurd z (by decide), fun _ => k181q u hu ((hal s u hs (by omega)).mp ⟨a1, a2⟩)⟩) (fun a1 ad => ⟨_, rfl, fun _ => ⟨vp_in_nI (by omega) (by omega), no (fun he => a1 ((hal s u hs (by omega)).mpr he))⟩, fun z => absurd rfl z⟩)
          obtain ⟨L, l1, l2⟩ := hch _ sl2
          exact k136 L _ (Cs_of (fun u _ => by rw [i5]) l1) (fun u hu => ((l2 u).mp hu).1) (fun u x1 x2 x3 => Or.inl ((l2 u).mpr ⟨x1, x2, x3⟩))
      -- the table is emptied
      have k68 : ∀ (dd x : Nat) (ρ3 : Rs), x + dd = 8192 → S4 ρ4 ρ3 → MPr ρ3 σ p → (∀ y, y < x → iR ρ3 (41, 30, 0) y = -1) → Y G [] ad0 M Q 68 (fun ad => [(0, .ref (ad (40, 0, 0))), (1, .int (nI had)), (3, .int (nI x))]) (fun ad => []) ρ3 := by
        intro dd
        induction dd with
        | zero =>
          intro x ρ3 hdd s3 hp3 h30
          have ex : x = 8192 := by omega
          subst ex
          refine T_Mo_partAll_68 hG hM _ _ ρ3 ⟨fun _ ρ5 e5 => ?_, fun z => absurd (by decide) z⟩
          refine k95 (nS σ) 0 ρ5 (fun _ => 0) (by omega) (S4_s s3 e5) (fun u hu => by rw [e5, iR_pI, if_neg (by simp)]; exact hp3 u hu) (fun u hu => absurd hu (by omega)) (by rw [e5, iR_pI, if_pos ⟨rfl, rfl⟩]; rfl) (fun u hu => absurd hu (by omega)) (fun u t hu => absurd hu (by omega)) (fun x hx => ⟨[], ?_, fun u => ⟨fun z => (by cases z), fun z => absurd z.1 (by omega)⟩⟩)
          show iR ρ5 (41, 30, 0) x = -1
          rw [e5, iR_pI, if_neg (by simp)]; exact h30 x hx
        | succ dd ih =>
          intro x ρ3 hdd s3 hp3 h30
          have le : ((8192 : Int32) ≤ nI x) ↔ 8192 ≤ x := nI_leI (a := 8192) (by decide) (by omega)
          refine T_Mo_partAll_68 hG hM _ _ ρ3 ⟨fun z => absurd (le.mp z) (by omega), fun _ => ⟨vp_in_nI (by omega) (by omega), ?_⟩⟩
          rw [nI_clamp (n := x) (by omega), nI_1 x]
          intro ρ5 e5
          refine ih (x + 1) ρ5 (by omega) (S4_i s3 (by omega) (by omega) e5) (fun u hu => by rw [e5, iR_pI, if_neg (by simp)]; exact hp3 u hu) (fun y hy => ?_)
          rw [e5, iR_pI]
          by_cases e : y = x
          · rw [if_pos ⟨rfl, e⟩]
          · rw [if_neg (fun z => e z.2)]; exact h30 y (by omega)
      refine T_Mo_partAll_62 hG hM _ _ ρ2 ⟨fun z => absurd z (by decide), fun _ => ?_⟩
      exact k68 8192 0 ρ2 (by omega) s2 hp (fun y hy => absurd hy (by omega))
  have k21 : ∀ (dd s : Nat) (ρ2 : Rs), s + dd = nS σ → S4 ρ4 ρ2 → (∀ u, u < s → iR ρ2 (41, 27, 0) u = nI (if aimW σ u = true then 1 else 0)) → Y G [] ad0 M Q 21 (fun ad => [(0, .ref (ad (40, 0, 0))), (1, .int 0), (2, .int (nI s))]) (fun ad => []) ρ2 := by
    intro dd
    induction dd with
    | zero =>
      intro s ρ2 hdd s2 h27
      have es : s = nS σ := by omega
      subst es
      obtain ⟨q1, q2, q3⟩ := bq s2
      refine T_Mo_partAll_21 hG hM _ _ ρ2 ⟨fun _ ρ3 e3 => ?_, fun z => absurd (by rw [q2.1]; exact (nI_leI (by omega) (by omega)).mpr (Nat.le_refl _)) z⟩
      obtain ⟨f, hf⟩ := bool_of (isF (ekv σ 0))
      refine k62 (nS σ) 0 0 ρ3 (fun u => if aimW σ u = true then 1 else 0) f (by omega) (S4_s s2 e3) (fun u hu => ⟨by rw [e3, iR_pI, if_neg (by simp)]; exact h27 u hu, ?_⟩) (fun u t _ _ => ?_) (fun u _ => hf u) (Or.inl rfl) (by omega)
      · show (if aimW σ u = true then 1 else 0) < 4096
        split <;> omega
      · show (if aimW σ u = true then 1 else 0) = (if aimW σ t = true then 1 else 0) ↔ aimW σ u = aimW σ t
        cases aimW σ u <;> cases aimW σ t <;> simp
    | succ dd ih =>
      intro s ρ2 hdd s2 h27
      obtain ⟨q1, q2, q3⟩ := bq s2
      have hs : s < nS σ := by omega
      refine T_Mo_partAll_21 hG hM _ _ ρ2 ⟨fun z => absurd (by rw [q2.1] at z; exact (nI_leI (by omega) (by omega)).mp z) (by omega), fun _ => ⟨vp_in_nI (by omega) (by omega), ?_⟩⟩
      rw [nI_clamp (n := s) (by omega), q3.2.2 s hs, nI_1 s]
      intro z4 ez4
      refine ⟨vp_in_nI (by omega) (by omega), fun ρ5 e5 => ?_⟩
      have ez4 : z4 = nI (if aimW σ s = true then 1 else 0) := by rw [ez4]; cases aimW σ s <;> rfl
      refine ih (s + 1) ρ5 (by omega) (S4_i s2 (by omega) (by omega) e5) (fun u hu => ?_)
      rw [e5, iR_pI]
      by_cases e : u = s
      · rw [if_pos ⟨rfl, e⟩, e, ez4]
      · rw [if_neg (fun z => e z.2)]; exact h27 u (by omega)
  exact k21 (nS σ) 0 ρ4 (by omega) S4_rf (fun u hu => absurd hu (by omega))
end B58
