set_option maxRecDepth 100000 in
set_option maxHeartbeats 4000000 in
theorem T_Wi_findAim_0 {G : Gc} {M : Mc} {Q : State → Prop} {ad0 : Ro → Nat} {K : (Ro → Nat) → Option Value → Rs → Prop} (hG : gok G) (hM : mok G M r_Wi_findAim Q (KV G [33] ad0 K))  (ρ : Rs) (F : ∃ m2 : Nat, (iR ρ (1, 0, 0) 1) = nI m2 ∧ m2 ≤ 4096 ∧ (∀ ρ1 : Rs, ρ1 = rowR ρ (33, 0, 0) m2 → (∀ ρ7 : Rs, ρ7 = pI ρ1 (6, 0, 0) 1 0 → (Y G [33] ad0 M Q 22 (fun ad => [(0, .ref (ad (6, 0, 0))), (1, .ref (ad (1, 0, 0))), (2, .ref (ad (10, 0, 0))), (3, .int 0)]) (fun ad => []) ρ7)))) : Y G [33] ad0 M Q 0 (fun ad => [(0, .ref (ad (6, 0, 0))), (1, .ref (ad (1, 0, 0))), (2, .ref (ad (10, 0, 0)))]) (fun ad => []) ρ := by
  intro ad h hSt V
  show X G M Q 0 [(0, .ref (ad (6, 0, 0))), (1, .ref (ad (1, 0, 0))), (2, .ref (ad (10, 0, 0)))] [] h
  refine x_aload_n hM d_Wi_findAim_0 rfl 0 rfl ?_
  refine x_aload_n hM d_Wi_findAim_1 rfl 0 rfl ?_
  refine y_getr hG hM V ck_Wi 0 (Nat.le_of_ble_eq_true rfl) rfl rfl w_283 rfl d_Wi_findAim_2 (6, 0, 0) (33, 0, 0) rfl rfl rfl ?_
  refine x_aload_n hM d_Wi_findAim_5 rfl 1 rfl ?_
  refine y_geti hG hM V ck_Wo 1 (Nat.le_of_ble_eq_true rfl) rfl rfl w_128 rfl d_Wi_findAim_6 (1, 0, 0) rfl rfl ?_
  obtain ⟨m2, c3, c4, F⟩ := F
  obtain ⟨ρ1, eρ1⟩ : ∃ z : Rs, z = rowR ρ (33, 0, 0) m2 := ⟨_, rfl⟩
  replace F := F ρ1 eρ1
  refine y_mark hG hM V rfl ⟨Nat.le_of_ble_eq_true rfl, Nat.le_of_ble_eq_true rfl⟩ w_646 w_647 d_Wi_findAim_9 d_Wi_findAim_12 ck_Wi (k := 0) (Nat.le_of_ble_eq_true rfl) (Or.inr ⟨_, rfl⟩) w_283 rfl rfl (Nat.le_of_ble_eq_true rfl) (6, 0, 0) (33, 0, 0) rfl rfl rfl (by decide) rfl rfl rfl c3 c4 (fun ad6 h hs5 V => ?_)
  rw [← eρ1] at V
  clear eρ1
  have ea0 : ad6 (6, 0, 0) = ad (6, 0, 0) := hs5 _ (Or.inr rfl)
  have ea1 : ad6 (1, 0, 0) = ad (1, 0, 0) := hs5 _ (Or.inr rfl)
  have ea2 : ad6 (10, 0, 0) = ad (10, 0, 0) := hs5 _ (Or.inr rfl)
  rw [← ea0, ← ea1, ← ea2]
  replace hSt := St_tr hSt (St_mono (mv' := [33]) (by decide) hs5)
  refine x_aload_n hM d_Wi_findAim_15 rfl 0 rfl ?_
  refine x_iconst (v := 0) hM d_Wi_findAim_16 (by decide) ?_
  obtain ⟨ρ7, eρ7⟩ : ∃ z : Rs, z = pI ρ1 (6, 0, 0) 1 0 := ⟨_, rfl⟩
  replace F := F ρ7 eρ7
  refine y_puti hG hM V ck_Wi 1 (Nat.le_of_ble_eq_true rfl) rfl rfl w_285 rfl d_Wi_findAim_17 rfl (6, 0, 0) rfl rfl (fun h V => ?_)
  rw [← eρ7] at V
  clear eρ7
  refine x_iconst (v := 0) hM d_Wi_findAim_20 (by decide) ?_
  refine x_istore_n (lv2 := [(3, .int 0), (0, .ref (ad6 (6, 0, 0))), (1, .ref (ad6 (1, 0, 0))), (2, .ref (ad6 (10, 0, 0)))]) hM d_Wi_findAim_21 rfl (Nat.le_of_ble_eq_true rfl) rfl ?_
  refine x_sub [1, 2, 3, 0] rfl ?_
  exact F _ _ hSt V
set_option maxRecDepth 100000 in
set_option maxHeartbeats 4000000 in
theorem T_Wi_findAim_22 {G : Gc} {M : Mc} {Q : State → Prop} {ad0 : Ro → Nat} {K : (Ro → Nat) → Option Value → Rs → Prop} (hG : gok G) (hM : mok G M r_Wi_findAim Q (KV G [33] ad0 K)) (v3 : Int32) (ρ : Rs) (F : ((iR ρ (1, 0, 0) 1) ≤ v3 → (∀ ad, K ad none ρ)) ∧ (¬ (iR ρ (1, 0, 0) 1) ≤ v3 → (vp_in v3 (nR ρ (30, 6, 0)) ∧ (semV G r_Cl_hold [] (fun ad => [.ref (ad (10, 0, 0)), .int (iR ρ (30, 6, 0) (Int32.toNatClampNeg v3))]) ρ (fun ad u4 ρ3 => ∃ x6 : Int32, u4 = some (.int x6) ∧ (vp_in v3 (nR ρ3 (33, 0, 0)) ∧ nb x6 ∧ (∀ ρ7 : Rs, ρ7 = pI ρ3 (33, 0, 0) (Int32.toNatClampNeg v3) x6 → (vp_in v3 (nR ρ7 (33, 0, 0)) ∧ (((iR ρ7 (33, 0, 0) (Int32.toNatClampNeg v3)) = 0 → (Y G [33] ad0 M Q 22 (fun ad => [(0, .ref (ad (6, 0, 0))), (1, .ref (ad (1, 0, 0))), (2, .ref (ad (10, 0, 0))), (3, .int (v3 + 1))]) (fun ad => []) ρ7)) ∧ (¬ (iR ρ7 (33, 0, 0) (Int32.toNatClampNeg v3)) = 0 → (∀ ρ9 : Rs, ρ9 = pI ρ7 (6, 0, 0) 1 ((iR ρ7 (6, 0, 0) 1) + 1) → (Y G [33] ad0 M Q 22 (fun ad => [(0, .ref (ad (6, 0, 0))), (1, .ref (ad (1, 0, 0))), (2, .ref (ad (10, 0, 0))), (3, .int (v3 + 1))]) (fun ad => []) ρ9)))))))))))) : Y G [33] ad0 M Q 22 (fun ad => [(0, .ref (ad (6, 0, 0))), (1, .ref (ad (1, 0, 0))), (2, .ref (ad (10, 0, 0))), (3, .int v3)]) (fun ad => []) ρ := by
  intro ad h hSt V
  show X G M Q 22 [(0, .ref (ad (6, 0, 0))), (1, .ref (ad (1, 0, 0))), (2, .ref (ad (10, 0, 0))), (3, .int v3)] [] h
  refine x_iload_n hM d_Wi_findAim_22 rfl 3 rfl ?_
  refine x_aload_n hM d_Wi_findAim_23 rfl 1 rfl ?_
  refine y_geti hG hM V ck_Wo 1 (Nat.le_of_ble_eq_true rfl) rfl rfl w_128 rfl d_Wi_findAim_24 (1, 0, 0) rfl rfl ?_
  refine x_icmp_ge (tgt := 71) hM d_Wi_findAim_27 (by decide) (fun q14 => ?_) (fun q14 => ?_)
  · replace F := F.1 q14
    exact x_return hM d_Wi_findAim_71 rfl (y_end V hSt (F _))
  · replace F := F.2 q14
    refine x_aload_n hM d_Wi_findAim_30 rfl 0 rfl ?_
    refine y_getr hG hM V ck_Wi 0 (Nat.le_of_ble_eq_true rfl) rfl rfl w_283 rfl d_Wi_findAim_31 (6, 0, 0) (33, 0, 0) rfl rfl rfl ?_
    refine x_iload_n hM d_Wi_findAim_34 rfl 3 rfl ?_
    refine x_aload_n hM d_Wi_findAim_35 rfl 2 rfl ?_
    refine x_aload_n hM d_Wi_findAim_36 rfl 1 rfl ?_
    refine y_getr hG hM V ck_Wo 6 (Nat.le_of_ble_eq_true rfl) rfl rfl w_151 rfl d_Wi_findAim_37 (1, 0, 0) (30, 6, 0) rfl rfl rfl ?_
    refine x_iload_n hM d_Wi_findAim_40 rfl 3 rfl ?_
    obtain ⟨c2, F⟩ := F
    refine y_iaload hG hM V d_Wi_findAim_41 (30, 6, 0) rfl rfl c2 ?_
    refine x_callV hG hM (r' := r_Cl_hold) (ci := 4) [.int (iR ρ (30, 6, 0) (Int32.toNatClampNeg v3))] rfl rfl (Nat.le_of_ble_eq_true rfl) yk_Cl_hold ⟨Nat.le_of_ble_eq_true rfl, Nat.le_of_ble_eq_true rfl⟩ w_649 w_554 w_555 rfl rfl (Nat.le_of_ble_eq_true rfl) d_Wi_findAim_42 (by rw [vT V (ok_cl okC_0)]; rfl) (sem_mono (F _ _ V) ?_)
    intro u4 h F
    obtain ⟨ad13, ρ3, V, hs5, F⟩ := F
    obtain ⟨x6, rfl, F⟩ := F
    have hs5 := (St_eq hs5).symm
    subst hs5
    obtain ⟨c11, F⟩ := F
    obtain ⟨c12, F⟩ := F
    obtain ⟨ρ7, eρ7⟩ : ∃ z : Rs, z = pI ρ3 (33, 0, 0) (Int32.toNatClampNeg v3) x6 := ⟨_, rfl⟩
    replace F := F ρ7 eρ7
    refine y_zastore hG hM V d_Wi_findAim_45 (33, 0, 0) rfl rfl c11 c12 (fun h V => ?_)
    rw [← eρ7] at V
    clear eρ7
    refine x_aload_n hM d_Wi_findAim_46 rfl 0 rfl ?_
    refine y_getr hG hM V ck_Wi 0 (Nat.le_of_ble_eq_true rfl) rfl rfl w_283 rfl d_Wi_findAim_47 (6, 0, 0) (33, 0, 0) rfl rfl rfl ?_
    refine x_iload_n hM d_Wi_findAim_50 rfl 3 rfl ?_
    obtain ⟨c8, F⟩ := F
    refine y_zaload hG hM V d_Wi_findAim_51 (33, 0, 0) rfl rfl c8 ?_
    refine x_if_eq (tgt := 65) hM d_Wi_findAim_52 (by decide) (fun q10 => ?_) (fun q10 => ?_)
    · replace F := F.1 q10
      refine x_iinc (v := (v3 + 1)) (lv2 := [(3, .int (v3 + 1)), (0, .ref (ad (6, 0, 0))), (1, .ref (ad (1, 0, 0))), (2, .ref (ad (10, 0, 0)))]) hM d_Wi_findAim_65 (j := 3) rfl rfl (Nat.le_of_ble_eq_true rfl) rfl ?_
      refine x_goto (tgt := 22) hM d_Wi_findAim_68 (by decide) ?_
      refine x_sub [1, 2, 3, 0] rfl ?_
      exact F _ _ hSt V
    · replace F := F.2 q10
      refine x_aload_n hM d_Wi_findAim_55 rfl 0 rfl ?_
      refine x_dup hM d_Wi_findAim_56 rfl ?_
      refine y_geti hG hM V ck_Wi 1 (Nat.le_of_ble_eq_true rfl) rfl rfl w_285 rfl d_Wi_findAim_57 (6, 0, 0) rfl rfl ?_
      refine x_iconst (v := 1) hM d_Wi_findAim_60 (by decide) ?_
      refine x_iadd hM d_Wi_findAim_61 ?_
      obtain ⟨ρ9, eρ9⟩ : ∃ z : Rs, z = pI ρ7 (6, 0, 0) 1 ((iR ρ7 (6, 0, 0) 1) + 1) := ⟨_, rfl⟩
      replace F := F ρ9 eρ9
      refine y_puti hG hM V ck_Wi 1 (Nat.le_of_ble_eq_true rfl) rfl rfl w_285 rfl d_Wi_findAim_62 rfl (6, 0, 0) rfl rfl (fun h V => ?_)
      rw [← eρ9] at V
      clear eρ9
      refine x_iinc (v := (v3 + 1)) (lv2 := [(3, .int (v3 + 1)), (0, .ref (ad (6, 0, 0))), (1, .ref (ad (1, 0, 0))), (2, .ref (ad (10, 0, 0)))]) hM d_Wi_findAim_65 (j := 3) rfl rfl (Nat.le_of_ble_eq_true rfl) rfl ?_
      refine x_goto (tgt := 22) hM d_Wi_findAim_68 (by decide) ?_
      refine x_sub [1, 2, 3, 0] rfl ?_
      exact F _ _ hSt V
set_option maxRecDepth 100000 in
set_option maxHeartbeats 4000000 in
theorem T_Wi_findNumbers_0 {G : Gc} {M : Mc} {Q : State → Prop} {ad0 : Ro → Nat} {K : (Ro → Nat) → Option Value → Rs → Prop} (hG : gok G) (hM : mok G M r_Wi_findNumbers Q (KV G [33] ad0 K)) (v2 : Int32) (ρ : Rs) (F : ∃ m2 : Nat, (iR ρ (1, 0, 0) 1) = nI m2 ∧ m2 ≤ 4096 ∧ (∀ ρ1 : Rs, ρ1 = rowR ρ (33, 8, 0) m2 → ((v2 = 1 → (∃ m30 : Nat, (iR ρ1 (1, 0, 0) 1) = nI m30 ∧ m30 ≤ 4096 ∧ (∀ ρ29 : Rs, ρ29 = rowR ρ1 (33, 3, 0) m30 → (semV G r_Wi_spreadBack [] (fun ad => [.ref (ad (6, 0, 0)), .ref (ad (1, 0, 0)), .int v2, .ref (ad (33, 3, 0))]) ρ29 (fun ad u36 ρ35 => ∃ x38 : Int32, u36 = some (.int x38) ∧ (∀ ad, K ad none ρ35)))))) ∧ (¬ v2 = 1 → ((v2 = 2 → (∃ m18 : Nat, (iR ρ1 (1, 0, 0) 1) = nI m18 ∧ m18 ≤ 4096 ∧ (∀ ρ17 : Rs, ρ17 = rowR ρ1 (33, 4, 0) m18 → (semV G r_Wi_spreadBack [] (fun ad => [.ref (ad (6, 0, 0)), .ref (ad (1, 0, 0)), .int v2, .ref (ad (33, 4, 0))]) ρ17 (fun ad u24 ρ23 => ∃ x26 : Int32, u24 = some (.int x26) ∧ (∀ ad, K ad none ρ23)))))) ∧ (¬ v2 = 2 → (∃ m8 : Nat, (iR ρ1 (1, 0, 0) 1) = nI m8 ∧ m8 ≤ 4096 ∧ (∀ ρ7 : Rs, ρ7 = rowR ρ1 (33, 5, 0) m8 → (semV G r_Wi_findLevels [33] (fun ad => [.ref (ad (6, 0, 0)), .ref (ad (1, 0, 0))]) ρ7 (fun ad u14 ρ13 => u14 = none ∧ (∀ ad, K ad none ρ13))))))))))) : Y G [33] ad0 M Q 0 (fun ad => [(0, .ref (ad (6, 0, 0))), (1, .ref (ad (1, 0, 0))), (2, .int v2)]) (fun ad => []) ρ := by
  intro ad h hSt V
  show X G M Q 0 [(0, .ref (ad (6, 0, 0))), (1, .ref (ad (1, 0, 0))), (2, .int v2)] [] h
  refine x_aload_n hM d_Wi_findNumbers_0 rfl 0 rfl ?_
  refine x_aload_n hM d_Wi_findNumbers_1 rfl 0 rfl ?_
  refine y_getr hG hM V ck_Wi 8 (Nat.le_of_ble_eq_true rfl) rfl rfl w_295 rfl d_Wi_findNumbers_2 (6, 0, 0) (33, 8, 0) rfl rfl rfl ?_
  refine x_aload_n hM d_Wi_findNumbers_5 rfl 1 rfl ?_
  refine y_geti hG hM V ck_Wo 1 (Nat.le_of_ble_eq_true rfl) rfl rfl w_128 rfl d_Wi_findNumbers_6 (1, 0, 0) rfl rfl ?_
  obtain ⟨m2, c3, c4, F⟩ := F
  obtain ⟨ρ1, eρ1⟩ : ∃ z : Rs, z = rowR ρ (33, 8, 0) m2 := ⟨_, rfl⟩
  replace F := F ρ1 eρ1
  refine y_row hG hM V rfl ⟨Nat.le_of_ble_eq_true rfl, Nat.le_of_ble_eq_true rfl⟩ w_658 w_586 d_Wi_findNumbers_9 d_Wi_findNumbers_12 ck_Wi (k := 8) (Nat.le_of_ble_eq_true rfl) (Or.inr ⟨_, rfl⟩) w_295 rfl rfl (Nat.le_of_ble_eq_true rfl) (6, 0, 0) (33, 8, 0) rfl rfl rfl (by decide) rfl rfl rfl c3 c4 (fun ad6 h hs5 V => ?_)
  rw [← eρ1] at V
  clear eρ1
  have ea0 : ad6 (6, 0, 0) = ad (6, 0, 0) := hs5 _ (Or.inr rfl)
  have ea1 : ad6 (1, 0, 0) = ad (1, 0, 0) := hs5 _ (Or.inr rfl)
  rw [← ea0, ← ea1]
  replace hSt := St_tr hSt (St_mono (mv' := [33]) (by decide) hs5)
  refine x_iload_n hM d_Wi_findNumbers_15 rfl 2 rfl ?_
  refine x_iconst (v := 1) hM d_Wi_findNumbers_16 (by decide) ?_
  refine x_icmp_ne (tgt := 49) hM d_Wi_findNumbers_17 (by decide) (fun q40 => ?_) (fun q40 => ?_)
  · replace F := F.2 q40
    refine x_iload_n hM d_Wi_findNumbers_49 rfl 2 rfl ?_
    refine x_iconst (v := 2) hM d_Wi_findNumbers_50 (by decide) ?_
    refine x_icmp_ne (tgt := 83) hM d_Wi_findNumbers_51 (by decide) (fun q28 => ?_) (fun q28 => ?_)
    · replace F := F.2 q28
      refine x_aload_n hM d_Wi_findNumbers_83 rfl 0 rfl ?_
      refine x_aload_n hM d_Wi_findNumbers_84 rfl 0 rfl ?_
      refine y_getr hG hM V ck_Wi 5 (Nat.le_of_ble_eq_true rfl) rfl rfl w_291 rfl d_Wi_findNumbers_85 (6, 0, 0) (33, 5, 0) rfl rfl rfl ?_
      refine x_aload_n hM d_Wi_findNumbers_88 rfl 1 rfl ?_
      refine y_geti hG hM V ck_Wo 1 (Nat.le_of_ble_eq_true rfl) rfl rfl w_128 rfl d_Wi_findNumbers_89 (1, 0, 0) rfl rfl ?_
      obtain ⟨m8, c9, c10, F⟩ := F
      obtain ⟨ρ7, eρ7⟩ : ∃ z : Rs, z = rowR ρ1 (33, 5, 0) m8 := ⟨_, rfl⟩
      replace F := F ρ7 eρ7
      refine y_row hG hM V rfl ⟨Nat.le_of_ble_eq_true rfl, Nat.le_of_ble_eq_true rfl⟩ w_658 w_586 d_Wi_findNumbers_92 d_Wi_findNumbers_95 ck_Wi (k := 5) (Nat.le_of_ble_eq_true rfl) (Or.inr ⟨_, rfl⟩) w_291 rfl rfl (Nat.le_of_ble_eq_true rfl) (6, 0, 0) (33, 5, 0) rfl rfl rfl (by decide) rfl rfl rfl c9 c10 (fun ad12 h hs11 V => ?_)
      rw [← eρ7] at V
      clear eρ7
      have ea0 : ad12 (6, 0, 0) = ad6 (6, 0, 0) := hs11 _ (Or.inr rfl)
      have ea1 : ad12 (1, 0, 0) = ad6 (1, 0, 0) := hs11 _ (Or.inr rfl)
      rw [← ea0, ← ea1]
      replace hSt := St_tr hSt (St_mono (mv' := [33]) (by decide) hs11)
      refine x_aload_n hM d_Wi_findNumbers_98 rfl 0 rfl ?_
      refine x_aload_n hM d_Wi_findNumbers_99 rfl 1 rfl ?_
      refine x_callV hG hM (r' := r_Wi_findLevels) (ci := 8) [.ref (ad12 (1, 0, 0))] rfl rfl (Nat.le_of_ble_eq_true rfl) yk_Wi_findLevels ⟨Nat.le_of_ble_eq_true rfl, Nat.le_of_ble_eq_true rfl⟩ w_678 w_680 ws_Wi_findLevels rfl rfl (Nat.le_of_ble_eq_true rfl) d_Wi_findNumbers_100 (by rw [vT V rfl]; rfl) (sem_mono (F _ _ V) ?_)
      intro u14 h F
      obtain ⟨ad16, ρ13, V, hs15, F⟩ := F
      obtain ⟨rfl, F⟩ := F
      have ea0 : ad16 (6, 0, 0) = ad12 (6, 0, 0) := hs15 _ (Or.inr rfl)
      have ea1 : ad16 (1, 0, 0) = ad12 (1, 0, 0) := hs15 _ (Or.inr rfl)
      rw [← ea0, ← ea1]
      replace hSt := St_tr hSt (St_mono (mv' := [33]) (by decide) hs15)
      exact x_return hM d_Wi_findNumbers_103 rfl (y_end V hSt (F _))
    · replace F := F.1 q28
      refine x_aload_n hM d_Wi_findNumbers_54 rfl 0 rfl ?_
      refine x_aload_n hM d_Wi_findNumbers_55 rfl 0 rfl ?_
      refine y_getr hG hM V ck_Wi 4 (Nat.le_of_ble_eq_true rfl) rfl rfl w_290 rfl d_Wi_findNumbers_56 (6, 0, 0) (33, 4, 0) rfl rfl rfl ?_
      refine x_aload_n hM d_Wi_findNumbers_59 rfl 1 rfl ?_
      refine y_geti hG hM V ck_Wo 1 (Nat.le_of_ble_eq_true rfl) rfl rfl w_128 rfl d_Wi_findNumbers_60 (1, 0, 0) rfl rfl ?_
      obtain ⟨m18, c19, c20, F⟩ := F
      obtain ⟨ρ17, eρ17⟩ : ∃ z : Rs, z = rowR ρ1 (33, 4, 0) m18 := ⟨_, rfl⟩
      replace F := F ρ17 eρ17
      refine y_row hG hM V rfl ⟨Nat.le_of_ble_eq_true rfl, Nat.le_of_ble_eq_true rfl⟩ w_658 w_586 d_Wi_findNumbers_63 d_Wi_findNumbers_66 ck_Wi (k := 4) (Nat.le_of_ble_eq_true rfl) (Or.inr ⟨_, rfl⟩) w_290 rfl rfl (Nat.le_of_ble_eq_true rfl) (6, 0, 0) (33, 4, 0) rfl rfl rfl (by decide) rfl rfl rfl c19 c20 (fun ad22 h hs21 V => ?_)
      rw [← eρ17] at V
      clear eρ17
      have ea0 : ad22 (6, 0, 0) = ad6 (6, 0, 0) := hs21 _ (Or.inr rfl)
      have ea1 : ad22 (1, 0, 0) = ad6 (1, 0, 0) := hs21 _ (Or.inr rfl)
      rw [← ea0, ← ea1]
      replace hSt := St_tr hSt (St_mono (mv' := [33]) (by decide) hs21)
      refine x_aload_n hM d_Wi_findNumbers_69 rfl 0 rfl ?_
      refine x_aload_n hM d_Wi_findNumbers_70 rfl 1 rfl ?_
      refine x_iload_n hM d_Wi_findNumbers_71 rfl 2 rfl ?_
      refine x_aload_n hM d_Wi_findNumbers_72 rfl 0 rfl ?_
      refine y_getr hG hM V ck_Wi 4 (Nat.le_of_ble_eq_true rfl) rfl rfl w_290 rfl d_Wi_findNumbers_73 (6, 0, 0) (33, 4, 0) rfl rfl rfl ?_
      refine x_callV hG hM (r' := r_Wi_spreadBack) (ci := 8) [.ref (ad22 (1, 0, 0)), .int v2, .ref (ad22 (33, 4, 0))] rfl rfl (Nat.le_of_ble_eq_true rfl) yk_Wi_spreadBack ⟨Nat.le_of_ble_eq_true rfl, Nat.le_of_ble_eq_true rfl⟩ w_659 w_661 ws_Wi_spreadBack rfl rfl (Nat.le_of_ble_eq_true rfl) d_Wi_findNumbers_76 (by rw [vT V rfl]; rfl) (sem_mono (F _ _ V) ?_)
      intro u24 h F
      obtain ⟨ad27, ρ23, V, hs25, F⟩ := F
      obtain ⟨x26, rfl, F⟩ := F
      have hs25 := (St_eq hs25).symm
      subst hs25
      refine x_pop hM d_Wi_findNumbers_79 rfl ?_
      refine x_goto (tgt := 103) hM d_Wi_findNumbers_80 (by decide) ?_
      exact x_return hM d_Wi_findNumbers_103 rfl (y_end V hSt (F _))
  · replace F := F.1 q40
    refine x_aload_n hM d_Wi_findNumbers_20 rfl 0 rfl ?_
    refine x_aload_n hM d_Wi_findNumbers_21 rfl 0 rfl ?_
    refine y_getr hG hM V ck_Wi 3 (Nat.le_of_ble_eq_true rfl) rfl rfl w_289 rfl d_Wi_findNumbers_22 (6, 0, 0) (33, 3, 0) rfl rfl rfl ?_
    refine x_aload_n hM d_Wi_findNumbers_25 rfl 1 rfl ?_
    refine y_geti hG hM V ck_Wo 1 (Nat.le_of_ble_eq_true rfl) rfl rfl w_128 rfl d_Wi_findNumbers_26 (1, 0, 0) rfl rfl ?_
    obtain ⟨m30, c31, c32, F⟩ := F
    obtain ⟨ρ29, eρ29⟩ : ∃ z : Rs, z = rowR ρ1 (33, 3, 0) m30 := ⟨_, rfl⟩
    replace F := F ρ29 eρ29
    refine y_row hG hM V rfl ⟨Nat.le_of_ble_eq_true rfl, Nat.le_of_ble_eq_true rfl⟩ w_658 w_586 d_Wi_findNumbers_29 d_Wi_findNumbers_32 ck_Wi (k := 3) (Nat.le_of_ble_eq_true rfl) (Or.inr ⟨_, rfl⟩) w_289 rfl rfl (Nat.le_of_ble_eq_true rfl) (6, 0, 0) (33, 3, 0) rfl rfl rfl (by decide) rfl rfl rfl c31 c32 (fun ad34 h hs33 V => ?_)
    rw [← eρ29] at V
    clear eρ29
    have ea0 : ad34 (6, 0, 0) = ad6 (6, 0, 0) := hs33 _ (Or.inr rfl)
    have ea1 : ad34 (1, 0, 0) = ad6 (1, 0, 0) := hs33 _ (Or.inr rfl)
    rw [← ea0, ← ea1]
    replace hSt := St_tr hSt (St_mono (mv' := [33]) (by decide) hs33)
    refine x_aload_n hM d_Wi_findNumbers_35 rfl 0 rfl ?_
    refine x_aload_n hM d_Wi_findNumbers_36 rfl 1 rfl ?_
    refine x_iload_n hM d_Wi_findNumbers_37 rfl 2 rfl ?_
    refine x_aload_n hM d_Wi_findNumbers_38 rfl 0 rfl ?_
    refine y_getr hG hM V ck_Wi 3 (Nat.le_of_ble_eq_true rfl) rfl rfl w_289 rfl d_Wi_findNumbers_39 (6, 0, 0) (33, 3, 0) rfl rfl rfl ?_
    refine x_callV hG hM (r' := r_Wi_spreadBack) (ci := 8) [.ref (ad34 (1, 0, 0)), .int v2, .ref (ad34 (33, 3, 0))] rfl rfl (Nat.le_of_ble_eq_true rfl) yk_Wi_spreadBack ⟨Nat.le_of_ble_eq_true rfl, Nat.le_of_ble_eq_true rfl⟩ w_659 w_661 ws_Wi_spreadBack rfl rfl (Nat.le_of_ble_eq_true rfl) d_Wi_findNumbers_42 (by rw [vT V rfl]; rfl) (sem_mono (F _ _ V) ?_)
    intro u36 h F
    obtain ⟨ad39, ρ35, V, hs37, F⟩ := F
    obtain ⟨x38, rfl, F⟩ := F
    have hs37 := (St_eq hs37).symm
    subst hs37
    refine x_pop hM d_Wi_findNumbers_45 rfl ?_
    refine x_goto (tgt := 103) hM d_Wi_findNumbers_46 (by decide) ?_
    exact x_return hM d_Wi_findNumbers_103 rfl (y_end V hSt (F _))
set_option maxRecDepth 100000 in
set_option maxHeartbeats 4000000 in
theorem T_Wi_spreadBack_0 {G : Gc} {M : Mc} {Q : State → Prop} {ad0 : Ro → Nat} {K : (Ro → Nat) → Option Value → Rs → Prop} (hG : gok G) (hM : mok G M r_Wi_spreadBack Q (KV G [] ad0 K)) (v2 : Int32) (g3 : Ro) (og3 : okR g3 = true) (tg3 : tgR g3 = 50) (ρ : Rs) (F : Y G [] ad0 M Q 6 (fun ad => [(0, .ref (ad (6, 0, 0))), (1, .ref (ad (1, 0, 0))), (2, .int v2), (3, .ref (ad g3)), (4, .int 0), (5, .int 0)]) (fun ad => []) ρ) : Y G [] ad0 M Q 0 (fun ad => [(0, .ref (ad (6, 0, 0))), (1, .ref (ad (1, 0, 0))), (2, .int v2), (3, .ref (ad g3))]) (fun ad => []) ρ := by
  intro ad h hSt V
  show X G M Q 0 [(0, .ref (ad (6, 0, 0))), (1, .ref (ad (1, 0, 0))), (2, .int v2), (3, .ref (ad g3))] [] h
  refine x_iconst (v := 0) hM d_Wi_spreadBack_0 (by decide) ?_
  refine x_istore (lv2 := [(4, .int 0), (0, .ref (ad (6, 0, 0))), (1, .ref (ad (1, 0, 0))), (2, .int v2), (3, .ref (ad g3))]) hM d_Wi_spreadBack_1 (Nat.le_of_ble_eq_true rfl) rfl ?_
  refine x_iconst (v := 0) hM d_Wi_spreadBack_3 (by decide) ?_
  refine x_istore (lv2 := [(5, .int 0), (4, .int 0), (0, .ref (ad (6, 0, 0))), (1, .ref (ad (1, 0, 0))), (2, .int v2), (3, .ref (ad g3))]) hM d_Wi_spreadBack_4 (Nat.le_of_ble_eq_true rfl) rfl ?_
  refine x_sub [2, 3, 4, 5, 1, 0] rfl ?_
  exact F _ _ hSt V
set_option maxRecDepth 100000 in
set_option maxHeartbeats 4000000 in
theorem T_Wi_spreadBack_6 {G : Gc} {M : Mc} {Q : State → Prop} {ad0 : Ro → Nat} {K : (Ro → Nat) → Option Value → Rs → Prop} (hG : gok G) (hM : mok G M r_Wi_spreadBack Q (KV G [] ad0 K)) (v2 : Int32) (g3 : Ro) (og3 : okR g3 = true) (tg3 : tgR g3 = 50) (v4 : Int32) (v5 : Int32) (ρ : Rs) (F : ((iR ρ (1, 0, 0) 1) ≤ v5 → (Y G [] ad0 M Q 65 (fun ad => [(0, .ref (ad (6, 0, 0))), (1, .ref (ad (1, 0, 0))), (2, .int v2), (3, .ref (ad g3)), (4, .int v4), (5, .int 0)]) (fun ad => []) ρ)) ∧ (¬ (iR ρ (1, 0, 0) 1) ≤ v5 → (vp_in v5 (nR ρ (33, 0, 0)) ∧ (∀ z3 : Int32, z3 = (if (iR ρ (33, 0, 0) (Int32.toNatClampNeg v5)) = 0 then (-1) else 0) → (vp_in v5 (nR ρ g3) ∧ (∀ ρ4 : Rs, ρ4 = pI ρ g3 (Int32.toNatClampNeg v5) z3 → (vp_in v5 (nR ρ4 (33, 0, 0)) ∧ (((iR ρ4 (33, 0, 0) (Int32.toNatClampNeg v5)) = 0 → (Y G [] ad0 M Q 6 (fun ad => [(0, .ref (ad (6, 0, 0))), (1, .ref (ad (1, 0, 0))), (2, .int v2), (3, .ref (ad g3)), (4, .int v4), (5, .int (v5 + 1))]) (fun ad => []) ρ4)) ∧ (¬ (iR ρ4 (33, 0, 0) (Int32.toNatClampNeg v5)) = 0 → (vp_in v4 (nR ρ4 (33, 8, 0)) ∧ (∀ ρ6 : Rs, ρ6 = pI ρ4 (33, 8, 0) (Int32.toNatClampNeg v4) v5 → (Y G [] ad0 M Q 6 (fun ad => [(0, .ref (ad (6, 0, 0))), (1, .ref (ad (1, 0, 0))), (2, .int v2), (3, .ref (ad g3)), (4, .int (v4 + 1)), (5, .int (v5 + 1))]) (fun ad => []) ρ6)))))))))))) : Y G [] ad0 M Q 6 (fun ad => [(0, .ref (ad (6, 0, 0))), (1, .ref (ad (1, 0, 0))), (2, .int v2), (3, .ref (ad g3)), (4, .int v4), (5, .int v5)]) (fun ad => []) ρ := by
  intro ad h hSt V
  show X G M Q 6 [(0, .ref (ad (6, 0, 0))), (1, .ref (ad (1, 0, 0))), (2, .int v2), (3, .ref (ad g3)), (4, .int v4), (5, .int v5)] [] h
  refine x_iload hM d_Wi_spreadBack_6 5 rfl ?_
  refine x_aload_n hM d_Wi_spreadBack_8 rfl 1 rfl ?_
  refine y_geti hG hM V ck_Wo 1 (Nat.le_of_ble_eq_true rfl) rfl rfl w_128 rfl d_Wi_spreadBack_9 (1, 0, 0) rfl rfl ?_
  refine x_icmp_ge (tgt := 62) hM d_Wi_spreadBack_12 (by decide) (fun q11 => ?_) (fun q11 => ?_)
  · replace F := F.1 q11
    refine x_iconst (v := 0) hM d_Wi_spreadBack_62 (by decide) ?_
    refine x_istore (lv2 := [(5, .int 0), (0, .ref (ad (6, 0, 0))), (1, .ref (ad (1, 0, 0))), (2, .int v2), (3, .ref (ad g3)), (4, .int v4)]) hM d_Wi_spreadBack_63 (Nat.le_of_ble_eq_true rfl) rfl ?_
    refine x_sub [1, 2, 3, 4, 5, 0] rfl ?_
    exact F _ _ hSt V
  · replace F := F.2 q11
    refine x_aload_n hM d_Wi_spreadBack_15 rfl 3 rfl ?_
    refine x_iload hM d_Wi_spreadBack_16 5 rfl ?_
    refine x_aload_n hM d_Wi_spreadBack_18 rfl 0 rfl ?_
    refine y_getr hG hM V ck_Wi 0 (Nat.le_of_ble_eq_true rfl) rfl rfl w_283 rfl d_Wi_spreadBack_19 (6, 0, 0) (33, 0, 0) rfl rfl rfl ?_
    refine x_iload hM d_Wi_spreadBack_22 5 rfl ?_
    obtain ⟨c2, F⟩ := F
    refine y_zaload hG hM V d_Wi_spreadBack_24 (33, 0, 0) rfl rfl c2 ?_
    have JJ : ∀ (z3 : Int32) (ez3 : z3 = (if (iR ρ (33, 0, 0) (Int32.toNatClampNeg v5)) = 0 then (-1) else 0)), X G M Q 33 [(0, .ref (ad (6, 0, 0))), (1, .ref (ad (1, 0, 0))), (2, .int v2), (3, .ref (ad g3)), (4, .int v4), (5, .int v5)] [.int z3, .int v5, .ref (ad g3)] h := by
      intro z3 ez3
      replace F := F _ ez3
      obtain ⟨c9, F⟩ := F
      obtain ⟨ρ4, eρ4⟩ : ∃ z : Rs, z = pI ρ g3 (Int32.toNatClampNeg v5) z3 := ⟨_, rfl⟩
      replace F := F ρ4 eρ4
      refine y_iastore hG hM V d_Wi_spreadBack_33 g3 og3 tg3 c9 (fun h V => ?_)
      rw [← eρ4] at V
      clear eρ4
      refine x_aload_n hM d_Wi_spreadBack_34 rfl 0 rfl ?_
      refine y_getr hG hM V ck_Wi 0 (Nat.le_of_ble_eq_true rfl) rfl rfl w_283 rfl d_Wi_spreadBack_35 (6, 0, 0) (33, 0, 0) rfl rfl rfl ?_
      refine x_iload hM d_Wi_spreadBack_38 5 rfl ?_
      obtain ⟨c5, F⟩ := F
      refine y_zaload hG hM V d_Wi_spreadBack_40 (33, 0, 0) rfl rfl c5 ?_
      refine x_if_eq (tgt := 56) hM d_Wi_spreadBack_41 (by decide) (fun q8 => ?_) (fun q8 => ?_)
      · replace F := F.1 q8
        refine x_iinc (v := (v5 + 1)) (lv2 := [(5, .int (v5 + 1)), (0, .ref (ad (6, 0, 0))), (1, .ref (ad (1, 0, 0))), (2, .int v2), (3, .ref (ad g3)), (4, .int v4)]) hM d_Wi_spreadBack_56 (j := 5) rfl rfl (Nat.le_of_ble_eq_true rfl) rfl ?_
        refine x_goto (tgt := 6) hM d_Wi_spreadBack_59 (by decide) ?_
        refine x_sub [1, 2, 3, 4, 5, 0] rfl ?_
        exact F _ _ hSt V
      · replace F := F.2 q8
        refine x_aload_n hM d_Wi_spreadBack_44 rfl 0 rfl ?_
        refine y_getr hG hM V ck_Wi 8 (Nat.le_of_ble_eq_true rfl) rfl rfl w_295 rfl d_Wi_spreadBack_45 (6, 0, 0) (33, 8, 0) rfl rfl rfl ?_
        refine x_iload hM d_Wi_spreadBack_48 4 rfl ?_
        refine x_iload hM d_Wi_spreadBack_50 5 rfl ?_
        obtain ⟨c7, F⟩ := F
        obtain ⟨ρ6, eρ6⟩ : ∃ z : Rs, z = pI ρ4 (33, 8, 0) (Int32.toNatClampNeg v4) v5 := ⟨_, rfl⟩
        replace F := F ρ6 eρ6
        refine y_iastore hG hM V d_Wi_spreadBack_52 (33, 8, 0) rfl rfl c7 (fun h V => ?_)
        rw [← eρ6] at V
        clear eρ6
        refine x_iinc (v := (v4 + 1)) (lv2 := [(4, .int (v4 + 1)), (0, .ref (ad (6, 0, 0))), (1, .ref (ad (1, 0, 0))), (2, .int v2), (3, .ref (ad g3)), (5, .int v5)]) hM d_Wi_spreadBack_53 (j := 4) rfl rfl (Nat.le_of_ble_eq_true rfl) rfl ?_
        refine x_iinc (v := (v5 + 1)) (lv2 := [(5, .int (v5 + 1)), (4, .int (v4 + 1)), (0, .ref (ad (6, 0, 0))), (1, .ref (ad (1, 0, 0))), (2, .int v2), (3, .ref (ad g3))]) hM d_Wi_spreadBack_56 (j := 5) rfl rfl (Nat.le_of_ble_eq_true rfl) rfl ?_
        refine x_goto (tgt := 6) hM d_Wi_spreadBack_59 (by decide) ?_
        refine x_sub [2, 3, 4, 5, 1, 0] rfl ?_
        exact F _ _ hSt V
    refine x_if_eq (tgt := 32) hM d_Wi_spreadBack_25 (by decide) (fun q10 => ?_) (fun q10 => ?_)
    · refine x_iconst (v := (-1)) hM d_Wi_spreadBack_32 (by decide) ?_
      exact JJ _ (Eq.symm (if_pos q10))
    · refine x_iconst (v := 0) hM d_Wi_spreadBack_28 (by decide) ?_
      refine x_goto (tgt := 33) hM d_Wi_spreadBack_29 (by decide) ?_
      exact JJ _ (Eq.symm (if_neg q10))
set_option maxRecDepth 100000 in
set_option maxHeartbeats 4000000 in
theorem T_Wi_spreadBack_65 {G : Gc} {M : Mc} {Q : State → Prop} {ad0 : Ro → Nat} {K : (Ro → Nat) → Option Value → Rs → Prop} (hG : gok G) (hM : mok G M r_Wi_spreadBack Q (KV G [] ad0 K)) (v2 : Int32) (g3 : Ro) (og3 : okR g3 = true) (tg3 : tgR g3 = 50) (v4 : Int32) (v5 : Int32) (ρ : Rs) (F : (v4 ≤ v5 → (∀ ad, K ad (some (.int v4)) ρ)) ∧ (¬ v4 ≤ v5 → (((iR ρ (1, 0, 0) 1) ≤ v5 → (∀ ad, K ad (some (.int v4)) ρ)) ∧ (¬ (iR ρ (1, 0, 0) 1) ≤ v5 → (vp_in v5 (nR ρ (33, 8, 0)) ∧ (vp_in (iR ρ (33, 8, 0) (Int32.toNatClampNeg v5)) (nR ρ (30, 7, 0)) ∧ (Y G [] ad0 M Q 102 (fun ad => [(0, .ref (ad (6, 0, 0))), (1, .ref (ad (1, 0, 0))), (2, .int v2), (3, .ref (ad g3)), (4, .int v4), (5, .int v5), (6, .int (iR ρ (33, 8, 0) (Int32.toNatClampNeg v5))), (7, .int (iR ρ (30, 7, 0) (Int32.toNatClampNeg (iR ρ (33, 8, 0) (Int32.toNatClampNeg v5))))), (8, .int 0)]) (fun ad => []) ρ))))))) : Y G [] ad0 M Q 65 (fun ad => [(0, .ref (ad (6, 0, 0))), (1, .ref (ad (1, 0, 0))), (2, .int v2), (3, .ref (ad g3)), (4, .int v4), (5, .int v5)]) (fun ad => []) ρ := by
  intro ad h hSt V
  show X G M Q 65 [(0, .ref (ad (6, 0, 0))), (1, .ref (ad (1, 0, 0))), (2, .int v2), (3, .ref (ad g3)), (4, .int v4), (5, .int v5)] [] h
  refine x_iload hM d_Wi_spreadBack_65 5 rfl ?_
  refine x_iload hM d_Wi_spreadBack_67 4 rfl ?_
  refine x_icmp_ge (tgt := 187) hM d_Wi_spreadBack_69 (by decide) (fun q8 => ?_) (fun q8 => ?_)
  · replace F := F.1 q8
    refine x_iload hM d_Wi_spreadBack_187 4 rfl ?_
    exact x_ireturn hM d_Wi_spreadBack_189 rfl (y_end V hSt (F _))
  · replace F := F.2 q8
    refine x_iload hM d_Wi_spreadBack_72 5 rfl ?_
    refine x_aload_n hM d_Wi_spreadBack_74 rfl 1 rfl ?_
    refine y_geti hG hM V ck_Wo 1 (Nat.le_of_ble_eq_true rfl) rfl rfl w_128 rfl d_Wi_spreadBack_75 (1, 0, 0) rfl rfl ?_
    refine x_icmp_ge (tgt := 187) hM d_Wi_spreadBack_78 (by decide) (fun q7 => ?_) (fun q7 => ?_)
    · replace F := F.1 q7
      refine x_iload hM d_Wi_spreadBack_187 4 rfl ?_
      exact x_ireturn hM d_Wi_spreadBack_189 rfl (y_end V hSt (F _))
    · replace F := F.2 q7
      refine x_aload_n hM d_Wi_spreadBack_81 rfl 0 rfl ?_
      refine y_getr hG hM V ck_Wi 8 (Nat.le_of_ble_eq_true rfl) rfl rfl w_295 rfl d_Wi_spreadBack_82 (6, 0, 0) (33, 8, 0) rfl rfl rfl ?_
      refine x_iload hM d_Wi_spreadBack_85 5 rfl ?_
      obtain ⟨c5, F⟩ := F
      refine y_iaload hG hM V d_Wi_spreadBack_87 (33, 8, 0) rfl rfl c5 ?_
      refine x_istore (lv2 := [(6, .int (iR ρ (33, 8, 0) (Int32.toNatClampNeg v5))), (0, .ref (ad (6, 0, 0))), (1, .ref (ad (1, 0, 0))), (2, .int v2), (3, .ref (ad g3)), (4, .int v4), (5, .int v5)]) hM d_Wi_spreadBack_88 (Nat.le_of_ble_eq_true rfl) rfl ?_
      refine x_aload_n hM d_Wi_spreadBack_90 rfl 2 rfl ?_
      refine y_getr hG hM V ck_Wo 7 (Nat.le_of_ble_eq_true rfl) rfl rfl w_157 rfl d_Wi_spreadBack_91 (1, 0, 0) (30, 7, 0) rfl rfl rfl ?_
      refine x_iload hM d_Wi_spreadBack_94 0 rfl ?_
      obtain ⟨c6, F⟩ := F
      refine y_iaload hG hM V d_Wi_spreadBack_96 (30, 7, 0) rfl rfl c6 ?_
      refine x_istore (lv2 := [(7, .int (iR ρ (30, 7, 0) (Int32.toNatClampNeg (iR ρ (33, 8, 0) (Int32.toNatClampNeg v5))))), (6, .int (iR ρ (33, 8, 0) (Int32.toNatClampNeg v5))), (0, .ref (ad (6, 0, 0))), (1, .ref (ad (1, 0, 0))), (2, .int v2), (3, .ref (ad g3)), (4, .int v4), (5, .int v5)]) hM d_Wi_spreadBack_97 (Nat.le_of_ble_eq_true rfl) rfl ?_
      refine x_iconst (v := 0) hM d_Wi_spreadBack_99 (by decide) ?_
      refine x_istore (lv2 := [(8, .int 0), (7, .int (iR ρ (30, 7, 0) (Int32.toNatClampNeg (iR ρ (33, 8, 0) (Int32.toNatClampNeg v5))))), (6, .int (iR ρ (33, 8, 0) (Int32.toNatClampNeg v5))), (0, .ref (ad (6, 0, 0))), (1, .ref (ad (1, 0, 0))), (2, .int v2), (3, .ref (ad g3)), (4, .int v4), (5, .int v5)]) hM d_Wi_spreadBack_100 (Nat.le_of_ble_eq_true rfl) rfl ?_
      refine x_sub [3, 4, 5, 6, 7, 8, 2, 1, 0] rfl ?_
      exact F _ _ hSt V
set_option maxRecDepth 100000 in
set_option maxHeartbeats 4000000 in
theorem T_Wi_spreadBack_102 {G : Gc} {M : Mc} {Q : State → Prop} {ad0 : Ro → Nat} {K : (Ro → Nat) → Option Value → Rs → Prop} (hG : gok G) (hM : mok G M r_Wi_spreadBack Q (KV G [] ad0 K)) (v2 : Int32) (g3 : Ro) (og3 : okR g3 = true) (tg3 : tgR g3 = 50) (v4 : Int32) (v5 : Int32) (v6 : Int32) (v7 : Int32) (v8 : Int32) (ρ : Rs) (F : (147456 ≤ v8 → (Y G [] ad0 M Q 65 (fun ad => [(0, .ref (ad (6, 0, 0))), (1, .ref (ad (1, 0, 0))), (2, .int v2), (3, .ref (ad g3)), (4, .int v4), (5, .int (v5 + 1))]) (fun ad => []) ρ)) ∧ (¬ 147456 ≤ v8 → ((v7 = (-1) → (Y G [] ad0 M Q 65 (fun ad => [(0, .ref (ad (6, 0, 0))), (1, .ref (ad (1, 0, 0))), (2, .int v2), (3, .ref (ad g3)), (4, .int v4), (5, .int (v5 + 1))]) (fun ad => []) ρ)) ∧ (¬ v7 = (-1) → (semV G r_WP_stateOf [] (fun ad => [.int v7]) ρ (fun ad u2 ρ1 => ∃ x4 : Int32, u2 = some (.int x4) ∧ (vp_in x4 (nR ρ1 g3) ∧ (((iR ρ1 g3 (Int32.toNatClampNeg x4)) = (-1) → (vp_in v6 (nR ρ1 g3) ∧ (semV G r_Wi_mayCome [] (fun ad => [.ref (ad (6, 0, 0)), .ref (ad (1, 0, 0)), .int v7, .int v2, .int (iR ρ1 g3 (Int32.toNatClampNeg v6))]) ρ1 (fun ad u14 ρ13 => ∃ x16 : Int32, u14 = some (.int x16) ∧ ((x16 = 0 → (semV G r_Wo_nextInto [] (fun ad => [.ref (ad (1, 0, 0)), .int v7]) ρ13 (fun ad u19 ρ18 => ∃ x21 : Int32, u19 = some (.int x21) ∧ (Y G [] ad0 M Q 102 (fun ad => [(0, .ref (ad (6, 0, 0))), (1, .ref (ad (1, 0, 0))), (2, .int v2), (3, .ref (ad g3)), (4, .int v4), (5, .int v5), (6, .int v6), (7, .int x21), (8, .int (v8 + 1))]) (fun ad => []) ρ18)))) ∧ (¬ x16 = 0 → (vp_in v6 (nR ρ13 g3) ∧ (vp_in x4 (nR ρ13 g3) ∧ (∀ ρ24 : Rs, ρ24 = pI ρ13 g3 (Int32.toNatClampNeg x4) ((iR ρ13 g3 (Int32.toNatClampNeg v6)) + 1) → (vp_in v4 (nR ρ24 (33, 8, 0)) ∧ (∀ ρ25 : Rs, ρ25 = pI ρ24 (33, 8, 0) (Int32.toNatClampNeg v4) x4 → (semV G r_Wo_nextInto [] (fun ad => [.ref (ad (1, 0, 0)), .int v7]) ρ25 (fun ad u27 ρ26 => ∃ x29 : Int32, u27 = some (.int x29) ∧ (Y G [] ad0 M Q 102 (fun ad => [(0, .ref (ad (6, 0, 0))), (1, .ref (ad (1, 0, 0))), (2, .int v2), (3, .ref (ad g3)), (4, .int (v4 + 1)), (5, .int v5), (6, .int v6), (7, .int x29), (8, .int (v8 + 1))]) (fun ad => []) ρ26)))))))))))))) ∧ (¬ (iR ρ1 g3 (Int32.toNatClampNeg x4)) = (-1) → (semV G r_Wo_nextInto [] (fun ad => [.ref (ad (1, 0, 0)), .int v7]) ρ1 (fun ad u8 ρ7 => ∃ x10 : Int32, u8 = some (.int x10) ∧ (Y G [] ad0 M Q 102 (fun ad => [(0, .ref (ad (6, 0, 0))), (1, .ref (ad (1, 0, 0))), (2, .int v2), (3, .ref (ad g3)), (4, .int v4), (5, .int v5), (6, .int v6), (7, .int x10), (8, .int (v8 + 1))]) (fun ad => []) ρ7)))))))))))) : Y G [] ad0 M Q 102 (fun ad => [(0, .ref (ad (6, 0, 0))), (1, .ref (ad (1, 0, 0))), (2, .int v2), (3, .ref (ad g3)), (4, .int v4), (5, .int v5), (6, .int v6), (7, .int v7), (8, .int v8)]) (fun ad => []) ρ := by
  intro ad h hSt V
  show X G M Q 102 [(0, .ref (ad (6, 0, 0))), (1, .ref (ad (1, 0, 0))), (2, .int v2), (3, .ref (ad g3)), (4, .int v4), (5, .int v5), (6, .int v6), (7, .int v7), (8, .int v8)] [] h
  refine x_iload hM d_Wi_spreadBack_102 8 rfl ?_
  refine x_ldc hG hM rfl w_663 d_Wi_spreadBack_104 ?_
  refine x_icmp_ge (tgt := 181) hM d_Wi_spreadBack_106 (by decide) (fun q38 => ?_) (fun q38 => ?_)
  · replace F := F.1 q38
    refine x_iinc (v := (v5 + 1)) (lv2 := [(5, .int (v5 + 1)), (0, .ref (ad (6, 0, 0))), (1, .ref (ad (1, 0, 0))), (2, .int v2), (3, .ref (ad g3)), (4, .int v4), (6, .int v6), (7, .int v7), (8, .int v8)]) hM d_Wi_spreadBack_181 (j := 5) rfl rfl (Nat.le_of_ble_eq_true rfl) rfl ?_
    refine x_goto (tgt := 65) hM d_Wi_spreadBack_184 (by decide) ?_
    refine x_sub [1, 2, 3, 4, 5, 0] rfl ?_
    exact F _ _ hSt V
  · replace F := F.2 q38
    refine x_iload hM d_Wi_spreadBack_109 7 rfl ?_
    refine x_iconst (v := (-1)) hM d_Wi_spreadBack_111 (by decide) ?_
    refine x_icmp_eq (tgt := 181) hM d_Wi_spreadBack_112 (by decide) (fun q37 => ?_) (fun q37 => ?_)
    · replace F := F.1 q37
      refine x_iinc (v := (v5 + 1)) (lv2 := [(5, .int (v5 + 1)), (0, .ref (ad (6, 0, 0))), (1, .ref (ad (1, 0, 0))), (2, .int v2), (3, .ref (ad g3)), (4, .int v4), (6, .int v6), (7, .int v7), (8, .int v8)]) hM d_Wi_spreadBack_181 (j := 5) rfl rfl (Nat.le_of_ble_eq_true rfl) rfl ?_
      refine x_goto (tgt := 65) hM d_Wi_spreadBack_184 (by decide) ?_
      refine x_sub [1, 2, 3, 4, 5, 0] rfl ?_
      exact F _ _ hSt V
    · replace F := F.2 q37
      refine x_iload hM d_Wi_spreadBack_115 7 rfl ?_
      refine x_callSN hG hM (r' := r_WP_stateOf) [.int v7] rfl yk_WP_stateOf ⟨Nat.le_of_ble_eq_true rfl, Nat.le_of_ble_eq_true rfl⟩ w_664 w_665 rfl rfl (Nat.le_of_ble_eq_true rfl) d_Wi_spreadBack_117 (sem_mono (F _ _ V) ?_)
      intro u2 h F
      obtain ⟨ad36, ρ1, V, hs3, F⟩ := F
      obtain ⟨x4, rfl, F⟩ := F
      have hs3 := (St_eq hs3).symm
      subst hs3
      refine x_istore (lv2 := [(9, .int x4), (0, .ref (ad (6, 0, 0))), (1, .ref (ad (1, 0, 0))), (2, .int v2), (3, .ref (ad g3)), (4, .int v4), (5, .int v5), (6, .int v6), (7, .int v7), (8, .int v8)]) hM d_Wi_spreadBack_120 (Nat.le_of_ble_eq_true rfl) rfl ?_
      refine x_aload_n hM d_Wi_spreadBack_122 rfl 4 rfl ?_
      refine x_iload hM d_Wi_spreadBack_123 0 rfl ?_
      obtain ⟨c5, F⟩ := F
      refine y_iaload hG hM V d_Wi_spreadBack_125 g3 og3 tg3 c5 ?_
      refine x_iconst (v := (-1)) hM d_Wi_spreadBack_126 (by decide) ?_
      refine x_icmp_ne (tgt := 167) hM d_Wi_spreadBack_127 (by decide) (fun q35 => ?_) (fun q35 => ?_)
      · replace F := F.2 q35
        refine x_aload_n hM d_Wi_spreadBack_167 rfl 2 rfl ?_
        refine x_iload hM d_Wi_spreadBack_168 8 rfl ?_
        refine x_callV hG hM (r' := r_Wo_nextInto) (ci := 1) [.int v7] rfl rfl (Nat.le_of_ble_eq_true rfl) yk_Wo_nextInto ⟨Nat.le_of_ble_eq_true rfl, Nat.le_of_ble_eq_true rfl⟩ w_674 w_675 w_676 rfl rfl (Nat.le_of_ble_eq_true rfl) d_Wi_spreadBack_170 (by rw [vT V rfl]; rfl) (sem_mono (F _ _ V) ?_)
        intro u8 h F
        obtain ⟨ad11, ρ7, V, hs9, F⟩ := F
        obtain ⟨x10, rfl, F⟩ := F
        have hs9 := (St_eq hs9).symm
        subst hs9
        refine x_istore (lv2 := [(7, .int x10), (9, .int x4), (0, .ref (ad (6, 0, 0))), (1, .ref (ad (1, 0, 0))), (2, .int v2), (3, .ref (ad g3)), (4, .int v4), (5, .int v5), (6, .int v6), (8, .int v8)]) hM d_Wi_spreadBack_173 (Nat.le_of_ble_eq_true rfl) rfl ?_
        refine x_iinc (v := (v8 + 1)) (lv2 := [(8, .int (v8 + 1)), (7, .int x10), (9, .int x4), (0, .ref (ad (6, 0, 0))), (1, .ref (ad (1, 0, 0))), (2, .int v2), (3, .ref (ad g3)), (4, .int v4), (5, .int v5), (6, .int v6)]) hM d_Wi_spreadBack_175 (j := 9) rfl rfl (Nat.le_of_ble_eq_true rfl) rfl ?_
        refine x_goto (tgt := 102) hM d_Wi_spreadBack_178 (by decide) ?_
        refine x_sub [3, 4, 5, 6, 7, 8, 9, 1, 0] rfl ?_
        exact F _ _ hSt V
      · replace F := F.1 q35
        refine x_aload_n hM d_Wi_spreadBack_130 rfl 1 rfl ?_
        refine x_aload_n hM d_Wi_spreadBack_131 rfl 2 rfl ?_
        refine x_iload hM d_Wi_spreadBack_132 8 rfl ?_
        refine x_iload_n hM d_Wi_spreadBack_134 rfl 3 rfl ?_
        refine x_aload_n hM d_Wi_spreadBack_135 rfl 4 rfl ?_
        refine x_iload hM d_Wi_spreadBack_136 7 rfl ?_
        obtain ⟨c12, F⟩ := F
        refine y_iaload hG hM V d_Wi_spreadBack_138 g3 og3 tg3 c12 ?_
        refine x_callV hG hM (r' := r_Wi_mayCome) (ci := 8) [.ref (ad (1, 0, 0)), .int v7, .int v2, .int (iR ρ1 g3 (Int32.toNatClampNeg v6))] rfl rfl (Nat.le_of_ble_eq_true rfl) yk_Wi_mayCome ⟨Nat.le_of_ble_eq_true rfl, Nat.le_of_ble_eq_true rfl⟩ w_667 w_669 ws_Wi_mayCome rfl rfl (Nat.le_of_ble_eq_true rfl) d_Wi_spreadBack_139 (by rw [vT V rfl]; rfl) (sem_mono (F _ _ V) ?_)
        intro u14 h F
        obtain ⟨ad34, ρ13, V, hs15, F⟩ := F
        obtain ⟨x16, rfl, F⟩ := F
        have hs15 := (St_eq hs15).symm
        subst hs15
        refine x_if_eq (tgt := 167) hM d_Wi_spreadBack_142 (by decide) (fun q33 => ?_) (fun q33 => ?_)
        · replace F := F.1 q33
          refine x_aload_n hM d_Wi_spreadBack_167 rfl 2 rfl ?_
          refine x_iload hM d_Wi_spreadBack_168 8 rfl ?_
          refine x_callV hG hM (r' := r_Wo_nextInto) (ci := 1) [.int v7] rfl rfl (Nat.le_of_ble_eq_true rfl) yk_Wo_nextInto ⟨Nat.le_of_ble_eq_true rfl, Nat.le_of_ble_eq_true rfl⟩ w_674 w_675 w_676 rfl rfl (Nat.le_of_ble_eq_true rfl) d_Wi_spreadBack_170 (by rw [vT V rfl]; rfl) (sem_mono (F _ _ V) ?_)
          intro u19 h F
          obtain ⟨ad22, ρ18, V, hs20, F⟩ := F
          obtain ⟨x21, rfl, F⟩ := F
          have hs20 := (St_eq hs20).symm
          subst hs20
          refine x_istore (lv2 := [(7, .int x21), (9, .int x4), (0, .ref (ad (6, 0, 0))), (1, .ref (ad (1, 0, 0))), (2, .int v2), (3, .ref (ad g3)), (4, .int v4), (5, .int v5), (6, .int v6), (8, .int v8)]) hM d_Wi_spreadBack_173 (Nat.le_of_ble_eq_true rfl) rfl ?_
          refine x_iinc (v := (v8 + 1)) (lv2 := [(8, .int (v8 + 1)), (7, .int x21), (9, .int x4), (0, .ref (ad (6, 0, 0))), (1, .ref (ad (1, 0, 0))), (2, .int v2), (3, .ref (ad g3)), (4, .int v4), (5, .int v5), (6, .int v6)]) hM d_Wi_spreadBack_175 (j := 9) rfl rfl (Nat.le_of_ble_eq_true rfl) rfl ?_
          refine x_goto (tgt := 102) hM d_Wi_spreadBack_178 (by decide) ?_
          refine x_sub [3, 4, 5, 6, 7, 8, 9, 1, 0] rfl ?_
          exact F _ _ hSt V
        · replace F := F.2 q33
          refine x_aload_n hM d_Wi_spreadBack_145 rfl 4 rfl ?_
          refine x_iload hM d_Wi_spreadBack_146 0 rfl ?_
          refine x_aload_n hM d_Wi_spreadBack_148 rfl 4 rfl ?_
          refine x_iload hM d_Wi_spreadBack_149 7 rfl ?_
          obtain ⟨c23, F⟩ := F
          refine y_iaload hG hM V d_Wi_spreadBack_151 g3 og3 tg3 c23 ?_
          refine x_iconst (v := 1) hM d_Wi_spreadBack_152 (by decide) ?_
          refine x_iadd hM d_Wi_spreadBack_153 ?_
          obtain ⟨c32, F⟩ := F
          obtain ⟨ρ24, eρ24⟩ : ∃ z : Rs, z = pI ρ13 g3 (Int32.toNatClampNeg x4) ((iR ρ13 g3 (Int32.toNatClampNeg v6)) + 1) := ⟨_, rfl⟩
          replace F := F ρ24 eρ24
          refine y_iastore hG hM V d_Wi_spreadBack_154 g3 og3 tg3 c32 (fun h V => ?_)
          rw [← eρ24] at V
          clear eρ24
          refine x_aload_n hM d_Wi_spreadBack_155 rfl 1 rfl ?_
          refine y_getr hG hM V ck_Wi 8 (Nat.le_of_ble_eq_true rfl) rfl rfl w_295 rfl d_Wi_spreadBack_156 (6, 0, 0) (33, 8, 0) rfl rfl rfl ?_
          refine x_iload hM d_Wi_spreadBack_159 5 rfl ?_
          refine x_iload hM d_Wi_spreadBack_161 0 rfl ?_
          obtain ⟨c31, F⟩ := F
          obtain ⟨ρ25, eρ25⟩ : ∃ z : Rs, z = pI ρ24 (33, 8, 0) (Int32.toNatClampNeg v4) x4 := ⟨_, rfl⟩
          replace F := F ρ25 eρ25
          refine y_iastore hG hM V d_Wi_spreadBack_163 (33, 8, 0) rfl rfl c31 (fun h V => ?_)
          rw [← eρ25] at V
          clear eρ25
          refine x_iinc (v := (v4 + 1)) (lv2 := [(4, .int (v4 + 1)), (9, .int x4), (0, .ref (ad (6, 0, 0))), (1, .ref (ad (1, 0, 0))), (2, .int v2), (3, .ref (ad g3)), (5, .int v5), (6, .int v6), (7, .int v7), (8, .int v8)]) hM d_Wi_spreadBack_164 (j := 5) rfl rfl (Nat.le_of_ble_eq_true rfl) rfl ?_
          refine x_aload_n hM d_Wi_spreadBack_167 rfl 3 rfl ?_
          refine x_iload hM d_Wi_spreadBack_168 8 rfl ?_
          refine x_callV hG hM (r' := r_Wo_nextInto) (ci := 1) [.int v7] rfl rfl (Nat.le_of_ble_eq_true rfl) yk_Wo_nextInto ⟨Nat.le_of_ble_eq_true rfl, Nat.le_of_ble_eq_true rfl⟩ w_674 w_675 w_676 rfl rfl (Nat.le_of_ble_eq_true rfl) d_Wi_spreadBack_170 (by rw [vT V rfl]; rfl) (sem_mono (F _ _ V) ?_)
          intro u27 h F
          obtain ⟨ad30, ρ26, V, hs28, F⟩ := F
          obtain ⟨x29, rfl, F⟩ := F
          have hs28 := (St_eq hs28).symm
          subst hs28
          refine x_istore (lv2 := [(7, .int x29), (4, .int (v4 + 1)), (9, .int x4), (0, .ref (ad (6, 0, 0))), (1, .ref (ad (1, 0, 0))), (2, .int v2), (3, .ref (ad g3)), (5, .int v5), (6, .int v6), (8, .int v8)]) hM d_Wi_spreadBack_173 (Nat.le_of_ble_eq_true rfl) rfl ?_
          refine x_iinc (v := (v8 + 1)) (lv2 := [(8, .int (v8 + 1)), (7, .int x29), (4, .int (v4 + 1)), (9, .int x4), (0, .ref (ad (6, 0, 0))), (1, .ref (ad (1, 0, 0))), (2, .int v2), (3, .ref (ad g3)), (5, .int v5), (6, .int v6)]) hM d_Wi_spreadBack_175 (j := 9) rfl rfl (Nat.le_of_ble_eq_true rfl) rfl ?_
          refine x_goto (tgt := 102) hM d_Wi_spreadBack_178 (by decide) ?_
          refine x_sub [4, 5, 6, 7, 2, 8, 9, 1, 0] rfl ?_
          exact F _ _ hSt V
set_option maxRecDepth 100000 in
set_option maxHeartbeats 4000000 in
theorem T_Wi_mayCome_0 {G : Gc} {M : Mc} {Q : State → Prop} {ad0 : Ro → Nat} {K : (Ro → Nat) → Option Value → Rs → Prop} (hG : gok G) (hM : mok G M r_Wi_mayCome Q (KV G [] ad0 K)) (v2 : Int32) (v3 : Int32) (v4 : Int32) (ρ : Rs) (F : (v3 = 1 → (∀ ad, K ad (some (.int 1)) ρ)) ∧ (¬ v3 = 1 → (semV G r_WP_actOf [] (fun ad => [.int v2]) ρ (fun ad u2 ρ1 => ∃ x4 : Int32, u2 = some (.int x4) ∧ (vp_in x4 12 ∧ (semV G r_WP_stateOf [] (fun ad => [.int v2]) ρ1 (fun ad u7 ρ6 => ∃ x9 : Int32, u7 = some (.int x9) ∧ (Y G [] ad0 M Q 27 (fun ad => [(0, .ref (ad (6, 0, 0))), (3, .int v3), (4, .int v4), (5, .ref (ad (20, (Int32.toNatClampNeg x4), 0))), (6, .int x9), (7, .int 0)]) (fun ad => []) ρ6)))))))) : Y G [] ad0 M Q 0 (fun ad => [(0, .ref (ad (6, 0, 0))), (1, .ref (ad (1, 0, 0))), (2, .int v2), (3, .int v3), (4, .int v4)]) (fun ad => []) ρ := by
  intro ad h hSt V
  show X G M Q 0 [(0, .ref (ad (6, 0, 0))), (1, .ref (ad (1, 0, 0))), (2, .int v2), (3, .int v3), (4, .int v4)] [] h
  refine x_iload_n hM d_Wi_mayCome_0 rfl 3 rfl ?_
  refine x_iconst (v := 1) hM d_Wi_mayCome_1 (by decide) ?_
  refine x_icmp_ne (tgt := 7) hM d_Wi_mayCome_2 (by decide) (fun q12 => ?_) (fun q12 => ?_)
  · replace F := F.2 q12
    refine x_aload_n hM d_Wi_mayCome_7 rfl 1 rfl ?_
    refine y_getr hG hM V ck_Wo 5 (Nat.le_of_ble_eq_true rfl) rfl rfl w_148 rfl d_Wi_mayCome_8 (1, 0, 0) (30, 5, 0) rfl rfl rfl ?_
    refine x_iload_n hM d_Wi_mayCome_11 rfl 2 rfl ?_
    refine x_callSN hG hM (r' := r_WP_actOf) [.int v2] rfl yk_WP_actOf ⟨Nat.le_of_ble_eq_true rfl, Nat.le_of_ble_eq_true rfl⟩ w_671 w_672 rfl rfl (Nat.le_of_ble_eq_true rfl) d_Wi_mayCome_12 (sem_mono (F _ _ V) ?_)
    intro u2 h F
    obtain ⟨ad11, ρ1, V, hs3, F⟩ := F
    obtain ⟨x4, rfl, F⟩ := F
    have hs3 := (St_eq hs3).symm
    subst hs3
    obtain ⟨c5, F⟩ := F
    refine y_acts hG hM V d_Wi_mayCome_15 c5 ?_
    refine x_astore (lv2 := [(5, .ref (ad (20, (Int32.toNatClampNeg x4), 0))), (0, .ref (ad (6, 0, 0))), (1, .ref (ad (1, 0, 0))), (2, .int v2), (3, .int v3), (4, .int v4)]) hM d_Wi_mayCome_16 (Nat.le_of_ble_eq_true rfl) rfl ?_
    refine x_iload_n hM d_Wi_mayCome_18 rfl 3 rfl ?_
    refine x_callSN hG hM (r' := r_WP_stateOf) [.int v2] rfl yk_WP_stateOf ⟨Nat.le_of_ble_eq_true rfl, Nat.le_of_ble_eq_true rfl⟩ w_664 w_665 rfl rfl (Nat.le_of_ble_eq_true rfl) d_Wi_mayCome_19 (sem_mono (F _ _ V) ?_)
    intro u7 h F
    obtain ⟨ad10, ρ6, V, hs8, F⟩ := F
    obtain ⟨x9, rfl, F⟩ := F
    have hs8 := (St_eq hs8).symm
    subst hs8
    refine x_istore (lv2 := [(6, .int x9), (5, .ref (ad (20, (Int32.toNatClampNeg x4), 0))), (0, .ref (ad (6, 0, 0))), (1, .ref (ad (1, 0, 0))), (2, .int v2), (3, .int v3), (4, .int v4)]) hM d_Wi_mayCome_22 (Nat.le_of_ble_eq_true rfl) rfl ?_
    refine x_iconst (v := 0) hM d_Wi_mayCome_24 (by decide) ?_
    refine x_istore (lv2 := [(7, .int 0), (6, .int x9), (5, .ref (ad (20, (Int32.toNatClampNeg x4), 0))), (0, .ref (ad (6, 0, 0))), (1, .ref (ad (1, 0, 0))), (2, .int v2), (3, .int v3), (4, .int v4)]) hM d_Wi_mayCome_25 (Nat.le_of_ble_eq_true rfl) rfl ?_
    refine x_sub [3, 6, 7, 2, 1, 0] rfl ?_
    exact F _ _ hSt V
  · replace F := F.1 q12
    refine x_iconst (v := 1) hM d_Wi_mayCome_5 (by decide) ?_
    exact x_zreturn hM d_Wi_mayCome_6 rfl (Or.inr rfl) (y_end V hSt (F _))
set_option maxRecDepth 100000 in
set_option maxHeartbeats 4000000 in
theorem T_Wi_mayCome_27 {G : Gc} {M : Mc} {Q : State → Prop} {ad0 : Ro → Nat} {K : (Ro → Nat) → Option Value → Rs → Prop} (hG : gok G) (hM : mok G M r_Wi_mayCome Q (KV G [] ad0 K)) (v3 : Int32) (v4 : Int32) (a5 : Nat) (ha5 : a5 < 12) (v6 : Int32) (v7 : Int32) (ρ : Rs) (F : ((iR ρ (20, a5, 0) 2) ≤ v7 → (∀ ad, K ad (some (.int 1)) ρ)) ∧ (¬ (iR ρ (20, a5, 0) 2) ≤ v7 → (vp_in v7 3 ∧ (vp_in v6 (nR ρ (23, a5, (Int32.toNatClampNeg v7))) ∧ ((v3 = 2 → (vp_in (iR ρ (23, a5, (Int32.toNatClampNeg v7)) (Int32.toNatClampNeg v6)) (nR ρ (33, 4, 0)) ∧ (((iR ρ (33, 4, 0) (Int32.toNatClampNeg (iR ρ (23, a5, (Int32.toNatClampNeg v7)) (Int32.toNatClampNeg v6)))) = (-1) → (∀ ad, K ad (some (.int 0)) ρ)) ∧ (¬ (iR ρ (33, 4, 0) (Int32.toNatClampNeg (iR ρ (23, a5, (Int32.toNatClampNeg v7)) (Int32.toNatClampNeg v6)))) = (-1) → (vp_in (iR ρ (23, a5, (Int32.toNatClampNeg v7)) (Int32.toNatClampNeg v6)) (nR ρ (33, 4, 0)) ∧ (((iR ρ (33, 4, 0) (Int32.toNatClampNeg (iR ρ (23, a5, (Int32.toNatClampNeg v7)) (Int32.toNatClampNeg v6)))) ≤ v4 → (Y G [] ad0 M Q 27 (fun ad => [(0, .ref (ad (6, 0, 0))), (3, .int v3), (4, .int v4), (5, .ref (ad (20, a5, 0))), (6, .int v6), (7, .int (v7 + 1))]) (fun ad => []) ρ)) ∧ (¬ (iR ρ (33, 4, 0) (Int32.toNatClampNeg (iR ρ (23, a5, (Int32.toNatClampNeg v7)) (Int32.toNatClampNeg v6)))) ≤ v4 → (∀ ad, K ad (some (.int 0)) ρ)))))))) ∧ (¬ v3 = 2 → (vp_in (iR ρ (23, a5, (Int32.toNatClampNeg v7)) (Int32.toNatClampNeg v6)) (nR ρ (33, 7, 0)) ∧ (((iR ρ (33, 7, 0) (Int32.toNatClampNeg (iR ρ (23, a5, (Int32.toNatClampNeg v7)) (Int32.toNatClampNeg v6)))) = 0 → (∀ ad, K ad (some (.int 0)) ρ)) ∧ (¬ (iR ρ (33, 7, 0) (Int32.toNatClampNeg (iR ρ (23, a5, (Int32.toNatClampNeg v7)) (Int32.toNatClampNeg v6)))) = 0 → (Y G [] ad0 M Q 27 (fun ad => [(0, .ref (ad (6, 0, 0))), (3, .int v3), (4, .int v4), (5, .ref (ad (20, a5, 0))), (6, .int v6), (7, .int (v7 + 1))]) (fun ad => []) ρ)))))))))) : Y G [] ad0 M Q 27 (fun ad => [(0, .ref (ad (6, 0, 0))), (3, .int v3), (4, .int v4), (5, .ref (ad (20, a5, 0))), (6, .int v6), (7, .int v7)]) (fun ad => []) ρ := by
  intro ad h hSt V
  show X G M Q 27 [(0, .ref (ad (6, 0, 0))), (3, .int v3), (4, .int v4), (5, .ref (ad (20, a5, 0))), (6, .int v6), (7, .int v7)] [] h
  refine x_iload hM d_Wi_mayCome_27 5 rfl ?_
  refine x_aload hM d_Wi_mayCome_29 3 rfl ?_
  refine y_geti hG hM V ck_Ac 2 (Nat.le_of_ble_eq_true rfl) rfl rfl w_108 rfl d_Wi_mayCome_31 (20, a5, 0) (ok_ac ha5) rfl ?_
  refine x_icmp_ge (tgt := 102) hM d_Wi_mayCome_34 (by decide) (fun q10 => ?_) (fun q10 => ?_)
  · replace F := F.1 q10
    refine x_iconst (v := 1) hM d_Wi_mayCome_102 (by decide) ?_
    exact x_zreturn hM d_Wi_mayCome_103 rfl (Or.inr rfl) (y_end V hSt (F _))
  · replace F := F.2 q10
    refine x_aload hM d_Wi_mayCome_37 3 rfl ?_
    refine y_getr hG hM V ck_Ac 1 (Nat.le_of_ble_eq_true rfl) rfl rfl w_100 rfl d_Wi_mayCome_39 (20, a5, 0) (21, a5, 0) (ok_ac ha5) rfl rfl ?_
    refine x_iload hM d_Wi_mayCome_42 5 rfl ?_
    obtain ⟨c1, F⟩ := F
    refine y_outs hG hM V d_Wi_mayCome_44 ha5 c1 ?_
    refine y_getr hG hM V ck_Ou 1 (Nat.le_of_ble_eq_true rfl) rfl rfl w_81 rfl d_Wi_mayCome_45 (22, a5, (Int32.toNatClampNeg v7)) (23, a5, (Int32.toNatClampNeg v7)) (ok_ou ha5 (vp_lt c1)) rfl rfl ?_
    refine x_iload hM d_Wi_mayCome_48 4 rfl ?_
    obtain ⟨c2, F⟩ := F
    refine y_iaload hG hM V d_Wi_mayCome_50 (23, a5, (Int32.toNatClampNeg v7)) (ok_to ha5 (vp_lt c1)) rfl c2 ?_
    refine x_istore (lv2 := [(8, .int (iR ρ (23, a5, (Int32.toNatClampNeg v7)) (Int32.toNatClampNeg v6))), (0, .ref (ad (6, 0, 0))), (3, .int v3), (4, .int v4), (5, .ref (ad (20, a5, 0))), (6, .int v6), (7, .int v7)]) hM d_Wi_mayCome_51 (Nat.le_of_ble_eq_true rfl) rfl ?_
    refine x_iload_n hM d_Wi_mayCome_53 rfl 2 rfl ?_
    refine x_iconst (v := 2) hM d_Wi_mayCome_54 (by decide) ?_
    refine x_icmp_ne (tgt := 84) hM d_Wi_mayCome_55 (by decide) (fun q9 => ?_) (fun q9 => ?_)
    · replace F := F.2 q9
      refine x_aload_n hM d_Wi_mayCome_84 rfl 1 rfl ?_
      refine y_getr hG hM V ck_Wi 7 (Nat.le_of_ble_eq_true rfl) rfl rfl w_294 rfl d_Wi_mayCome_85 (6, 0, 0) (33, 7, 0) rfl rfl rfl ?_
      refine x_iload hM d_Wi_mayCome_88 0 rfl ?_
      obtain ⟨c3, F⟩ := F
      refine y_zaload hG hM V d_Wi_mayCome_90 (33, 7, 0) rfl rfl c3 ?_
      refine x_if_ne (tgt := 96) hM d_Wi_mayCome_91 (by decide) (fun q4 => ?_) (fun q4 => ?_)
      · replace F := F.2 q4
        refine x_iinc (v := (v7 + 1)) (lv2 := [(7, .int (v7 + 1)), (8, .int (iR ρ (23, a5, (Int32.toNatClampNeg v7)) (Int32.toNatClampNeg v6))), (0, .ref (ad (6, 0, 0))), (3, .int v3), (4, .int v4), (5, .ref (ad (20, a5, 0))), (6, .int v6)]) hM d_Wi_mayCome_96 (j := 6) rfl rfl (Nat.le_of_ble_eq_true rfl) rfl ?_
        refine x_goto (tgt := 27) hM d_Wi_mayCome_99 (by decide) ?_
        refine x_sub [2, 3, 4, 5, 6, 0] rfl ?_
        exact F _ _ hSt V
      · replace F := F.1 q4
        refine x_iconst (v := 0) hM d_Wi_mayCome_94 (by decide) ?_
        exact x_zreturn hM d_Wi_mayCome_95 rfl (Or.inl rfl) (y_end V hSt (F _))
    · replace F := F.1 q9
      refine x_aload_n hM d_Wi_mayCome_58 rfl 1 rfl ?_
      refine y_getr hG hM V ck_Wi 4 (Nat.le_of_ble_eq_true rfl) rfl rfl w_290 rfl d_Wi_mayCome_59 (6, 0, 0) (33, 4, 0) rfl rfl rfl ?_
      refine x_iload hM d_Wi_mayCome_62 0 rfl ?_
      obtain ⟨c5, F⟩ := F
      refine y_iaload hG hM V d_Wi_mayCome_64 (33, 4, 0) rfl rfl c5 ?_
      refine x_iconst (v := (-1)) hM d_Wi_mayCome_65 (by decide) ?_
      refine x_icmp_eq (tgt := 94) hM d_Wi_mayCome_66 (by decide) (fun q8 => ?_) (fun q8 => ?_)
      · replace F := F.1 q8
        refine x_iconst (v := 0) hM d_Wi_mayCome_94 (by decide) ?_
        exact x_zreturn hM d_Wi_mayCome_95 rfl (Or.inl rfl) (y_end V hSt (F _))
      · replace F := F.2 q8
        refine x_aload_n hM d_Wi_mayCome_69 rfl 1 rfl ?_
        refine y_getr hG hM V ck_Wi 4 (Nat.le_of_ble_eq_true rfl) rfl rfl w_290 rfl d_Wi_mayCome_70 (6, 0, 0) (33, 4, 0) rfl rfl rfl ?_
        refine x_iload hM d_Wi_mayCome_73 0 rfl ?_
        obtain ⟨c6, F⟩ := F
        refine y_iaload hG hM V d_Wi_mayCome_75 (33, 4, 0) rfl rfl c6 ?_
        refine x_iload hM d_Wi_mayCome_76 3 rfl ?_
        refine x_icmp_le (tgt := 96) hM d_Wi_mayCome_78 (by decide) (fun q7 => ?_) (fun q7 => ?_)
        · replace F := F.1 q7
          refine x_iinc (v := (v7 + 1)) (lv2 := [(7, .int (v7 + 1)), (8, .int (iR ρ (23, a5, (Int32.toNatClampNeg v7)) (Int32.toNatClampNeg v6))), (0, .ref (ad (6, 0, 0))), (3, .int v3), (4, .int v4), (5, .ref (ad (20, a5, 0))), (6, .int v6)]) hM d_Wi_mayCome_96 (j := 6) rfl rfl (Nat.le_of_ble_eq_true rfl) rfl ?_
          refine x_goto (tgt := 27) hM d_Wi_mayCome_99 (by decide) ?_
          refine x_sub [2, 3, 4, 5, 6, 0] rfl ?_
          exact F _ _ hSt V
        · replace F := F.2 q7
          refine x_goto (tgt := 94) hM d_Wi_mayCome_81 (by decide) ?_
          refine x_iconst (v := 0) hM d_Wi_mayCome_94 (by decide) ?_
          exact x_zreturn hM d_Wi_mayCome_95 rfl (Or.inl rfl) (y_end V hSt (F _))
set_option maxRecDepth 100000 in
set_option maxHeartbeats 4000000 in
theorem T_Wi_findLevels_0 {G : Gc} {M : Mc} {Q : State → Prop} {ad0 : Ro → Nat} {K : (Ro → Nat) → Option Value → Rs → Prop} (hG : gok G) (hM : mok G M r_Wi_findLevels Q (KV G [33] ad0 K))  (ρ : Rs) (F : ∃ m2 : Nat, (iR ρ (1, 0, 0) 1) = nI m2 ∧ m2 ≤ 4096 ∧ (∀ ρ1 : Rs, ρ1 = rowR ρ (33, 7, 0) m2 → (Y G [33] ad0 M Q 17 (fun ad => [(0, .ref (ad (6, 0, 0))), (1, .ref (ad (1, 0, 0))), (2, .int 0)]) (fun ad => []) ρ1))) : Y G [33] ad0 M Q 0 (fun ad => [(0, .ref (ad (6, 0, 0))), (1, .ref (ad (1, 0, 0)))]) (fun ad => []) ρ := by
  intro ad h hSt V
  show X G M Q 0 [(0, .ref (ad (6, 0, 0))), (1, .ref (ad (1, 0, 0)))] [] h
  refine x_aload_n hM d_Wi_findLevels_0 rfl 0 rfl ?_
  refine x_aload_n hM d_Wi_findLevels_1 rfl 0 rfl ?_
  refine y_getr hG hM V ck_Wi 7 (Nat.le_of_ble_eq_true rfl) rfl rfl w_294 rfl d_Wi_findLevels_2 (6, 0, 0) (33, 7, 0) rfl rfl rfl ?_
  refine x_aload_n hM d_Wi_findLevels_5 rfl 1 rfl ?_
  refine y_geti hG hM V ck_Wo 1 (Nat.le_of_ble_eq_true rfl) rfl rfl w_128 rfl d_Wi_findLevels_6 (1, 0, 0) rfl rfl ?_
  obtain ⟨m2, c3, c4, F⟩ := F
  obtain ⟨ρ1, eρ1⟩ : ∃ z : Rs, z = rowR ρ (33, 7, 0) m2 := ⟨_, rfl⟩
  replace F := F ρ1 eρ1
  refine y_mark hG hM V rfl ⟨Nat.le_of_ble_eq_true rfl, Nat.le_of_ble_eq_true rfl⟩ w_646 w_647 d_Wi_findLevels_9 d_Wi_findLevels_12 ck_Wi (k := 7) (Nat.le_of_ble_eq_true rfl) (Or.inr ⟨_, rfl⟩) w_294 rfl rfl (Nat.le_of_ble_eq_true rfl) (6, 0, 0) (33, 7, 0) rfl rfl rfl (by decide) rfl rfl rfl c3 c4 (fun ad6 h hs5 V => ?_)
  rw [← eρ1] at V
  clear eρ1
  have ea0 : ad6 (6, 0, 0) = ad (6, 0, 0) := hs5 _ (Or.inr rfl)
  have ea1 : ad6 (1, 0, 0) = ad (1, 0, 0) := hs5 _ (Or.inr rfl)
  rw [← ea0, ← ea1]
  replace hSt := St_tr hSt (St_mono (mv' := [33]) (by decide) hs5)
  refine x_iconst (v := 0) hM d_Wi_findLevels_15 (by decide) ?_
  refine x_istore_n (lv2 := [(2, .int 0), (0, .ref (ad6 (6, 0, 0))), (1, .ref (ad6 (1, 0, 0)))]) hM d_Wi_findLevels_16 rfl (Nat.le_of_ble_eq_true rfl) rfl ?_
  refine x_sub [1, 2, 0] rfl ?_
  exact F _ _ hSt V
set_option maxRecDepth 100000 in
set_option maxHeartbeats 4000000 in
theorem T_Wi_findLevels_17 {G : Gc} {M : Mc} {Q : State → Prop} {ad0 : Ro → Nat} {K : (Ro → Nat) → Option Value → Rs → Prop} (hG : gok G) (hM : mok G M r_Wi_findLevels Q (KV G [33] ad0 K)) (v2 : Int32) (ρ : Rs) (F : ((iR ρ (1, 0, 0) 1) ≤ v2 → (Y G [33] ad0 M Q 45 (fun ad => [(0, .ref (ad (6, 0, 0))), (1, .ref (ad (1, 0, 0))), (2, .int (iR ρ (1, 0, 0) 1)), (3, .int 0)]) (fun ad => []) ρ)) ∧ (¬ (iR ρ (1, 0, 0) 1) ≤ v2 → (vp_in v2 (nR ρ (33, 7, 0)) ∧ (∀ ρ1 : Rs, ρ1 = pI ρ (33, 7, 0) (Int32.toNatClampNeg v2) 1 → (Y G [33] ad0 M Q 17 (fun ad => [(0, .ref (ad (6, 0, 0))), (1, .ref (ad (1, 0, 0))), (2, .int (v2 + 1))]) (fun ad => []) ρ1))))) : Y G [33] ad0 M Q 17 (fun ad => [(0, .ref (ad (6, 0, 0))), (1, .ref (ad (1, 0, 0))), (2, .int v2)]) (fun ad => []) ρ := by
  intro ad h hSt V
  show X G M Q 17 [(0, .ref (ad (6, 0, 0))), (1, .ref (ad (1, 0, 0))), (2, .int v2)] [] h
  refine x_iload_n hM d_Wi_findLevels_17 rfl 2 rfl ?_
  refine x_aload_n hM d_Wi_findLevels_18 rfl 1 rfl ?_
  refine y_geti hG hM V ck_Wo 1 (Nat.le_of_ble_eq_true rfl) rfl rfl w_128 rfl d_Wi_findLevels_19 (1, 0, 0) rfl rfl ?_
  refine x_icmp_ge (tgt := 38) hM d_Wi_findLevels_22 (by decide) (fun q3 => ?_) (fun q3 => ?_)
  · replace F := F.1 q3
    refine x_aload_n hM d_Wi_findLevels_38 rfl 1 rfl ?_
    refine y_geti hG hM V ck_Wo 1 (Nat.le_of_ble_eq_true rfl) rfl rfl w_128 rfl d_Wi_findLevels_39 (1, 0, 0) rfl rfl ?_
    refine x_istore_n (lv2 := [(2, .int (iR ρ (1, 0, 0) 1)), (0, .ref (ad (6, 0, 0))), (1, .ref (ad (1, 0, 0)))]) hM d_Wi_findLevels_42 rfl (Nat.le_of_ble_eq_true rfl) rfl ?_
    refine x_iconst (v := 0) hM d_Wi_findLevels_43 (by decide) ?_
    refine x_istore_n (lv2 := [(3, .int 0), (2, .int (iR ρ (1, 0, 0) 1)), (0, .ref (ad (6, 0, 0))), (1, .ref (ad (1, 0, 0)))]) hM d_Wi_findLevels_44 rfl (Nat.le_of_ble_eq_true rfl) rfl ?_
    refine x_sub [2, 3, 1, 0] rfl ?_
    exact F _ _ hSt V
  · replace F := F.2 q3
    refine x_aload_n hM d_Wi_findLevels_25 rfl 0 rfl ?_
    refine y_getr hG hM V ck_Wi 7 (Nat.le_of_ble_eq_true rfl) rfl rfl w_294 rfl d_Wi_findLevels_26 (6, 0, 0) (33, 7, 0) rfl rfl rfl ?_
    refine x_iload_n hM d_Wi_findLevels_29 rfl 2 rfl ?_
    refine x_iconst (v := 1) hM d_Wi_findLevels_30 (by decide) ?_
    obtain ⟨c2, F⟩ := F
    obtain ⟨ρ1, eρ1⟩ : ∃ z : Rs, z = pI ρ (33, 7, 0) (Int32.toNatClampNeg v2) 1 := ⟨_, rfl⟩
    replace F := F ρ1 eρ1
    refine y_zastore hG hM V d_Wi_findLevels_31 (33, 7, 0) rfl rfl c2 (Or.inr rfl) (fun h V => ?_)
    rw [← eρ1] at V
    clear eρ1
    refine x_iinc (v := (v2 + 1)) (lv2 := [(2, .int (v2 + 1)), (0, .ref (ad (6, 0, 0))), (1, .ref (ad (1, 0, 0)))]) hM d_Wi_findLevels_32 (j := 2) rfl rfl (Nat.le_of_ble_eq_true rfl) rfl ?_
    refine x_goto (tgt := 17) hM d_Wi_findLevels_35 (by decide) ?_
    refine x_sub [1, 2, 0] rfl ?_
    exact F _ _ hSt V
set_option maxRecDepth 100000 in
set_option maxHeartbeats 4000000 in
theorem T_Wi_findLevels_45 {G : Gc} {M : Mc} {Q : State → Prop} {ad0 : Ro → Nat} {K : (Ro → Nat) → Option Value → Rs → Prop} (hG : gok G) (hM : mok G M r_Wi_findLevels Q (KV G [33] ad0 K)) (v2 : Int32) (v3 : Int32) (ρ : Rs) (F : ((iR ρ (1, 0, 0) 1) < v3 → (∀ ad, K ad none ρ)) ∧ (¬ (iR ρ (1, 0, 0) 1) < v3 → (semV G r_Wi_spreadBack [] (fun ad => [.ref (ad (6, 0, 0)), .ref (ad (1, 0, 0)), .int 3, .ref (ad (33, 5, 0))]) ρ (fun ad u2 ρ1 => ∃ x4 : Int32, u2 = some (.int x4) ∧ ((x4 = v2 → (∀ ad, K ad none ρ1)) ∧ (¬ x4 = v2 → (Y G [33] ad0 M Q 78 (fun ad => [(0, .ref (ad (6, 0, 0))), (1, .ref (ad (1, 0, 0))), (2, .int x4), (3, .int v3), (5, .int 0)]) (fun ad => []) ρ1))))))) : Y G [33] ad0 M Q 45 (fun ad => [(0, .ref (ad (6, 0, 0))), (1, .ref (ad (1, 0, 0))), (2, .int v2), (3, .int v3)]) (fun ad => []) ρ := by
  intro ad h hSt V
  show X G M Q 45 [(0, .ref (ad (6, 0, 0))), (1, .ref (ad (1, 0, 0))), (2, .int v2), (3, .int v3)] [] h
  refine x_iload_n hM d_Wi_findLevels_45 rfl 3 rfl ?_
  refine x_aload_n hM d_Wi_findLevels_46 rfl 1 rfl ?_
  refine y_geti hG hM V ck_Wo 1 (Nat.le_of_ble_eq_true rfl) rfl rfl w_128 rfl d_Wi_findLevels_47 (1, 0, 0) rfl rfl ?_
  refine x_icmp_gt (tgt := 122) hM d_Wi_findLevels_50 (by decide) (fun q7 => ?_) (fun q7 => ?_)
  · replace F := F.1 q7
    exact x_return hM d_Wi_findLevels_122 rfl (y_end V hSt (F _))
  · replace F := F.2 q7
    refine x_aload_n hM d_Wi_findLevels_53 rfl 0 rfl ?_
    refine x_aload_n hM d_Wi_findLevels_54 rfl 1 rfl ?_
    refine x_iconst (v := 3) hM d_Wi_findLevels_55 (by decide) ?_
    refine x_aload_n hM d_Wi_findLevels_56 rfl 0 rfl ?_
    refine y_getr hG hM V ck_Wi 5 (Nat.le_of_ble_eq_true rfl) rfl rfl w_291 rfl d_Wi_findLevels_57 (6, 0, 0) (33, 5, 0) rfl rfl rfl ?_
    refine x_callV hG hM (r' := r_Wi_spreadBack) (ci := 8) [.ref (ad (1, 0, 0)), .int 3, .ref (ad (33, 5, 0))] rfl rfl (Nat.le_of_ble_eq_true rfl) yk_Wi_spreadBack ⟨Nat.le_of_ble_eq_true rfl, Nat.le_of_ble_eq_true rfl⟩ w_659 w_661 ws_Wi_spreadBack rfl rfl (Nat.le_of_ble_eq_true rfl) d_Wi_findLevels_60 (by rw [vT V rfl]; rfl) (sem_mono (F _ _ V) ?_)
    intro u2 h F
    obtain ⟨ad6, ρ1, V, hs3, F⟩ := F
    obtain ⟨x4, rfl, F⟩ := F
    have hs3 := (St_eq hs3).symm
    subst hs3
    refine x_istore (lv2 := [(4, .int x4), (0, .ref (ad (6, 0, 0))), (1, .ref (ad (1, 0, 0))), (2, .int v2), (3, .int v3)]) hM d_Wi_findLevels_63 (Nat.le_of_ble_eq_true rfl) rfl ?_
    refine x_iload hM d_Wi_findLevels_65 0 rfl ?_
    refine x_iload_n hM d_Wi_findLevels_67 rfl 3 rfl ?_
    refine x_icmp_ne (tgt := 72) hM d_Wi_findLevels_68 (by decide) (fun q5 => ?_) (fun q5 => ?_)
    · replace F := F.2 q5
      refine x_iload hM d_Wi_findLevels_72 0 rfl ?_
      refine x_istore_n (lv2 := [(2, .int x4), (4, .int x4), (0, .ref (ad (6, 0, 0))), (1, .ref (ad (1, 0, 0))), (3, .int v3)]) hM d_Wi_findLevels_74 rfl (Nat.le_of_ble_eq_true rfl) rfl ?_
      refine x_iconst (v := 0) hM d_Wi_findLevels_75 (by decide) ?_
      refine x_istore (lv2 := [(5, .int 0), (2, .int x4), (4, .int x4), (0, .ref (ad (6, 0, 0))), (1, .ref (ad (1, 0, 0))), (3, .int v3)]) hM d_Wi_findLevels_76 (Nat.le_of_ble_eq_true rfl) rfl ?_
      refine x_sub [3, 4, 1, 5, 0] rfl ?_
      exact F _ _ hSt V
    · replace F := F.1 q5
      exact x_return hM d_Wi_findLevels_71 rfl (y_end V hSt (F _))
set_option maxRecDepth 100000 in
set_option maxHeartbeats 4000000 in
theorem T_Wi_findLevels_78 {G : Gc} {M : Mc} {Q : State → Prop} {ad0 : Ro → Nat} {K : (Ro → Nat) → Option Value → Rs → Prop} (hG : gok G) (hM : mok G M r_Wi_findLevels Q (KV G [33] ad0 K)) (v2 : Int32) (v3 : Int32) (v5 : Int32) (ρ : Rs) (F : ((iR ρ (1, 0, 0) 1) ≤ v5 → (Y G [33] ad0 M Q 45 (fun ad => [(0, .ref (ad (6, 0, 0))), (1, .ref (ad (1, 0, 0))), (2, .int v2), (3, .int (v3 + 1))]) (fun ad => []) ρ)) ∧ (¬ (iR ρ (1, 0, 0) 1) ≤ v5 → (vp_in v5 (nR ρ (33, 5, 0)) ∧ (∀ z3 : Int32, z3 = (if (iR ρ (33, 5, 0) (Int32.toNatClampNeg v5)) = (-1) then 0 else 1) → (vp_in v5 (nR ρ (33, 7, 0)) ∧ nb z3 ∧ (∀ ρ4 : Rs, ρ4 = pI ρ (33, 7, 0) (Int32.toNatClampNeg v5) z3 → (Y G [33] ad0 M Q 78 (fun ad => [(0, .ref (ad (6, 0, 0))), (1, .ref (ad (1, 0, 0))), (2, .int v2), (3, .int v3), (5, .int (v5 + 1))]) (fun ad => []) ρ4))))))) : Y G [33] ad0 M Q 78 (fun ad => [(0, .ref (ad (6, 0, 0))), (1, .ref (ad (1, 0, 0))), (2, .int v2), (3, .int v3), (5, .int v5)]) (fun ad => []) ρ := by
  intro ad h hSt V
  show X G M Q 78 [(0, .ref (ad (6, 0, 0))), (1, .ref (ad (1, 0, 0))), (2, .int v2), (3, .int v3), (5, .int v5)] [] h
  refine x_iload hM d_Wi_findLevels_78 4 rfl ?_
  refine x_aload_n hM d_Wi_findLevels_80 rfl 1 rfl ?_
  refine y_geti hG hM V ck_Wo 1 (Nat.le_of_ble_eq_true rfl) rfl rfl w_128 rfl d_Wi_findLevels_81 (1, 0, 0) rfl rfl ?_
  refine x_icmp_ge (tgt := 116) hM d_Wi_findLevels_84 (by decide) (fun q8 => ?_) (fun q8 => ?_)
  · replace F := F.1 q8
    refine x_iinc (v := (v3 + 1)) (lv2 := [(3, .int (v3 + 1)), (0, .ref (ad (6, 0, 0))), (1, .ref (ad (1, 0, 0))), (2, .int v2), (5, .int v5)]) hM d_Wi_findLevels_116 (j := 3) rfl rfl (Nat.le_of_ble_eq_true rfl) rfl ?_
    refine x_goto (tgt := 45) hM d_Wi_findLevels_119 (by decide) ?_
    refine x_sub [1, 2, 3, 0] rfl ?_
    exact F _ _ hSt V
  · replace F := F.2 q8
    refine x_aload_n hM d_Wi_findLevels_87 rfl 0 rfl ?_
    refine y_getr hG hM V ck_Wi 7 (Nat.le_of_ble_eq_true rfl) rfl rfl w_294 rfl d_Wi_findLevels_88 (6, 0, 0) (33, 7, 0) rfl rfl rfl ?_
    refine x_iload hM d_Wi_findLevels_91 4 rfl ?_
    refine x_aload_n hM d_Wi_findLevels_93 rfl 0 rfl ?_
    refine y_getr hG hM V ck_Wi 5 (Nat.le_of_ble_eq_true rfl) rfl rfl w_291 rfl d_Wi_findLevels_94 (6, 0, 0) (33, 5, 0) rfl rfl rfl ?_
    refine x_iload hM d_Wi_findLevels_97 4 rfl ?_
    obtain ⟨c2, F⟩ := F
    refine y_iaload hG hM V d_Wi_findLevels_99 (33, 5, 0) rfl rfl c2 ?_
    refine x_iconst (v := (-1)) hM d_Wi_findLevels_100 (by decide) ?_
    have JJ : ∀ (z3 : Int32) (ez3 : z3 = (if (iR ρ (33, 5, 0) (Int32.toNatClampNeg v5)) = (-1) then 0 else 1)), X G M Q 109 [(0, .ref (ad (6, 0, 0))), (1, .ref (ad (1, 0, 0))), (2, .int v2), (3, .int v3), (5, .int v5)] [.int z3, .int v5, .ref (ad (33, 7, 0))] h := by
      intro z3 ez3
      replace F := F _ ez3
      obtain ⟨c5, F⟩ := F
      obtain ⟨c6, F⟩ := F
      obtain ⟨ρ4, eρ4⟩ : ∃ z : Rs, z = pI ρ (33, 7, 0) (Int32.toNatClampNeg v5) z3 := ⟨_, rfl⟩
      replace F := F ρ4 eρ4
      refine y_zastore hG hM V d_Wi_findLevels_109 (33, 7, 0) rfl rfl c5 c6 (fun h V => ?_)
      rw [← eρ4] at V
      clear eρ4
      refine x_iinc (v := (v5 + 1)) (lv2 := [(5, .int (v5 + 1)), (0, .ref (ad (6, 0, 0))), (1, .ref (ad (1, 0, 0))), (2, .int v2), (3, .int v3)]) hM d_Wi_findLevels_110 (j := 4) rfl rfl (Nat.le_of_ble_eq_true rfl) rfl ?_
      refine x_goto (tgt := 78) hM d_Wi_findLevels_113 (by decide) ?_
      refine x_sub [1, 2, 3, 4, 0] rfl ?_
      exact F _ _ hSt V
    refine x_icmp_eq (tgt := 108) hM d_Wi_findLevels_101 (by decide) (fun q7 => ?_) (fun q7 => ?_)
    · refine x_iconst (v := 0) hM d_Wi_findLevels_108 (by decide) ?_
      exact JJ _ (Eq.symm (if_pos q7))
    · refine x_iconst (v := 1) hM d_Wi_findLevels_104 (by decide) ?_
      refine x_goto (tgt := 109) hM d_Wi_findLevels_105 (by decide) ?_
      exact JJ _ (Eq.symm (if_neg q7))
set_option maxRecDepth 100000 in
set_option maxHeartbeats 4000000 in
theorem T_Wi_numbersOf_0 {G : Gc} {M : Mc} {Q : State → Prop} {ad0 : Ro → Nat} {K : (Ro → Nat) → Option Value → Rs → Prop} (hG : gok G) (hM : mok G M r_Wi_numbersOf Q (KV G [] ad0 K)) (v1 : Int32) (ρ : Rs) (F : (v1 = 1 → (∀ ad, K ad (some (.ref (ad (33, 3, 0)))) ρ)) ∧ (¬ v1 = 1 → ((v1 = 2 → (∀ ad, K ad (some (.ref (ad (33, 4, 0)))) ρ)) ∧ (¬ v1 = 2 → (∀ ad, K ad (some (.ref (ad (33, 5, 0)))) ρ))))) : Y G [] ad0 M Q 0 (fun ad => [(0, .ref (ad (6, 0, 0))), (1, .int v1)]) (fun ad => []) ρ := by
  intro ad h hSt V
  show X G M Q 0 [(0, .ref (ad (6, 0, 0))), (1, .int v1)] [] h
  refine x_iload_n hM d_Wi_numbersOf_0 rfl 1 rfl ?_
  refine x_iconst (v := 1) hM d_Wi_numbersOf_1 (by decide) ?_
  refine x_icmp_ne (tgt := 10) hM d_Wi_numbersOf_2 (by decide) (fun q2 => ?_) (fun q2 => ?_)
  · replace F := F.2 q2
    refine x_iload_n hM d_Wi_numbersOf_10 rfl 1 rfl ?_
    refine x_iconst (v := 2) hM d_Wi_numbersOf_11 (by decide) ?_
    refine x_icmp_ne (tgt := 22) hM d_Wi_numbersOf_12 (by decide) (fun q1 => ?_) (fun q1 => ?_)
    · replace F := F.2 q1
      refine x_aload_n hM d_Wi_numbersOf_22 rfl 0 rfl ?_
      refine y_getr hG hM V ck_Wi 5 (Nat.le_of_ble_eq_true rfl) rfl rfl w_291 rfl d_Wi_numbersOf_23 (6, 0, 0) (33, 5, 0) rfl rfl rfl ?_
      exact x_areturn hM d_Wi_numbersOf_26 ⟨_, rfl, Or.inr ⟨_, rfl⟩⟩ (y_end V hSt (F _))
    · replace F := F.1 q1
      refine x_aload_n hM d_Wi_numbersOf_15 rfl 0 rfl ?_
      refine y_getr hG hM V ck_Wi 4 (Nat.le_of_ble_eq_true rfl) rfl rfl w_290 rfl d_Wi_numbersOf_16 (6, 0, 0) (33, 4, 0) rfl rfl rfl ?_
      refine x_goto (tgt := 26) hM d_Wi_numbersOf_19 (by decide) ?_
      exact x_areturn hM d_Wi_numbersOf_26 ⟨_, rfl, Or.inr ⟨_, rfl⟩⟩ (y_end V hSt (F _))
  · replace F := F.1 q2
    refine x_aload_n hM d_Wi_numbersOf_5 rfl 0 rfl ?_
    refine y_getr hG hM V ck_Wi 3 (Nat.le_of_ble_eq_true rfl) rfl rfl w_289 rfl d_Wi_numbersOf_6 (6, 0, 0) (33, 3, 0) rfl rfl rfl ?_
    exact x_areturn hM d_Wi_numbersOf_9 ⟨_, rfl, Or.inr ⟨_, rfl⟩⟩ (y_end V hSt (F _))
