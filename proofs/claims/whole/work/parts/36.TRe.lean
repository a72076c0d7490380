set_option maxRecDepth 100000 in
set_option maxHeartbeats 4000000 in
theorem T_Re_spread_0 {G : Gc} {M : Mc} {Q : State → Prop} {ad0 : Ro → Nat} {K : (Ro → Nat) → Option Value → Rs → Prop} (hG : gok G) (hM : mok G M r_Re_spread Q (KV G [32] ad0 K)) (v2 : Int32) (ρ : Rs) (F : ∃ m2 : Nat, (iR ρ (1, 0, 0) 1) = nI m2 ∧ m2 ≤ 4096 ∧ (∀ ρ1 : Rs, ρ1 = rowR ρ (32, 0, 0) m2 → (∃ m8 : Nat, (iR ρ1 (1, 0, 0) 1) = nI m8 ∧ m8 ≤ 4096 ∧ (∀ ρ7 : Rs, ρ7 = rowR ρ1 (32, 2, 0) m8 → (((iR ρ7 (1, 0, 0) 1) ≤ (nI (nR ρ7 (32, 1, 0))) → (Y G [32] ad0 M Q 55 (fun ad => [(0, .ref (ad (5, 0, 0))), (1, .ref (ad (1, 0, 0))), (2, .int v2)]) (fun ad => []) ρ7)) ∧ (¬ (iR ρ7 (1, 0, 0) 1) ≤ (nI (nR ρ7 (32, 1, 0))) → (semV G r_WP_roomFor [] (fun ad => [.int (iR ρ7 (1, 0, 0) 1)]) ρ7 (fun ad u14 ρ13 => ∃ x16 : Int32, u14 = some (.int x16) ∧ (∃ m18 : Nat, x16 = nI m18 ∧ m18 ≤ 8192 ∧ rmg m18 + 1 ≤ rmg (nR ρ13 (32, 1, 0)) ∧ (∀ ρ17 : Rs, ρ17 = uN ρ13 (32, 1, 0) m18 → (Y G [32] ad0 M Q 55 (fun ad => [(0, .ref (ad (5, 0, 0))), (1, .ref (ad (1, 0, 0))), (2, .int v2)]) (fun ad => []) ρ17))))))))))) : Y G [32] ad0 M Q 0 (fun ad => [(0, .ref (ad (5, 0, 0))), (1, .ref (ad (1, 0, 0))), (2, .int v2)]) (fun ad => []) ρ := by
  intro ad h hSt V
  show X G M Q 0 [(0, .ref (ad (5, 0, 0))), (1, .ref (ad (1, 0, 0))), (2, .int v2)] [] h
  refine x_aload_n hM d_Re_spread_0 rfl 0 rfl ?_
  refine x_aload_n hM d_Re_spread_1 rfl 0 rfl ?_
  refine y_getr hG hM V ck_Re 0 (Nat.le_of_ble_eq_true rfl) rfl rfl w_256 rfl d_Re_spread_2 (5, 0, 0) (32, 0, 0) rfl rfl rfl ?_
  refine x_aload_n hM d_Re_spread_5 rfl 1 rfl ?_
  refine y_geti hG hM V ck_Wo 1 (Nat.le_of_ble_eq_true rfl) rfl rfl w_127 rfl d_Re_spread_6 (1, 0, 0) rfl rfl ?_
  obtain ⟨m2, c3, c4, F⟩ := F
  obtain ⟨ρ1, eρ1⟩ : ∃ z : Rs, z = rowR ρ (32, 0, 0) m2 := ⟨_, rfl⟩
  replace F := F ρ1 eρ1
  refine y_row hG hM V rfl ⟨Nat.le_of_ble_eq_true rfl, Nat.le_of_ble_eq_true rfl⟩ w_627 w_586 d_Re_spread_9 d_Re_spread_12 ck_Re (k := 0) (Nat.le_of_ble_eq_true rfl) (Or.inr ⟨_, rfl⟩) w_256 rfl rfl (Nat.le_of_ble_eq_true rfl) (5, 0, 0) (32, 0, 0) rfl rfl rfl (by decide) rfl rfl rfl c3 c4 (fun ad6 h hs5 V => ?_)
  rw [← eρ1] at V
  clear eρ1
  have ea0 : ad6 (5, 0, 0) = ad (5, 0, 0) := hs5 _ (Or.inr rfl)
  have ea1 : ad6 (1, 0, 0) = ad (1, 0, 0) := hs5 _ (Or.inr rfl)
  rw [← ea0, ← ea1]
  replace hSt := St_tr hSt (St_mono (mv' := [32]) (by decide) hs5)
  refine x_aload_n hM d_Re_spread_15 rfl 0 rfl ?_
  refine x_aload_n hM d_Re_spread_16 rfl 0 rfl ?_
  refine y_getr hG hM V ck_Re 2 (Nat.le_of_ble_eq_true rfl) rfl rfl w_260 rfl d_Re_spread_17 (5, 0, 0) (32, 2, 0) rfl rfl rfl ?_
  refine x_aload_n hM d_Re_spread_20 rfl 1 rfl ?_
  refine y_geti hG hM V ck_Wo 1 (Nat.le_of_ble_eq_true rfl) rfl rfl w_127 rfl d_Re_spread_21 (1, 0, 0) rfl rfl ?_
  obtain ⟨m8, c9, c10, F⟩ := F
  obtain ⟨ρ7, eρ7⟩ : ∃ z : Rs, z = rowR ρ1 (32, 2, 0) m8 := ⟨_, rfl⟩
  replace F := F ρ7 eρ7
  refine y_row hG hM V rfl ⟨Nat.le_of_ble_eq_true rfl, Nat.le_of_ble_eq_true rfl⟩ w_627 w_586 d_Re_spread_24 d_Re_spread_27 ck_Re (k := 2) (Nat.le_of_ble_eq_true rfl) (Or.inr ⟨_, rfl⟩) w_260 rfl rfl (Nat.le_of_ble_eq_true rfl) (5, 0, 0) (32, 2, 0) rfl rfl rfl (by decide) rfl rfl rfl c9 c10 (fun ad12 h hs11 V => ?_)
  rw [← eρ7] at V
  clear eρ7
  have ea0 : ad12 (5, 0, 0) = ad6 (5, 0, 0) := hs11 _ (Or.inr rfl)
  have ea1 : ad12 (1, 0, 0) = ad6 (1, 0, 0) := hs11 _ (Or.inr rfl)
  rw [← ea0, ← ea1]
  replace hSt := St_tr hSt (St_mono (mv' := [32]) (by decide) hs11)
  refine x_aload_n hM d_Re_spread_30 rfl 0 rfl ?_
  refine y_getr hG hM V ck_Re 1 (Nat.le_of_ble_eq_true rfl) rfl rfl w_258 rfl d_Re_spread_31 (5, 0, 0) (32, 1, 0) rfl rfl rfl ?_
  refine y_alen hG hM V 52 rfl (Nat.le_of_ble_eq_true rfl) d_Re_spread_34 (32, 1, 0) rfl rfl ?_
  refine x_aload_n hM d_Re_spread_35 rfl 1 rfl ?_
  refine y_geti hG hM V ck_Wo 1 (Nat.le_of_ble_eq_true rfl) rfl rfl w_127 rfl d_Re_spread_36 (1, 0, 0) rfl rfl ?_
  refine x_icmp_ge (tgt := 55) hM d_Re_spread_39 (by decide) (fun q25 => ?_) (fun q25 => ?_)
  · replace F := F.1 q25
    exact F _ _ hSt V
  · replace F := F.2 q25
    refine x_aload_n hM d_Re_spread_42 rfl 0 rfl ?_
    refine x_aload_n hM d_Re_spread_43 rfl 1 rfl ?_
    refine y_geti hG hM V ck_Wo 1 (Nat.le_of_ble_eq_true rfl) rfl rfl w_127 rfl d_Re_spread_44 (1, 0, 0) rfl rfl ?_
    refine x_callSN hG hM (r' := r_WP_roomFor) [.int (iR ρ7 (1, 0, 0) 1)] rfl yk_WP_roomFor ⟨Nat.le_of_ble_eq_true rfl, Nat.le_of_ble_eq_true rfl⟩ w_628 w_589 rfl rfl (Nat.le_of_ble_eq_true rfl) d_Re_spread_47 (sem_mono (F _ _ V) ?_)
    intro u14 h F
    obtain ⟨ad24, ρ13, V, hs15, F⟩ := F
    obtain ⟨x16, rfl, F⟩ := F
    have hs15 := (St_eq hs15).symm
    subst hs15
    obtain ⟨m18, c19, c20, c21, F⟩ := F
    obtain ⟨ρ17, eρ17⟩ : ∃ z : Rs, z = uN ρ13 (32, 1, 0) m18 := ⟨_, rfl⟩
    replace F := F ρ17 eρ17
    refine y_newL hG hM V rfl w_276 d_Re_spread_50 d_Re_spread_52 ck_Re (k := 1) (Nat.le_of_ble_eq_true rfl) (Or.inr ⟨_, rfl⟩) w_258 rfl rfl (5, 0, 0) (32, 1, 0) rfl rfl rfl (by decide) rfl rfl rfl c19 c20 c21 (fun ad23 h hs22 V => ?_)
    rw [← eρ17] at V
    clear eρ17
    have ea0 : ad23 (5, 0, 0) = ad12 (5, 0, 0) := hs22 _ (Or.inr rfl)
    have ea1 : ad23 (1, 0, 0) = ad12 (1, 0, 0) := hs22 _ (Or.inr rfl)
    rw [← ea0, ← ea1]
    replace hSt := St_tr hSt (St_mono (mv' := [32]) (by decide) hs22)
    exact F _ _ hSt V
set_option maxRecDepth 100000 in
set_option maxHeartbeats 4000000 in
theorem T_Re_spread_55 {G : Gc} {M : Mc} {Q : State → Prop} {ad0 : Ro → Nat} {K : (Ro → Nat) → Option Value → Rs → Prop} (hG : gok G) (hM : mok G M r_Re_spread Q (KV G [32] ad0 K)) (v2 : Int32) (ρ : Rs) (F : semV G r_Ar_fill [] (fun ad => [.ref (ad (32, 0, 0)), .int 0, .int (iR ρ (1, 0, 0) 1), .int (-1)]) ρ (fun ad u2 ρ1 => u2 = none ∧ (vp_in v2 (nR ρ1 (32, 0, 0)) ∧ (∀ ρ4 : Rs, ρ4 = pI ρ1 (32, 0, 0) (Int32.toNatClampNeg v2) 0 → (vp_in v2 (nR ρ4 (32, 1, 0)) ∧ (∀ ρ5 : Rs, ρ5 = pL ρ4 (32, 1, 0) (Int32.toNatClampNeg v2) 1 → (vp_in 0 (nR ρ5 (32, 2, 0)) ∧ (∀ ρ6 : Rs, ρ6 = pI ρ5 (32, 2, 0) (Int32.toNatClampNeg 0) v2 → (∀ ρ7 : Rs, ρ7 = pI ρ6 (5, 0, 0) 3 1 → (Y G [32] ad0 M Q 96 (fun ad => [(0, .ref (ad (5, 0, 0))), (1, .ref (ad (1, 0, 0))), (3, .int 0)]) (fun ad => []) ρ7)))))))))) : Y G [32] ad0 M Q 55 (fun ad => [(0, .ref (ad (5, 0, 0))), (1, .ref (ad (1, 0, 0))), (2, .int v2)]) (fun ad => []) ρ := by
  intro ad h hSt V
  show X G M Q 55 [(0, .ref (ad (5, 0, 0))), (1, .ref (ad (1, 0, 0))), (2, .int v2)] [] h
  refine x_aload_n hM d_Re_spread_55 rfl 0 rfl ?_
  refine y_getr hG hM V ck_Re 0 (Nat.le_of_ble_eq_true rfl) rfl rfl w_256 rfl d_Re_spread_56 (5, 0, 0) (32, 0, 0) rfl rfl rfl ?_
  refine x_iconst (v := 0) hM d_Re_spread_59 (by decide) ?_
  refine x_aload_n hM d_Re_spread_60 rfl 1 rfl ?_
  refine y_geti hG hM V ck_Wo 1 (Nat.le_of_ble_eq_true rfl) rfl rfl w_127 rfl d_Re_spread_61 (1, 0, 0) rfl rfl ?_
  refine x_iconst (v := (-1)) hM d_Re_spread_64 (by decide) ?_
  refine x_callS hG hM (r' := r_Ar_fill) [.ref (ad (32, 0, 0)), .int 0, .int (iR ρ (1, 0, 0) 1), .int (-1)] rfl yk_Ar_fill ⟨Nat.le_of_ble_eq_true rfl, Nat.le_of_ble_eq_true rfl⟩ w_629 w_604 rfl rfl (Nat.le_of_ble_eq_true rfl) d_Re_spread_65 (sem_mono (F _ _ V) ?_)
  intro u2 h F
  obtain ⟨ad11, ρ1, V, hs3, F⟩ := F
  obtain ⟨rfl, F⟩ := F
  have hs3 := (St_eq hs3).symm
  subst hs3
  refine x_aload_n hM d_Re_spread_68 rfl 0 rfl ?_
  refine y_getr hG hM V ck_Re 0 (Nat.le_of_ble_eq_true rfl) rfl rfl w_256 rfl d_Re_spread_69 (5, 0, 0) (32, 0, 0) rfl rfl rfl ?_
  refine x_iload_n hM d_Re_spread_72 rfl 2 rfl ?_
  refine x_iconst (v := 0) hM d_Re_spread_73 (by decide) ?_
  obtain ⟨c10, F⟩ := F
  obtain ⟨ρ4, eρ4⟩ : ∃ z : Rs, z = pI ρ1 (32, 0, 0) (Int32.toNatClampNeg v2) 0 := ⟨_, rfl⟩
  replace F := F ρ4 eρ4
  refine y_iastore hG hM V d_Re_spread_74 (32, 0, 0) rfl rfl c10 (fun h V => ?_)
  rw [← eρ4] at V
  clear eρ4
  refine x_aload_n hM d_Re_spread_75 rfl 0 rfl ?_
  refine y_getr hG hM V ck_Re 1 (Nat.le_of_ble_eq_true rfl) rfl rfl w_258 rfl d_Re_spread_76 (5, 0, 0) (32, 1, 0) rfl rfl rfl ?_
  refine x_iload_n hM d_Re_spread_79 rfl 2 rfl ?_
  refine x_lconst (v := 1) hM d_Re_spread_80 (by decide) ?_
  obtain ⟨c9, F⟩ := F
  obtain ⟨ρ5, eρ5⟩ : ∃ z : Rs, z = pL ρ4 (32, 1, 0) (Int32.toNatClampNeg v2) 1 := ⟨_, rfl⟩
  replace F := F ρ5 eρ5
  refine y_lastore hG hM V d_Re_spread_81 (32, 1, 0) rfl rfl c9 (fun h V => ?_)
  rw [← eρ5] at V
  clear eρ5
  refine x_aload_n hM d_Re_spread_82 rfl 0 rfl ?_
  refine y_getr hG hM V ck_Re 2 (Nat.le_of_ble_eq_true rfl) rfl rfl w_260 rfl d_Re_spread_83 (5, 0, 0) (32, 2, 0) rfl rfl rfl ?_
  refine x_iconst (v := 0) hM d_Re_spread_86 (by decide) ?_
  refine x_iload_n hM d_Re_spread_87 rfl 2 rfl ?_
  obtain ⟨c8, F⟩ := F
  obtain ⟨ρ6, eρ6⟩ : ∃ z : Rs, z = pI ρ5 (32, 2, 0) (Int32.toNatClampNeg 0) v2 := ⟨_, rfl⟩
  replace F := F ρ6 eρ6
  refine y_iastore hG hM V d_Re_spread_88 (32, 2, 0) rfl rfl c8 (fun h V => ?_)
  rw [← eρ6] at V
  clear eρ6
  refine x_aload_n hM d_Re_spread_89 rfl 0 rfl ?_
  refine x_iconst (v := 1) hM d_Re_spread_90 (by decide) ?_
  obtain ⟨ρ7, eρ7⟩ : ∃ z : Rs, z = pI ρ6 (5, 0, 0) 3 1 := ⟨_, rfl⟩
  replace F := F ρ7 eρ7
  refine y_puti hG hM V ck_Re 3 (Nat.le_of_ble_eq_true rfl) rfl rfl w_261 rfl d_Re_spread_91 rfl (5, 0, 0) rfl rfl (fun h V => ?_)
  rw [← eρ7] at V
  clear eρ7
  refine x_iconst (v := 0) hM d_Re_spread_94 (by decide) ?_
  refine x_istore_n (lv2 := [(3, .int 0), (0, .ref (ad (5, 0, 0))), (1, .ref (ad (1, 0, 0))), (2, .int v2)]) hM d_Re_spread_95 rfl (Nat.le_of_ble_eq_true rfl) rfl ?_
  refine x_sub [1, 2, 0] rfl ?_
  exact F _ _ hSt V
set_option maxRecDepth 100000 in
set_option maxHeartbeats 4000000 in
theorem T_Re_spread_96 {G : Gc} {M : Mc} {Q : State → Prop} {ad0 : Ro → Nat} {K : (Ro → Nat) → Option Value → Rs → Prop} (hG : gok G) (hM : mok G M r_Re_spread Q (KV G [32] ad0 K)) (v3 : Int32) (ρ : Rs) (F : ((iR ρ (5, 0, 0) 3) ≤ v3 → (∀ ad, K ad none ρ)) ∧ (¬ (iR ρ (5, 0, 0) 3) ≤ v3 → (((iR ρ (1, 0, 0) 1) ≤ v3 → (∀ ad, K ad none ρ)) ∧ (¬ (iR ρ (1, 0, 0) 1) ≤ v3 → (Y G [32] ad0 M Q 115 (fun ad => [(0, .ref (ad (5, 0, 0))), (1, .ref (ad (1, 0, 0))), (3, .int v3), (4, .int 0)]) (fun ad => []) ρ))))) : Y G [32] ad0 M Q 96 (fun ad => [(0, .ref (ad (5, 0, 0))), (1, .ref (ad (1, 0, 0))), (3, .int v3)]) (fun ad => []) ρ := by
  intro ad h hSt V
  show X G M Q 96 [(0, .ref (ad (5, 0, 0))), (1, .ref (ad (1, 0, 0))), (3, .int v3)] [] h
  refine x_iload_n hM d_Re_spread_96 rfl 2 rfl ?_
  refine x_aload_n hM d_Re_spread_97 rfl 0 rfl ?_
  refine y_geti hG hM V ck_Re 3 (Nat.le_of_ble_eq_true rfl) rfl rfl w_261 rfl d_Re_spread_98 (5, 0, 0) rfl rfl ?_
  refine x_icmp_ge (tgt := 172) hM d_Re_spread_101 (by decide) (fun q2 => ?_) (fun q2 => ?_)
  · replace F := F.1 q2
    exact x_return hM d_Re_spread_172 rfl (y_end V hSt (F _))
  · replace F := F.2 q2
    refine x_iload_n hM d_Re_spread_104 rfl 2 rfl ?_
    refine x_aload_n hM d_Re_spread_105 rfl 1 rfl ?_
    refine y_geti hG hM V ck_Wo 1 (Nat.le_of_ble_eq_true rfl) rfl rfl w_127 rfl d_Re_spread_106 (1, 0, 0) rfl rfl ?_
    refine x_icmp_ge (tgt := 172) hM d_Re_spread_109 (by decide) (fun q1 => ?_) (fun q1 => ?_)
    · replace F := F.1 q1
      exact x_return hM d_Re_spread_172 rfl (y_end V hSt (F _))
    · replace F := F.2 q1
      refine x_iconst (v := 0) hM d_Re_spread_112 (by decide) ?_
      refine x_istore (lv2 := [(4, .int 0), (0, .ref (ad (5, 0, 0))), (1, .ref (ad (1, 0, 0))), (3, .int v3)]) hM d_Re_spread_113 (Nat.le_of_ble_eq_true rfl) rfl ?_
      refine x_sub [1, 2, 3, 0] rfl ?_
      exact F _ _ hSt V
set_option maxRecDepth 100000 in
set_option maxHeartbeats 4000000 in
theorem T_Re_spread_115 {G : Gc} {M : Mc} {Q : State → Prop} {ad0 : Ro → Nat} {K : (Ro → Nat) → Option Value → Rs → Prop} (hG : gok G) (hM : mok G M r_Re_spread Q (KV G [32] ad0 K)) (v3 : Int32) (v4 : Int32) (ρ : Rs) (F : ((iR ρ (1, 0, 0) 2) ≤ v4 → (Y G [32] ad0 M Q 96 (fun ad => [(0, .ref (ad (5, 0, 0))), (1, .ref (ad (1, 0, 0))), (3, .int (v3 + 1))]) (fun ad => []) ρ)) ∧ (¬ (iR ρ (1, 0, 0) 2) ≤ v4 → (vp_in v4 12 ∧ (vp_in v3 (nR ρ (32, 2, 0)) ∧ (semV G r_Ac_canBeDone [] (fun ad => [.ref (ad (20, (Int32.toNatClampNeg v4), 0)), .int (iR ρ (32, 2, 0) (Int32.toNatClampNeg v3))]) ρ (fun ad u6 ρ5 => ∃ x8 : Int32, u6 = some (.int x8) ∧ ((x8 = 0 → (Y G [32] ad0 M Q 115 (fun ad => [(0, .ref (ad (5, 0, 0))), (1, .ref (ad (1, 0, 0))), (3, .int v3), (4, .int (v4 + 1))]) (fun ad => []) ρ5)) ∧ (¬ x8 = 0 → (vp_in v4 12 ∧ (vp_in v3 (nR ρ5 (32, 2, 0)) ∧ (semV G r_Re_follow [] (fun ad => [.ref (ad (5, 0, 0)), .ref (ad (20, (Int32.toNatClampNeg v4), 0)), .int (iR ρ5 (32, 2, 0) (Int32.toNatClampNeg v3))]) ρ5 (fun ad u14 ρ13 => u14 = none ∧ (Y G [32] ad0 M Q 115 (fun ad => [(0, .ref (ad (5, 0, 0))), (1, .ref (ad (1, 0, 0))), (3, .int v3), (4, .int (v4 + 1))]) (fun ad => []) ρ13))))))))))))) : Y G [32] ad0 M Q 115 (fun ad => [(0, .ref (ad (5, 0, 0))), (1, .ref (ad (1, 0, 0))), (3, .int v3), (4, .int v4)]) (fun ad => []) ρ := by
  intro ad h hSt V
  show X G M Q 115 [(0, .ref (ad (5, 0, 0))), (1, .ref (ad (1, 0, 0))), (3, .int v3), (4, .int v4)] [] h
  refine x_iload hM d_Re_spread_115 3 rfl ?_
  refine x_aload_n hM d_Re_spread_117 rfl 1 rfl ?_
  refine y_geti hG hM V ck_Wo 2 (Nat.le_of_ble_eq_true rfl) rfl rfl w_135 rfl d_Re_spread_118 (1, 0, 0) rfl rfl ?_
  refine x_icmp_ge (tgt := 166) hM d_Re_spread_121 (by decide) (fun q19 => ?_) (fun q19 => ?_)
  · replace F := F.1 q19
    refine x_iinc (v := (v3 + 1)) (lv2 := [(3, .int (v3 + 1)), (0, .ref (ad (5, 0, 0))), (1, .ref (ad (1, 0, 0))), (4, .int v4)]) hM d_Re_spread_166 (j := 2) rfl rfl (Nat.le_of_ble_eq_true rfl) rfl ?_
    refine x_goto (tgt := 96) hM d_Re_spread_169 (by decide) ?_
    refine x_sub [1, 2, 0] rfl ?_
    exact F _ _ hSt V
  · replace F := F.2 q19
    refine x_aload_n hM d_Re_spread_124 rfl 1 rfl ?_
    refine y_getr hG hM V ck_Wo 5 (Nat.le_of_ble_eq_true rfl) rfl rfl w_145 rfl d_Re_spread_125 (1, 0, 0) (30, 5, 0) rfl rfl rfl ?_
    refine x_iload hM d_Re_spread_128 3 rfl ?_
    obtain ⟨c3, F⟩ := F
    refine y_acts hG hM V d_Re_spread_130 c3 ?_
    refine x_aload_n hM d_Re_spread_131 rfl 0 rfl ?_
    refine y_getr hG hM V ck_Re 2 (Nat.le_of_ble_eq_true rfl) rfl rfl w_260 rfl d_Re_spread_132 (5, 0, 0) (32, 2, 0) rfl rfl rfl ?_
    refine x_iload_n hM d_Re_spread_135 rfl 2 rfl ?_
    obtain ⟨c4, F⟩ := F
    refine y_iaload hG hM V d_Re_spread_136 (32, 2, 0) rfl rfl c4 ?_
    refine x_callV hG hM (r' := r_Ac_canBeDone) (ci := 2) [.int (iR ρ (32, 2, 0) (Int32.toNatClampNeg v3))] rfl rfl (Nat.le_of_ble_eq_true rfl) yk_Ac_canBeDone ⟨Nat.le_of_ble_eq_true rfl, Nat.le_of_ble_eq_true rfl⟩ w_630 w_631 w_632 rfl rfl (Nat.le_of_ble_eq_true rfl) d_Re_spread_137 (by rw [vT V (ok_ac (vp_lt c3))]; rfl) (sem_mono (F _ _ V) ?_)
    intro u6 h F
    obtain ⟨ad18, ρ5, V, hs7, F⟩ := F
    obtain ⟨x8, rfl, F⟩ := F
    have hs7 := (St_eq hs7).symm
    subst hs7
    refine x_if_eq (tgt := 160) hM d_Re_spread_140 (by decide) (fun q17 => ?_) (fun q17 => ?_)
    · replace F := F.1 q17
      refine x_iinc (v := (v4 + 1)) (lv2 := [(4, .int (v4 + 1)), (0, .ref (ad (5, 0, 0))), (1, .ref (ad (1, 0, 0))), (3, .int v3)]) hM d_Re_spread_160 (j := 3) rfl rfl (Nat.le_of_ble_eq_true rfl) rfl ?_
      refine x_goto (tgt := 115) hM d_Re_spread_163 (by decide) ?_
      refine x_sub [1, 2, 3, 0] rfl ?_
      exact F _ _ hSt V
    · replace F := F.2 q17
      refine x_aload_n hM d_Re_spread_143 rfl 0 rfl ?_
      refine x_aload_n hM d_Re_spread_144 rfl 1 rfl ?_
      refine y_getr hG hM V ck_Wo 5 (Nat.le_of_ble_eq_true rfl) rfl rfl w_145 rfl d_Re_spread_145 (1, 0, 0) (30, 5, 0) rfl rfl rfl ?_
      refine x_iload hM d_Re_spread_148 3 rfl ?_
      obtain ⟨c11, F⟩ := F
      refine y_acts hG hM V d_Re_spread_150 c11 ?_
      refine x_aload_n hM d_Re_spread_151 rfl 0 rfl ?_
      refine y_getr hG hM V ck_Re 2 (Nat.le_of_ble_eq_true rfl) rfl rfl w_260 rfl d_Re_spread_152 (5, 0, 0) (32, 2, 0) rfl rfl rfl ?_
      refine x_iload_n hM d_Re_spread_155 rfl 2 rfl ?_
      obtain ⟨c12, F⟩ := F
      refine y_iaload hG hM V d_Re_spread_156 (32, 2, 0) rfl rfl c12 ?_
      refine x_callV hG hM (r' := r_Re_follow) (ci := 7) [.ref (ad (20, (Int32.toNatClampNeg v4), 0)), .int (iR ρ5 (32, 2, 0) (Int32.toNatClampNeg v3))] rfl rfl (Nat.le_of_ble_eq_true rfl) yk_Re_follow ⟨Nat.le_of_ble_eq_true rfl, Nat.le_of_ble_eq_true rfl⟩ w_634 w_636 ws_Re_follow rfl rfl (Nat.le_of_ble_eq_true rfl) d_Re_spread_157 (by rw [vT V rfl]; rfl) (sem_mono (F _ _ V) ?_)
      intro u14 h F
      obtain ⟨ad16, ρ13, V, hs15, F⟩ := F
      obtain ⟨rfl, F⟩ := F
      have hs15 := (St_eq hs15).symm
      subst hs15
      refine x_iinc (v := (v4 + 1)) (lv2 := [(4, .int (v4 + 1)), (0, .ref (ad (5, 0, 0))), (1, .ref (ad (1, 0, 0))), (3, .int v3)]) hM d_Re_spread_160 (j := 3) rfl rfl (Nat.le_of_ble_eq_true rfl) rfl ?_
      refine x_goto (tgt := 115) hM d_Re_spread_163 (by decide) ?_
      refine x_sub [1, 2, 3, 0] rfl ?_
      exact F _ _ hSt V
set_option maxRecDepth 100000 in
set_option maxHeartbeats 4000000 in
theorem T_Re_follow_0 {G : Gc} {M : Mc} {Q : State → Prop} {ad0 : Ro → Nat} {K : (Ro → Nat) → Option Value → Rs → Prop} (hG : gok G) (hM : mok G M r_Re_follow Q (KV G [] ad0 K)) (a1 : Nat) (ha1 : a1 < 12) (v2 : Int32) (ρ : Rs) (F : Y G [] ad0 M Q 2 (fun ad => [(0, .ref (ad (5, 0, 0))), (1, .ref (ad (20, a1, 0))), (2, .int v2), (3, .int 0)]) (fun ad => []) ρ) : Y G [] ad0 M Q 0 (fun ad => [(0, .ref (ad (5, 0, 0))), (1, .ref (ad (20, a1, 0))), (2, .int v2)]) (fun ad => []) ρ := by
  intro ad h hSt V
  show X G M Q 0 [(0, .ref (ad (5, 0, 0))), (1, .ref (ad (20, a1, 0))), (2, .int v2)] [] h
  refine x_iconst (v := 0) hM d_Re_follow_0 (by decide) ?_
  refine x_istore_n (lv2 := [(3, .int 0), (0, .ref (ad (5, 0, 0))), (1, .ref (ad (20, a1, 0))), (2, .int v2)]) hM d_Re_follow_1 rfl (Nat.le_of_ble_eq_true rfl) rfl ?_
  refine x_sub [1, 2, 3, 0] rfl ?_
  exact F _ _ hSt V
set_option maxRecDepth 100000 in
set_option maxHeartbeats 4000000 in
theorem T_Re_follow_2 {G : Gc} {M : Mc} {Q : State → Prop} {ad0 : Ro → Nat} {K : (Ro → Nat) → Option Value → Rs → Prop} (hG : gok G) (hM : mok G M r_Re_follow Q (KV G [] ad0 K)) (a1 : Nat) (ha1 : a1 < 12) (v2 : Int32) (v3 : Int32) (ρ : Rs) (F : ((iR ρ (20, a1, 0) 2) ≤ v3 → (∀ ad, K ad none ρ)) ∧ (¬ (iR ρ (20, a1, 0) 2) ≤ v3 → (vp_in v3 3 ∧ (vp_in v2 (nR ρ (23, a1, (Int32.toNatClampNeg v3))) ∧ (vp_in (iR ρ (23, a1, (Int32.toNatClampNeg v3)) (Int32.toNatClampNeg v2)) (nR ρ (32, 0, 0)) ∧ (((iR ρ (32, 0, 0) (Int32.toNatClampNeg (iR ρ (23, a1, (Int32.toNatClampNeg v3)) (Int32.toNatClampNeg v2)))) = (-1) → (vp_in v2 (nR ρ (32, 0, 0)) ∧ (vp_in (iR ρ (23, a1, (Int32.toNatClampNeg v3)) (Int32.toNatClampNeg v2)) (nR ρ (32, 0, 0)) ∧ (∀ ρ11 : Rs, ρ11 = pI ρ (32, 0, 0) (Int32.toNatClampNeg (iR ρ (23, a1, (Int32.toNatClampNeg v3)) (Int32.toNatClampNeg v2))) ((iR ρ (32, 0, 0) (Int32.toNatClampNeg v2)) + 1) → (vp_in (iR ρ (23, a1, (Int32.toNatClampNeg v3)) (Int32.toNatClampNeg v2)) (nR ρ11 (32, 1, 0)) ∧ (∀ ρ12 : Rs, ρ12 = pL ρ11 (32, 1, 0) (Int32.toNatClampNeg (iR ρ (23, a1, (Int32.toNatClampNeg v3)) (Int32.toNatClampNeg v2))) 0 → (vp_in (iR ρ12 (5, 0, 0) 3) (nR ρ12 (32, 2, 0)) ∧ (∀ ρ13 : Rs, ρ13 = pI ρ12 (32, 2, 0) (Int32.toNatClampNeg (iR ρ12 (5, 0, 0) 3)) (iR ρ (23, a1, (Int32.toNatClampNeg v3)) (Int32.toNatClampNeg v2)) → (∀ ρ14 : Rs, ρ14 = pI ρ13 (5, 0, 0) 3 ((iR ρ13 (5, 0, 0) 3) + 1) → (Y G [] ad0 M Q 78 (fun ad => [(0, .ref (ad (5, 0, 0))), (1, .ref (ad (20, a1, 0))), (2, .int v2), (3, .int v3), (4, .int (iR ρ (23, a1, (Int32.toNatClampNeg v3)) (Int32.toNatClampNeg v2)))]) (fun ad => []) ρ14)))))))))) ∧ (¬ (iR ρ (32, 0, 0) (Int32.toNatClampNeg (iR ρ (23, a1, (Int32.toNatClampNeg v3)) (Int32.toNatClampNeg v2)))) = (-1) → (Y G [] ad0 M Q 78 (fun ad => [(0, .ref (ad (5, 0, 0))), (1, .ref (ad (20, a1, 0))), (2, .int v2), (3, .int v3), (4, .int (iR ρ (23, a1, (Int32.toNatClampNeg v3)) (Int32.toNatClampNeg v2)))]) (fun ad => []) ρ)))))))) : Y G [] ad0 M Q 2 (fun ad => [(0, .ref (ad (5, 0, 0))), (1, .ref (ad (20, a1, 0))), (2, .int v2), (3, .int v3)]) (fun ad => []) ρ := by
  intro ad h hSt V
  show X G M Q 2 [(0, .ref (ad (5, 0, 0))), (1, .ref (ad (20, a1, 0))), (2, .int v2), (3, .int v3)] [] h
  refine x_iload_n hM d_Re_follow_2 rfl 3 rfl ?_
  refine x_aload_n hM d_Re_follow_3 rfl 1 rfl ?_
  refine y_geti hG hM V ck_Ac 2 (Nat.le_of_ble_eq_true rfl) rfl rfl w_106 rfl d_Re_follow_4 (20, a1, 0) (ok_ac ha1) rfl ?_
  refine x_icmp_ge (tgt := 118) hM d_Re_follow_7 (by decide) (fun q19 => ?_) (fun q19 => ?_)
  · replace F := F.1 q19
    exact x_return hM d_Re_follow_118 rfl (y_end V hSt (F _))
  · replace F := F.2 q19
    refine x_aload_n hM d_Re_follow_10 rfl 1 rfl ?_
    refine y_getr hG hM V ck_Ac 1 (Nat.le_of_ble_eq_true rfl) rfl rfl w_98 rfl d_Re_follow_11 (20, a1, 0) (21, a1, 0) (ok_ac ha1) rfl rfl ?_
    refine x_iload_n hM d_Re_follow_14 rfl 3 rfl ?_
    obtain ⟨c6, F⟩ := F
    refine y_outs hG hM V d_Re_follow_15 ha1 c6 ?_
    refine y_getr hG hM V ck_Ou 1 (Nat.le_of_ble_eq_true rfl) rfl rfl w_78 rfl d_Re_follow_16 (22, a1, (Int32.toNatClampNeg v3)) (23, a1, (Int32.toNatClampNeg v3)) (ok_ou ha1 (vp_lt c6)) rfl rfl ?_
    refine x_iload_n hM d_Re_follow_19 rfl 2 rfl ?_
    obtain ⟨c7, F⟩ := F
    refine y_iaload hG hM V d_Re_follow_20 (23, a1, (Int32.toNatClampNeg v3)) (ok_to ha1 (vp_lt c6)) rfl c7 ?_
    refine x_istore (lv2 := [(4, .int (iR ρ (23, a1, (Int32.toNatClampNeg v3)) (Int32.toNatClampNeg v2))), (0, .ref (ad (5, 0, 0))), (1, .ref (ad (20, a1, 0))), (2, .int v2), (3, .int v3)]) hM d_Re_follow_21 (Nat.le_of_ble_eq_true rfl) rfl ?_
    refine x_aload_n hM d_Re_follow_23 rfl 1 rfl ?_
    refine y_getr hG hM V ck_Re 0 (Nat.le_of_ble_eq_true rfl) rfl rfl w_256 rfl d_Re_follow_24 (5, 0, 0) (32, 0, 0) rfl rfl rfl ?_
    refine x_iload hM d_Re_follow_27 0 rfl ?_
    obtain ⟨c8, F⟩ := F
    refine y_iaload hG hM V d_Re_follow_29 (32, 0, 0) rfl rfl c8 ?_
    refine x_iconst (v := (-1)) hM d_Re_follow_30 (by decide) ?_
    refine x_icmp_ne (tgt := 78) hM d_Re_follow_31 (by decide) (fun q18 => ?_) (fun q18 => ?_)
    · replace F := F.2 q18
      refine x_sub [1, 2, 3, 4, 0] rfl ?_
      exact F _ _ hSt V
    · replace F := F.1 q18
      refine x_aload_n hM d_Re_follow_34 rfl 1 rfl ?_
      refine y_getr hG hM V ck_Re 0 (Nat.le_of_ble_eq_true rfl) rfl rfl w_256 rfl d_Re_follow_35 (5, 0, 0) (32, 0, 0) rfl rfl rfl ?_
      refine x_iload hM d_Re_follow_38 0 rfl ?_
      refine x_aload_n hM d_Re_follow_40 rfl 1 rfl ?_
      refine y_getr hG hM V ck_Re 0 (Nat.le_of_ble_eq_true rfl) rfl rfl w_256 rfl d_Re_follow_41 (5, 0, 0) (32, 0, 0) rfl rfl rfl ?_
      refine x_iload_n hM d_Re_follow_44 rfl 3 rfl ?_
      obtain ⟨c10, F⟩ := F
      refine y_iaload hG hM V d_Re_follow_45 (32, 0, 0) rfl rfl c10 ?_
      refine x_iconst (v := 1) hM d_Re_follow_46 (by decide) ?_
      refine x_iadd hM d_Re_follow_47 ?_
      obtain ⟨c17, F⟩ := F
      obtain ⟨ρ11, eρ11⟩ : ∃ z : Rs, z = pI ρ (32, 0, 0) (Int32.toNatClampNeg (iR ρ (23, a1, (Int32.toNatClampNeg v3)) (Int32.toNatClampNeg v2))) ((iR ρ (32, 0, 0) (Int32.toNatClampNeg v2)) + 1) := ⟨_, rfl⟩
      replace F := F ρ11 eρ11
      refine y_iastore hG hM V d_Re_follow_48 (32, 0, 0) rfl rfl c17 (fun h V => ?_)
      rw [← eρ11] at V
      clear eρ11
      refine x_aload_n hM d_Re_follow_49 rfl 1 rfl ?_
      refine y_getr hG hM V ck_Re 1 (Nat.le_of_ble_eq_true rfl) rfl rfl w_258 rfl d_Re_follow_50 (5, 0, 0) (32, 1, 0) rfl rfl rfl ?_
      refine x_iload hM d_Re_follow_53 0 rfl ?_
      refine x_lconst (v := 0) hM d_Re_follow_55 (by decide) ?_
      obtain ⟨c16, F⟩ := F
      obtain ⟨ρ12, eρ12⟩ : ∃ z : Rs, z = pL ρ11 (32, 1, 0) (Int32.toNatClampNeg (iR ρ (23, a1, (Int32.toNatClampNeg v3)) (Int32.toNatClampNeg v2))) 0 := ⟨_, rfl⟩
      replace F := F ρ12 eρ12
      refine y_lastore hG hM V d_Re_follow_56 (32, 1, 0) rfl rfl c16 (fun h V => ?_)
      rw [← eρ12] at V
      clear eρ12
      refine x_aload_n hM d_Re_follow_57 rfl 1 rfl ?_
      refine y_getr hG hM V ck_Re 2 (Nat.le_of_ble_eq_true rfl) rfl rfl w_260 rfl d_Re_follow_58 (5, 0, 0) (32, 2, 0) rfl rfl rfl ?_
      refine x_aload_n hM d_Re_follow_61 rfl 1 rfl ?_
      refine y_geti hG hM V ck_Re 3 (Nat.le_of_ble_eq_true rfl) rfl rfl w_261 rfl d_Re_follow_62 (5, 0, 0) rfl rfl ?_
      refine x_iload hM d_Re_follow_65 0 rfl ?_
      obtain ⟨c15, F⟩ := F
      obtain ⟨ρ13, eρ13⟩ : ∃ z : Rs, z = pI ρ12 (32, 2, 0) (Int32.toNatClampNeg (iR ρ12 (5, 0, 0) 3)) (iR ρ (23, a1, (Int32.toNatClampNeg v3)) (Int32.toNatClampNeg v2)) := ⟨_, rfl⟩
      replace F := F ρ13 eρ13
      refine y_iastore hG hM V d_Re_follow_67 (32, 2, 0) rfl rfl c15 (fun h V => ?_)
      rw [← eρ13] at V
      clear eρ13
      refine x_aload_n hM d_Re_follow_68 rfl 1 rfl ?_
      refine x_dup hM d_Re_follow_69 rfl ?_
      refine y_geti hG hM V ck_Re 3 (Nat.le_of_ble_eq_true rfl) rfl rfl w_261 rfl d_Re_follow_70 (5, 0, 0) rfl rfl ?_
      refine x_iconst (v := 1) hM d_Re_follow_73 (by decide) ?_
      refine x_iadd hM d_Re_follow_74 ?_
      obtain ⟨ρ14, eρ14⟩ : ∃ z : Rs, z = pI ρ13 (5, 0, 0) 3 ((iR ρ13 (5, 0, 0) 3) + 1) := ⟨_, rfl⟩
      replace F := F ρ14 eρ14
      refine y_puti hG hM V ck_Re 3 (Nat.le_of_ble_eq_true rfl) rfl rfl w_261 rfl d_Re_follow_75 rfl (5, 0, 0) rfl rfl (fun h V => ?_)
      rw [← eρ14] at V
      clear eρ14
      refine x_sub [1, 2, 3, 4, 0] rfl ?_
      exact F _ _ hSt V
set_option maxRecDepth 100000 in
set_option maxHeartbeats 4000000 in
theorem T_Re_follow_78 {G : Gc} {M : Mc} {Q : State → Prop} {ad0 : Ro → Nat} {K : (Ro → Nat) → Option Value → Rs → Prop} (hG : gok G) (hM : mok G M r_Re_follow Q (KV G [] ad0 K)) (a1 : Nat) (ha1 : a1 < 12) (v2 : Int32) (v3 : Int32) (v4 : Int32) (ρ : Rs) (F : vp_in v4 (nR ρ (32, 0, 0)) ∧ (vp_in v2 (nR ρ (32, 0, 0)) ∧ (((iR ρ (32, 0, 0) (Int32.toNatClampNeg v4)) = ((iR ρ (32, 0, 0) (Int32.toNatClampNeg v2)) + 1) → (vp_in v4 (nR ρ (32, 1, 0)) ∧ (vp_in v2 (nR ρ (32, 1, 0)) ∧ (vp_in v4 (nR ρ (32, 1, 0)) ∧ (∀ ρ7 : Rs, ρ7 = pL ρ (32, 1, 0) (Int32.toNatClampNeg v4) ((lR ρ (32, 1, 0) (Int32.toNatClampNeg v4)) + (lR ρ (32, 1, 0) (Int32.toNatClampNeg v2))) → (Y G [] ad0 M Q 2 (fun ad => [(0, .ref (ad (5, 0, 0))), (1, .ref (ad (20, a1, 0))), (2, .int v2), (3, .int (v3 + 1))]) (fun ad => []) ρ7)))))) ∧ (¬ (iR ρ (32, 0, 0) (Int32.toNatClampNeg v4)) = ((iR ρ (32, 0, 0) (Int32.toNatClampNeg v2)) + 1) → (Y G [] ad0 M Q 2 (fun ad => [(0, .ref (ad (5, 0, 0))), (1, .ref (ad (20, a1, 0))), (2, .int v2), (3, .int (v3 + 1))]) (fun ad => []) ρ))))) : Y G [] ad0 M Q 78 (fun ad => [(0, .ref (ad (5, 0, 0))), (1, .ref (ad (20, a1, 0))), (2, .int v2), (3, .int v3), (4, .int v4)]) (fun ad => []) ρ := by
  intro ad h hSt V
  show X G M Q 78 [(0, .ref (ad (5, 0, 0))), (1, .ref (ad (20, a1, 0))), (2, .int v2), (3, .int v3), (4, .int v4)] [] h
  refine x_aload_n hM d_Re_follow_78 rfl 0 rfl ?_
  refine y_getr hG hM V ck_Re 0 (Nat.le_of_ble_eq_true rfl) rfl rfl w_256 rfl d_Re_follow_79 (5, 0, 0) (32, 0, 0) rfl rfl rfl ?_
  refine x_iload hM d_Re_follow_82 4 rfl ?_
  obtain ⟨c1, F⟩ := F
  refine y_iaload hG hM V d_Re_follow_84 (32, 0, 0) rfl rfl c1 ?_
  refine x_aload_n hM d_Re_follow_85 rfl 0 rfl ?_
  refine y_getr hG hM V ck_Re 0 (Nat.le_of_ble_eq_true rfl) rfl rfl w_256 rfl d_Re_follow_86 (5, 0, 0) (32, 0, 0) rfl rfl rfl ?_
  refine x_iload_n hM d_Re_follow_89 rfl 2 rfl ?_
  obtain ⟨c2, F⟩ := F
  refine y_iaload hG hM V d_Re_follow_90 (32, 0, 0) rfl rfl c2 ?_
  refine x_iconst (v := 1) hM d_Re_follow_91 (by decide) ?_
  refine x_iadd hM d_Re_follow_92 ?_
  refine x_icmp_ne (tgt := 112) hM d_Re_follow_93 (by decide) (fun q9 => ?_) (fun q9 => ?_)
  · replace F := F.2 q9
    refine x_iinc (v := (v3 + 1)) (lv2 := [(3, .int (v3 + 1)), (0, .ref (ad (5, 0, 0))), (1, .ref (ad (20, a1, 0))), (2, .int v2), (4, .int v4)]) hM d_Re_follow_112 (j := 3) rfl rfl (Nat.le_of_ble_eq_true rfl) rfl ?_
    refine x_goto (tgt := 2) hM d_Re_follow_115 (by decide) ?_
    refine x_sub [1, 2, 3, 0] rfl ?_
    exact F _ _ hSt V
  · replace F := F.1 q9
    refine x_aload_n hM d_Re_follow_96 rfl 0 rfl ?_
    refine y_getr hG hM V ck_Re 1 (Nat.le_of_ble_eq_true rfl) rfl rfl w_258 rfl d_Re_follow_97 (5, 0, 0) (32, 1, 0) rfl rfl rfl ?_
    refine x_iload hM d_Re_follow_100 4 rfl ?_
    refine x_dup2 hM d_Re_follow_102 rfl rfl ?_
    obtain ⟨c5, F⟩ := F
    refine y_laload hG hM V d_Re_follow_103 (32, 1, 0) rfl rfl c5 ?_
    refine x_aload_n hM d_Re_follow_104 rfl 0 rfl ?_
    refine y_getr hG hM V ck_Re 1 (Nat.le_of_ble_eq_true rfl) rfl rfl w_258 rfl d_Re_follow_105 (5, 0, 0) (32, 1, 0) rfl rfl rfl ?_
    refine x_iload_n hM d_Re_follow_108 rfl 2 rfl ?_
    obtain ⟨c6, F⟩ := F
    refine y_laload hG hM V d_Re_follow_109 (32, 1, 0) rfl rfl c6 ?_
    refine x_ladd hM d_Re_follow_110 ?_
    obtain ⟨c8, F⟩ := F
    obtain ⟨ρ7, eρ7⟩ : ∃ z : Rs, z = pL ρ (32, 1, 0) (Int32.toNatClampNeg v4) ((lR ρ (32, 1, 0) (Int32.toNatClampNeg v4)) + (lR ρ (32, 1, 0) (Int32.toNatClampNeg v2))) := ⟨_, rfl⟩
    replace F := F ρ7 eρ7
    refine y_lastore hG hM V d_Re_follow_111 (32, 1, 0) rfl rfl c8 (fun h V => ?_)
    rw [← eρ7] at V
    clear eρ7
    refine x_iinc (v := (v3 + 1)) (lv2 := [(3, .int (v3 + 1)), (0, .ref (ad (5, 0, 0))), (1, .ref (ad (20, a1, 0))), (2, .int v2), (4, .int v4)]) hM d_Re_follow_112 (j := 3) rfl rfl (Nat.le_of_ble_eq_true rfl) rfl ?_
    refine x_goto (tgt := 2) hM d_Re_follow_115 (by decide) ?_
    refine x_sub [1, 2, 3, 0] rfl ?_
    exact F _ _ hSt V
