set_option maxRecDepth 100000 in
set_option maxHeartbeats 4000000 in
theorem T_WP_needed_0 {G : Gc} {M : Mc} {Q : State → Prop} {ad0 : Ro → Nat} {K : (Ro → Nat) → Option Value → Rs → Prop} (hG : gok G) (hM : mok G M r_WP_needed Q (KV G [23, 24, 30, 33, 35] ad0 K))  (ρ : Rs) (F : semV G r_Wo_prepare [23, 24, 30] (fun ad => [.ref (ad (1, 0, 0))]) ρ (fun ad u2 ρ1 => u2 = none ∧ (semV G r_WP_findAim [33] (fun ad => [.ref (ad (0, 0, 0))]) ρ1 (fun ad u6 ρ5 => u6 = none ∧ ((0 ≤ (lg_cmp (lR ρ5 (0, 0, 0) 10) (lR ρ5 (4, 0, 0) 0)) → (∀ ad, K ad (some (.int (iR ρ5 (0, 0, 0) 9))) ρ5)) ∧ (¬ 0 ≤ (lg_cmp (lR ρ5 (0, 0, 0) 10) (lR ρ5 (4, 0, 0) 0)) → (∀ ρ9 : Rs, ρ9 = pI ρ5 (0, 0, 0) 9 0 → (Y G [23, 24, 30, 33, 35] ad0 M Q 33 (fun ad => [(0, .ref (ad (0, 0, 0))), (1, .int 0)]) (fun ad => []) ρ9)))))))) : Y G [23, 24, 30, 33, 35] ad0 M Q 0 (fun ad => [(0, .ref (ad (0, 0, 0)))]) (fun ad => []) ρ := by
  intro ad h hSt V
  show X G M Q 0 [(0, .ref (ad (0, 0, 0)))] [] h
  refine x_aload_n hM d_WP_needed_0 rfl 0 rfl ?_
  refine y_getr hG hM V ck_WP 0 (Nat.le_of_ble_eq_true rfl) rfl rfl w_402 rfl d_WP_needed_1 (0, 0, 0) (1, 0, 0) rfl rfl rfl ?_
  refine x_callV hG hM (r' := r_Wo_prepare) (ci := 1) [] rfl rfl (Nat.le_of_ble_eq_true rfl) yk_Wo_prepare ⟨Nat.le_of_ble_eq_true rfl, Nat.le_of_ble_eq_true rfl⟩ w_577 w_578 w_579 rfl rfl (Nat.le_of_ble_eq_true rfl) d_WP_needed_4 (by rw [vT V rfl]; rfl) (sem_mono (F _ _ V) ?_)
  intro u2 h F
  obtain ⟨ad4, ρ1, V, hs3, F⟩ := F
  obtain ⟨rfl, F⟩ := F
  have ea0 : ad4 (0, 0, 0) = ad (0, 0, 0) := hs3 _ (Or.inr rfl)
  rw [← ea0]
  replace hSt := St_tr hSt (St_mono (mv' := [23, 24, 30]) (by decide) hs3)
  refine x_aload_n hM d_WP_needed_7 rfl 0 rfl ?_
  refine x_callV hG hM (r' := r_WP_findAim) (ci := 0) [] rfl rfl (Nat.le_of_ble_eq_true rfl) yk_WP_findAim ⟨Nat.le_of_ble_eq_true rfl, Nat.le_of_ble_eq_true rfl⟩ w_638 w_640 ws_WP_findAim rfl rfl (Nat.le_of_ble_eq_true rfl) d_WP_needed_8 (by rw [vT V rfl]; rfl) (sem_mono (F _ _ V) ?_)
  intro u6 h F
  obtain ⟨ad8, ρ5, V, hs7, F⟩ := F
  obtain ⟨rfl, F⟩ := F
  have ea0 : ad8 (0, 0, 0) = ad4 (0, 0, 0) := hs7 _ (Or.inr rfl)
  rw [← ea0]
  replace hSt := St_tr hSt (St_mono (mv' := [33]) (by decide) hs7)
  refine x_aload_n hM d_WP_needed_11 rfl 0 rfl ?_
  refine y_getl hG hM V ck_WP 10 (Nat.le_of_ble_eq_true rfl) rfl rfl w_412 rfl d_WP_needed_12 (0, 0, 0) rfl rfl ?_
  refine x_aload_n hM d_WP_needed_15 rfl 0 rfl ?_
  refine y_getr hG hM V ck_WP 3 (Nat.le_of_ble_eq_true rfl) rfl rfl w_405 rfl d_WP_needed_16 (0, 0, 0) (4, 0, 0) rfl rfl rfl ?_
  refine y_getl hG hM V ck_Ch 0 (Nat.le_of_ble_eq_true rfl) rfl rfl w_234 rfl d_WP_needed_19 (4, 0, 0) rfl rfl ?_
  refine x_lcmp hM d_WP_needed_22 ?_
  refine x_if_ge (tgt := 101) hM d_WP_needed_23 (by decide) (fun q10 => ?_) (fun q10 => ?_)
  · replace F := F.1 q10
    refine x_aload_n hM d_WP_needed_101 rfl 0 rfl ?_
    refine y_geti hG hM V ck_WP 9 (Nat.le_of_ble_eq_true rfl) rfl rfl w_411 rfl d_WP_needed_102 (0, 0, 0) rfl rfl ?_
    exact x_ireturn hM d_WP_needed_105 rfl (y_end V hSt (F _))
  · replace F := F.2 q10
    refine x_aload_n hM d_WP_needed_26 rfl 0 rfl ?_
    refine x_iconst (v := 0) hM d_WP_needed_27 (by decide) ?_
    obtain ⟨ρ9, eρ9⟩ : ∃ z : Rs, z = pI ρ5 (0, 0, 0) 9 0 := ⟨_, rfl⟩
    replace F := F ρ9 eρ9
    refine y_puti hG hM V ck_WP 9 (Nat.le_of_ble_eq_true rfl) rfl rfl w_411 rfl d_WP_needed_28 rfl (0, 0, 0) rfl rfl (fun h V => ?_)
    rw [← eρ9] at V
    clear eρ9
    refine x_iconst (v := 0) hM d_WP_needed_31 (by decide) ?_
    refine x_istore_n (lv2 := [(1, .int 0), (0, .ref (ad8 (0, 0, 0)))]) hM d_WP_needed_32 rfl (Nat.le_of_ble_eq_true rfl) rfl ?_
    refine x_sub [1, 0] rfl ?_
    exact F _ _ hSt V
set_option maxRecDepth 100000 in
set_option maxHeartbeats 4000000 in
theorem T_WP_needed_33 {G : Gc} {M : Mc} {Q : State → Prop} {ad0 : Ro → Nat} {K : (Ro → Nat) → Option Value → Rs → Prop} (hG : gok G) (hM : mok G M r_WP_needed Q (KV G [23, 24, 30, 33, 35] ad0 K)) (v1 : Int32) (ρ : Rs) (F : ((iR ρ (1, 0, 0) 2) ≤ v1 → (∀ ρ1 : Rs, ρ1 = pL ρ (0, 0, 0) 10 (lR ρ (4, 0, 0) 0) → (∀ ad, K ad (some (.int (iR ρ1 (0, 0, 0) 9))) ρ1))) ∧ (¬ (iR ρ (1, 0, 0) 2) ≤ v1 → (semV G r_Se_wins [35] (fun ad => [.ref (ad (8, 0, 0)), .ref (ad (1, 0, 0)), .ref (ad (33, 0, 0)), .int (iR ρ (0, 0, 0) 8), .int v1, .int (-1), .int (-1)]) ρ (fun ad u3 ρ2 => ∃ x5 : Int32, u3 = some (.int x5) ∧ ((x5 = 0 → (∀ ρ7 : Rs, ρ7 = pI ρ2 (0, 0, 0) 9 ((iR ρ2 (0, 0, 0) 9) ||| (1 <<< (v1 &&& 31))) → (Y G [23, 24, 30, 33, 35] ad0 M Q 33 (fun ad => [(0, .ref (ad (0, 0, 0))), (1, .int (v1 + 1))]) (fun ad => []) ρ7))) ∧ (¬ x5 = 0 → (Y G [23, 24, 30, 33, 35] ad0 M Q 33 (fun ad => [(0, .ref (ad (0, 0, 0))), (1, .int (v1 + 1))]) (fun ad => []) ρ2))))))) : Y G [23, 24, 30, 33, 35] ad0 M Q 33 (fun ad => [(0, .ref (ad (0, 0, 0))), (1, .int v1)]) (fun ad => []) ρ := by
  intro ad h hSt V
  show X G M Q 33 [(0, .ref (ad (0, 0, 0))), (1, .int v1)] [] h
  refine x_iload_n hM d_WP_needed_33 rfl 1 rfl ?_
  refine x_aload_n hM d_WP_needed_34 rfl 0 rfl ?_
  refine y_getr hG hM V ck_WP 0 (Nat.le_of_ble_eq_true rfl) rfl rfl w_402 rfl d_WP_needed_35 (0, 0, 0) (1, 0, 0) rfl rfl rfl ?_
  refine y_geti hG hM V ck_Wo 2 (Nat.le_of_ble_eq_true rfl) rfl rfl w_136 rfl d_WP_needed_38 (1, 0, 0) rfl rfl ?_
  refine x_icmp_ge (tgt := 90) hM d_WP_needed_41 (by decide) (fun q9 => ?_) (fun q9 => ?_)
  · replace F := F.1 q9
    refine x_aload_n hM d_WP_needed_90 rfl 0 rfl ?_
    refine x_aload_n hM d_WP_needed_91 rfl 0 rfl ?_
    refine y_getr hG hM V ck_WP 3 (Nat.le_of_ble_eq_true rfl) rfl rfl w_405 rfl d_WP_needed_92 (0, 0, 0) (4, 0, 0) rfl rfl rfl ?_
    refine y_getl hG hM V ck_Ch 0 (Nat.le_of_ble_eq_true rfl) rfl rfl w_234 rfl d_WP_needed_95 (4, 0, 0) rfl rfl ?_
    obtain ⟨ρ1, eρ1⟩ : ∃ z : Rs, z = pL ρ (0, 0, 0) 10 (lR ρ (4, 0, 0) 0) := ⟨_, rfl⟩
    replace F := F ρ1 eρ1
    refine y_putl hG hM V ck_WP 10 (Nat.le_of_ble_eq_true rfl) rfl rfl w_412 rfl d_WP_needed_98 rfl (0, 0, 0) rfl rfl (fun h V => ?_)
    rw [← eρ1] at V
    clear eρ1
    refine x_aload_n hM d_WP_needed_101 rfl 0 rfl ?_
    refine y_geti hG hM V ck_WP 9 (Nat.le_of_ble_eq_true rfl) rfl rfl w_411 rfl d_WP_needed_102 (0, 0, 0) rfl rfl ?_
    exact x_ireturn hM d_WP_needed_105 rfl (y_end V hSt (F _))
  · replace F := F.2 q9
    refine x_aload_n hM d_WP_needed_44 rfl 0 rfl ?_
    refine y_getr hG hM V ck_WP 7 (Nat.le_of_ble_eq_true rfl) rfl rfl w_409 rfl d_WP_needed_45 (0, 0, 0) (8, 0, 0) rfl rfl rfl ?_
    refine x_aload_n hM d_WP_needed_48 rfl 0 rfl ?_
    refine y_getr hG hM V ck_WP 0 (Nat.le_of_ble_eq_true rfl) rfl rfl w_402 rfl d_WP_needed_49 (0, 0, 0) (1, 0, 0) rfl rfl rfl ?_
    refine x_aload_n hM d_WP_needed_52 rfl 0 rfl ?_
    refine y_getr hG hM V ck_WP 5 (Nat.le_of_ble_eq_true rfl) rfl rfl w_407 rfl d_WP_needed_53 (0, 0, 0) (6, 0, 0) rfl rfl rfl ?_
    refine y_getr hG hM V ck_Wi 0 (Nat.le_of_ble_eq_true rfl) rfl rfl w_284 rfl d_WP_needed_56 (6, 0, 0) (33, 0, 0) rfl rfl rfl ?_
    refine x_aload_n hM d_WP_needed_59 rfl 0 rfl ?_
    refine y_geti hG hM V ck_WP 8 (Nat.le_of_ble_eq_true rfl) rfl rfl w_410 rfl d_WP_needed_60 (0, 0, 0) rfl rfl ?_
    refine x_iload_n hM d_WP_needed_63 rfl 1 rfl ?_
    refine x_iconst (v := (-1)) hM d_WP_needed_64 (by decide) ?_
    refine x_iconst (v := (-1)) hM d_WP_needed_65 (by decide) ?_
    refine x_callV hG hM (r' := r_Se_wins) (ci := 10) [.ref (ad (1, 0, 0)), .ref (ad (33, 0, 0)), .int (iR ρ (0, 0, 0) 8), .int v1, .int (-1), .int (-1)] rfl rfl (Nat.le_of_ble_eq_true rfl) yk_Se_wins ⟨Nat.le_of_ble_eq_true rfl, Nat.le_of_ble_eq_true rfl⟩ w_813 w_814 w_815 rfl rfl (Nat.le_of_ble_eq_true rfl) d_WP_needed_66 (by rw [vT V rfl]; rfl) (sem_mono (F _ _ V) ?_)
    intro u3 h F
    obtain ⟨ad6, ρ2, V, hs4, F⟩ := F
    obtain ⟨x5, rfl, F⟩ := F
    have ea0 : ad6 (0, 0, 0) = ad (0, 0, 0) := hs4 _ (Or.inr rfl)
    rw [← ea0]
    replace hSt := St_tr hSt (St_mono (mv' := [35]) (by decide) hs4)
    refine x_if_ne (tgt := 84) hM d_WP_needed_69 (by decide) (fun q8 => ?_) (fun q8 => ?_)
    · replace F := F.2 q8
      refine x_iinc (v := (v1 + 1)) (lv2 := [(1, .int (v1 + 1)), (0, .ref (ad6 (0, 0, 0)))]) hM d_WP_needed_84 (j := 1) rfl rfl (Nat.le_of_ble_eq_true rfl) rfl ?_
      refine x_goto (tgt := 33) hM d_WP_needed_87 (by decide) ?_
      refine x_sub [1, 0] rfl ?_
      exact F _ _ hSt V
    · replace F := F.1 q8
      refine x_aload_n hM d_WP_needed_72 rfl 0 rfl ?_
      refine x_dup hM d_WP_needed_73 rfl ?_
      refine y_geti hG hM V ck_WP 9 (Nat.le_of_ble_eq_true rfl) rfl rfl w_411 rfl d_WP_needed_74 (0, 0, 0) rfl rfl ?_
      refine x_iconst (v := 1) hM d_WP_needed_77 (by decide) ?_
      refine x_iload_n hM d_WP_needed_78 rfl 1 rfl ?_
      refine x_ishl hM d_WP_needed_79 ?_
      refine x_ior hM d_WP_needed_80 ?_
      obtain ⟨ρ7, eρ7⟩ : ∃ z : Rs, z = pI ρ2 (0, 0, 0) 9 ((iR ρ2 (0, 0, 0) 9) ||| (1 <<< (v1 &&& 31))) := ⟨_, rfl⟩
      replace F := F ρ7 eρ7
      refine y_puti hG hM V ck_WP 9 (Nat.le_of_ble_eq_true rfl) rfl rfl w_411 rfl d_WP_needed_81 rfl (0, 0, 0) rfl rfl (fun h V => ?_)
      rw [← eρ7] at V
      clear eρ7
      refine x_iinc (v := (v1 + 1)) (lv2 := [(1, .int (v1 + 1)), (0, .ref (ad6 (0, 0, 0)))]) hM d_WP_needed_84 (j := 1) rfl rfl (Nat.le_of_ble_eq_true rfl) rfl ?_
      refine x_goto (tgt := 33) hM d_WP_needed_87 (by decide) ?_
      refine x_sub [1, 0] rfl ?_
      exact F _ _ hSt V
set_option maxRecDepth 100000 in
set_option maxHeartbeats 4000000 in
theorem T_WP_fact_0 {G : Gc} {M : Mc} {Q : State → Prop} {ad0 : Ro → Nat} {K : (Ro → Nat) → Option Value → Rs → Prop} (hG : gok G) (hM : mok G M r_WP_fact Q (KV G [23, 24, 30, 33, 35] ad0 K)) (v1 : Int32) (v2 : Int32) (ρ : Rs) (F : semV G r_Wo_isThing [] (fun ad => [.ref (ad (1, 0, 0)), .int v1]) ρ (fun ad u2 ρ1 => ∃ x4 : Int32, u2 = some (.int x4) ∧ ((x4 = 0 → (∀ ad, K ad (some (.int (-2))) ρ1)) ∧ (¬ x4 = 0 → ((v2 < 0 → (∀ ad, K ad (some (.int (-2))) ρ1)) ∧ (¬ v2 < 0 → (vp_in v1 8 ∧ ((v2 < (iR ρ1 (30, 3, 0) (Int32.toNatClampNeg v1)) → (semV G r_Wo_prepare [23, 24, 30] (fun ad => [.ref (ad (1, 0, 0))]) ρ1 (fun ad u7 ρ6 => u7 = none ∧ (semV G r_WP_findAim [33] (fun ad => [.ref (ad (0, 0, 0))]) ρ6 (fun ad u11 ρ10 => u11 = none ∧ (semV G r_Se_wins [35] (fun ad => [.ref (ad (8, 0, 0)), .ref (ad (1, 0, 0)), .ref (ad (33, 0, 0)), .int (iR ρ10 (0, 0, 0) 8), .int (-1), .int v1, .int v2]) ρ10 (fun ad u15 ρ14 => ∃ x17 : Int32, u15 = some (.int x17) ∧ (∀ z19 : Int32, z19 = (if x17 = 0 then 1 else 0) → (∀ ad, K ad (some (.int z19)) ρ14))))))))) ∧ (¬ v2 < (iR ρ1 (30, 3, 0) (Int32.toNatClampNeg v1)) → (∀ ad, K ad (some (.int (-2))) ρ1)))))))))) : Y G [23, 24, 30, 33, 35] ad0 M Q 0 (fun ad => [(0, .ref (ad (0, 0, 0))), (1, .int v1), (2, .int v2)]) (fun ad => []) ρ := by
  intro ad h hSt V
  show X G M Q 0 [(0, .ref (ad (0, 0, 0))), (1, .int v1), (2, .int v2)] [] h
  refine x_aload_n hM d_WP_fact_0 rfl 0 rfl ?_
  refine y_getr hG hM V ck_WP 0 (Nat.le_of_ble_eq_true rfl) rfl rfl w_402 rfl d_WP_fact_1 (0, 0, 0) (1, 0, 0) rfl rfl rfl ?_
  refine x_iload_n hM d_WP_fact_4 rfl 1 rfl ?_
  refine x_callV hG hM (r' := r_Wo_isThing) (ci := 1) [.int v1] rfl rfl (Nat.le_of_ble_eq_true rfl) yk_Wo_isThing ⟨Nat.le_of_ble_eq_true rfl, Nat.le_of_ble_eq_true rfl⟩ w_833 w_505 w_506 rfl rfl (Nat.le_of_ble_eq_true rfl) d_WP_fact_5 (by rw [vT V rfl]; rfl) (sem_mono (F _ _ V) ?_)
  intro u2 h F
  obtain ⟨ad24, ρ1, V, hs3, F⟩ := F
  obtain ⟨x4, rfl, F⟩ := F
  have hs3 := (St_eq hs3).symm
  subst hs3
  refine x_if_eq (tgt := 28) hM d_WP_fact_8 (by decide) (fun q23 => ?_) (fun q23 => ?_)
  · replace F := F.1 q23
    refine x_bipush (v := (-2)) hM d_WP_fact_28 (by decide) ?_
    exact x_ireturn hM d_WP_fact_30 rfl (y_end V hSt (F _))
  · replace F := F.2 q23
    refine x_iload_n hM d_WP_fact_11 rfl 2 rfl ?_
    refine x_if_lt (tgt := 28) hM d_WP_fact_12 (by decide) (fun q22 => ?_) (fun q22 => ?_)
    · replace F := F.1 q22
      refine x_bipush (v := (-2)) hM d_WP_fact_28 (by decide) ?_
      exact x_ireturn hM d_WP_fact_30 rfl (y_end V hSt (F _))
    · replace F := F.2 q22
      refine x_iload_n hM d_WP_fact_15 rfl 2 rfl ?_
      refine x_aload_n hM d_WP_fact_16 rfl 0 rfl ?_
      refine y_getr hG hM V ck_WP 0 (Nat.le_of_ble_eq_true rfl) rfl rfl w_402 rfl d_WP_fact_17 (0, 0, 0) (1, 0, 0) rfl rfl rfl ?_
      refine y_getr hG hM V ck_Wo 3 (Nat.le_of_ble_eq_true rfl) rfl rfl w_141 rfl d_WP_fact_20 (1, 0, 0) (30, 3, 0) rfl rfl rfl ?_
      refine x_iload_n hM d_WP_fact_23 rfl 1 rfl ?_
      obtain ⟨c5, F⟩ := F
      refine y_iaload hG hM V d_WP_fact_24 (30, 3, 0) rfl rfl (by rw [vlen V (r := (30, 3, 0)) rfl rfl]; exact c5) ?_
      refine x_icmp_lt (tgt := 31) hM d_WP_fact_25 (by decide) (fun q21 => ?_) (fun q21 => ?_)
      · replace F := F.1 q21
        refine x_aload_n hM d_WP_fact_31 rfl 0 rfl ?_
        refine y_getr hG hM V ck_WP 0 (Nat.le_of_ble_eq_true rfl) rfl rfl w_402 rfl d_WP_fact_32 (0, 0, 0) (1, 0, 0) rfl rfl rfl ?_
        refine x_callV hG hM (r' := r_Wo_prepare) (ci := 1) [] rfl rfl (Nat.le_of_ble_eq_true rfl) yk_Wo_prepare ⟨Nat.le_of_ble_eq_true rfl, Nat.le_of_ble_eq_true rfl⟩ w_577 w_578 w_579 rfl rfl (Nat.le_of_ble_eq_true rfl) d_WP_fact_35 (by rw [vT V rfl]; rfl) (sem_mono (F _ _ V) ?_)
        intro u7 h F
        obtain ⟨ad9, ρ6, V, hs8, F⟩ := F
        obtain ⟨rfl, F⟩ := F
        have ea0 : ad9 (0, 0, 0) = ad (0, 0, 0) := hs8 _ (Or.inr rfl)
        rw [← ea0]
        replace hSt := St_tr hSt (St_mono (mv' := [23, 24, 30]) (by decide) hs8)
        refine x_aload_n hM d_WP_fact_38 rfl 0 rfl ?_
        refine x_callV hG hM (r' := r_WP_findAim) (ci := 0) [] rfl rfl (Nat.le_of_ble_eq_true rfl) yk_WP_findAim ⟨Nat.le_of_ble_eq_true rfl, Nat.le_of_ble_eq_true rfl⟩ w_638 w_640 ws_WP_findAim rfl rfl (Nat.le_of_ble_eq_true rfl) d_WP_fact_39 (by rw [vT V rfl]; rfl) (sem_mono (F _ _ V) ?_)
        intro u11 h F
        obtain ⟨ad13, ρ10, V, hs12, F⟩ := F
        obtain ⟨rfl, F⟩ := F
        have ea0 : ad13 (0, 0, 0) = ad9 (0, 0, 0) := hs12 _ (Or.inr rfl)
        rw [← ea0]
        replace hSt := St_tr hSt (St_mono (mv' := [33]) (by decide) hs12)
        refine x_aload_n hM d_WP_fact_42 rfl 0 rfl ?_
        refine y_getr hG hM V ck_WP 7 (Nat.le_of_ble_eq_true rfl) rfl rfl w_409 rfl d_WP_fact_43 (0, 0, 0) (8, 0, 0) rfl rfl rfl ?_
        refine x_aload_n hM d_WP_fact_46 rfl 0 rfl ?_
        refine y_getr hG hM V ck_WP 0 (Nat.le_of_ble_eq_true rfl) rfl rfl w_402 rfl d_WP_fact_47 (0, 0, 0) (1, 0, 0) rfl rfl rfl ?_
        refine x_aload_n hM d_WP_fact_50 rfl 0 rfl ?_
        refine y_getr hG hM V ck_WP 5 (Nat.le_of_ble_eq_true rfl) rfl rfl w_407 rfl d_WP_fact_51 (0, 0, 0) (6, 0, 0) rfl rfl rfl ?_
        refine y_getr hG hM V ck_Wi 0 (Nat.le_of_ble_eq_true rfl) rfl rfl w_284 rfl d_WP_fact_54 (6, 0, 0) (33, 0, 0) rfl rfl rfl ?_
        refine x_aload_n hM d_WP_fact_57 rfl 0 rfl ?_
        refine y_geti hG hM V ck_WP 8 (Nat.le_of_ble_eq_true rfl) rfl rfl w_410 rfl d_WP_fact_58 (0, 0, 0) rfl rfl ?_
        refine x_iconst (v := (-1)) hM d_WP_fact_61 (by decide) ?_
        refine x_iload_n hM d_WP_fact_62 rfl 1 rfl ?_
        refine x_iload_n hM d_WP_fact_63 rfl 2 rfl ?_
        refine x_callV hG hM (r' := r_Se_wins) (ci := 10) [.ref (ad13 (1, 0, 0)), .ref (ad13 (33, 0, 0)), .int (iR ρ10 (0, 0, 0) 8), .int (-1), .int v1, .int v2] rfl rfl (Nat.le_of_ble_eq_true rfl) yk_Se_wins ⟨Nat.le_of_ble_eq_true rfl, Nat.le_of_ble_eq_true rfl⟩ w_813 w_814 w_815 rfl rfl (Nat.le_of_ble_eq_true rfl) d_WP_fact_64 (by rw [vT V rfl]; rfl) (sem_mono (F _ _ V) ?_)
        intro u15 h F
        obtain ⟨ad18, ρ14, V, hs16, F⟩ := F
        obtain ⟨x17, rfl, F⟩ := F
        have ea0 : ad18 (0, 0, 0) = ad13 (0, 0, 0) := hs16 _ (Or.inr rfl)
        rw [← ea0]
        replace hSt := St_tr hSt (St_mono (mv' := [35]) (by decide) hs16)
        have JJ : ∀ (z19 : Int32) (ez19 : z19 = (if x17 = 0 then 1 else 0)), X G M Q 75 [] [.int z19] h := by
          intro z19 ez19
          replace F := F _ ez19
          exact x_ireturn hM d_WP_fact_75 rfl (y_end V hSt (F _))
        refine x_if_eq (tgt := 74) hM d_WP_fact_67 (by decide) (fun q20 => ?_) (fun q20 => ?_)
        · refine x_iconst (v := 1) hM d_WP_fact_74 (by decide) ?_
          refine x_sub [] rfl ?_
          exact JJ _ (Eq.symm (if_pos q20))
        · refine x_iconst (v := 0) hM d_WP_fact_70 (by decide) ?_
          refine x_goto (tgt := 75) hM d_WP_fact_71 (by decide) ?_
          refine x_sub [] rfl ?_
          exact JJ _ (Eq.symm (if_neg q20))
      · replace F := F.2 q21
        refine x_bipush (v := (-2)) hM d_WP_fact_28 (by decide) ?_
        exact x_ireturn hM d_WP_fact_30 rfl (y_end V hSt (F _))
set_option maxRecDepth 100000 in
set_option maxHeartbeats 4000000 in
theorem T_WP_values_0 {G : Gc} {M : Mc} {Q : State → Prop} {ad0 : Ro → Nat} {K : (Ro → Nat) → Option Value → Rs → Prop} (hG : gok G) (hM : mok G M r_WP_values Q (KV G [23, 24, 30, 32] ad0 K)) (v1 : Int32) (ρ : Rs) (F : semV G r_Wo_isThing [] (fun ad => [.ref (ad (1, 0, 0)), .int v1]) ρ (fun ad u2 ρ1 => ∃ x4 : Int32, u2 = some (.int x4) ∧ ((x4 = 0 → (∀ ad, K ad (some (.int (-2))) ρ1)) ∧ (¬ x4 = 0 → (semV G r_Wo_prepare [23, 24, 30] (fun ad => [.ref (ad (1, 0, 0))]) ρ1 (fun ad u6 ρ5 => u6 = none ∧ (semV G r_WP_findReached [32] (fun ad => [.ref (ad (0, 0, 0))]) ρ5 (fun ad u10 ρ9 => u10 = none ∧ (Y G [23, 24, 30, 32] ad0 M Q 29 (fun ad => [(0, .ref (ad (0, 0, 0))), (1, .int v1), (2, .int 0), (3, .int 0)]) (fun ad => []) ρ9))))))))) : Y G [23, 24, 30, 32] ad0 M Q 0 (fun ad => [(0, .ref (ad (0, 0, 0))), (1, .int v1)]) (fun ad => []) ρ := by
  intro ad h hSt V
  show X G M Q 0 [(0, .ref (ad (0, 0, 0))), (1, .int v1)] [] h
  refine x_aload_n hM d_WP_values_0 rfl 0 rfl ?_
  refine y_getr hG hM V ck_WP 0 (Nat.le_of_ble_eq_true rfl) rfl rfl w_402 rfl d_WP_values_1 (0, 0, 0) (1, 0, 0) rfl rfl rfl ?_
  refine x_iload_n hM d_WP_values_4 rfl 1 rfl ?_
  refine x_callV hG hM (r' := r_Wo_isThing) (ci := 1) [.int v1] rfl rfl (Nat.le_of_ble_eq_true rfl) yk_Wo_isThing ⟨Nat.le_of_ble_eq_true rfl, Nat.le_of_ble_eq_true rfl⟩ w_833 w_505 w_506 rfl rfl (Nat.le_of_ble_eq_true rfl) d_WP_values_5 (by rw [vT V rfl]; rfl) (sem_mono (F _ _ V) ?_)
  intro u2 h F
  obtain ⟨ad14, ρ1, V, hs3, F⟩ := F
  obtain ⟨x4, rfl, F⟩ := F
  have hs3 := (St_eq hs3).symm
  subst hs3
  refine x_if_ne (tgt := 14) hM d_WP_values_8 (by decide) (fun q13 => ?_) (fun q13 => ?_)
  · replace F := F.2 q13
    refine x_aload_n hM d_WP_values_14 rfl 0 rfl ?_
    refine y_getr hG hM V ck_WP 0 (Nat.le_of_ble_eq_true rfl) rfl rfl w_402 rfl d_WP_values_15 (0, 0, 0) (1, 0, 0) rfl rfl rfl ?_
    refine x_callV hG hM (r' := r_Wo_prepare) (ci := 1) [] rfl rfl (Nat.le_of_ble_eq_true rfl) yk_Wo_prepare ⟨Nat.le_of_ble_eq_true rfl, Nat.le_of_ble_eq_true rfl⟩ w_577 w_578 w_579 rfl rfl (Nat.le_of_ble_eq_true rfl) d_WP_values_18 (by rw [vT V rfl]; rfl) (sem_mono (F _ _ V) ?_)
    intro u6 h F
    obtain ⟨ad8, ρ5, V, hs7, F⟩ := F
    obtain ⟨rfl, F⟩ := F
    have ea0 : ad8 (0, 0, 0) = ad (0, 0, 0) := hs7 _ (Or.inr rfl)
    rw [← ea0]
    replace hSt := St_tr hSt (St_mono (mv' := [23, 24, 30]) (by decide) hs7)
    refine x_aload_n hM d_WP_values_21 rfl 0 rfl ?_
    refine x_callV hG hM (r' := r_WP_findReached) (ci := 0) [] rfl rfl (Nat.le_of_ble_eq_true rfl) yk_WP_findReached ⟨Nat.le_of_ble_eq_true rfl, Nat.le_of_ble_eq_true rfl⟩ w_616 w_618 ws_WP_findReached rfl rfl (Nat.le_of_ble_eq_true rfl) d_WP_values_22 (by rw [vT V rfl]; rfl) (sem_mono (F _ _ V) ?_)
    intro u10 h F
    obtain ⟨ad12, ρ9, V, hs11, F⟩ := F
    obtain ⟨rfl, F⟩ := F
    have ea0 : ad12 (0, 0, 0) = ad8 (0, 0, 0) := hs11 _ (Or.inr rfl)
    rw [← ea0]
    replace hSt := St_tr hSt (St_mono (mv' := [32]) (by decide) hs11)
    refine x_iconst (v := 0) hM d_WP_values_25 (by decide) ?_
    refine x_istore_n (lv2 := [(2, .int 0), (0, .ref (ad12 (0, 0, 0))), (1, .int v1)]) hM d_WP_values_26 rfl (Nat.le_of_ble_eq_true rfl) rfl ?_
    refine x_iconst (v := 0) hM d_WP_values_27 (by decide) ?_
    refine x_istore_n (lv2 := [(3, .int 0), (2, .int 0), (0, .ref (ad12 (0, 0, 0))), (1, .int v1)]) hM d_WP_values_28 rfl (Nat.le_of_ble_eq_true rfl) rfl ?_
    refine x_sub [2, 3, 1, 0] rfl ?_
    exact F _ _ hSt V
  · replace F := F.1 q13
    refine x_bipush (v := (-2)) hM d_WP_values_11 (by decide) ?_
    exact x_ireturn hM d_WP_values_13 rfl (y_end V hSt (F _))
set_option maxRecDepth 100000 in
set_option maxHeartbeats 4000000 in
theorem T_WP_values_29 {G : Gc} {M : Mc} {Q : State → Prop} {ad0 : Ro → Nat} {K : (Ro → Nat) → Option Value → Rs → Prop} (hG : gok G) (hM : mok G M r_WP_values Q (KV G [23, 24, 30, 32] ad0 K)) (v1 : Int32) (v2 : Int32) (v3 : Int32) (ρ : Rs) (F : ((iR ρ (1, 0, 0) 1) ≤ v3 → (∀ ad, K ad (some (.int v2)) ρ)) ∧ (¬ (iR ρ (1, 0, 0) 1) ≤ v3 → (vp_in v3 (nR ρ (32, 0, 0)) ∧ (((iR ρ (32, 0, 0) (Int32.toNatClampNeg v3)) = (-1) → (Y G [23, 24, 30, 32] ad0 M Q 29 (fun ad => [(0, .ref (ad (0, 0, 0))), (1, .int v1), (2, .int v2), (3, .int (v3 + 1))]) (fun ad => []) ρ)) ∧ (¬ (iR ρ (32, 0, 0) (Int32.toNatClampNeg v3)) = (-1) → (vp_in v3 (nR ρ (30, 6, 0)) ∧ (semV G r_WP_valueIn [] (fun ad => [.int (iR ρ (30, 6, 0) (Int32.toNatClampNeg v3)), .int v1]) ρ (fun ad u6 ρ5 => ∃ x8 : Int32, u6 = some (.int x8) ∧ (Y G [23, 24, 30, 32] ad0 M Q 29 (fun ad => [(0, .ref (ad (0, 0, 0))), (1, .int v1), (2, .int (v2 ||| (1 <<< (x8 &&& 31)))), (3, .int (v3 + 1))]) (fun ad => []) ρ5))))))))) : Y G [23, 24, 30, 32] ad0 M Q 29 (fun ad => [(0, .ref (ad (0, 0, 0))), (1, .int v1), (2, .int v2), (3, .int v3)]) (fun ad => []) ρ := by
  intro ad h hSt V
  show X G M Q 29 [(0, .ref (ad (0, 0, 0))), (1, .int v1), (2, .int v2), (3, .int v3)] [] h
  refine x_iload_n hM d_WP_values_29 rfl 3 rfl ?_
  refine x_aload_n hM d_WP_values_30 rfl 0 rfl ?_
  refine y_getr hG hM V ck_WP 0 (Nat.le_of_ble_eq_true rfl) rfl rfl w_402 rfl d_WP_values_31 (0, 0, 0) (1, 0, 0) rfl rfl rfl ?_
  refine y_geti hG hM V ck_Wo 1 (Nat.le_of_ble_eq_true rfl) rfl rfl w_132 rfl d_WP_values_34 (1, 0, 0) rfl rfl ?_
  refine x_icmp_ge (tgt := 77) hM d_WP_values_37 (by decide) (fun q11 => ?_) (fun q11 => ?_)
  · replace F := F.1 q11
    refine x_iload_n hM d_WP_values_77 rfl 2 rfl ?_
    exact x_ireturn hM d_WP_values_78 rfl (y_end V hSt (F _))
  · replace F := F.2 q11
    refine x_aload_n hM d_WP_values_40 rfl 0 rfl ?_
    refine y_getr hG hM V ck_WP 4 (Nat.le_of_ble_eq_true rfl) rfl rfl w_406 rfl d_WP_values_41 (0, 0, 0) (5, 0, 0) rfl rfl rfl ?_
    refine y_getr hG hM V ck_Re 0 (Nat.le_of_ble_eq_true rfl) rfl rfl w_257 rfl d_WP_values_44 (5, 0, 0) (32, 0, 0) rfl rfl rfl ?_
    refine x_iload_n hM d_WP_values_47 rfl 3 rfl ?_
    obtain ⟨c2, F⟩ := F
    refine y_iaload hG hM V d_WP_values_48 (32, 0, 0) rfl rfl c2 ?_
    refine x_iconst (v := (-1)) hM d_WP_values_49 (by decide) ?_
    refine x_icmp_eq (tgt := 71) hM d_WP_values_50 (by decide) (fun q10 => ?_) (fun q10 => ?_)
    · replace F := F.1 q10
      refine x_iinc (v := (v3 + 1)) (lv2 := [(3, .int (v3 + 1)), (0, .ref (ad (0, 0, 0))), (1, .int v1), (2, .int v2)]) hM d_WP_values_71 (j := 3) rfl rfl (Nat.le_of_ble_eq_true rfl) rfl ?_
      refine x_goto (tgt := 29) hM d_WP_values_74 (by decide) ?_
      refine x_sub [1, 2, 3, 0] rfl ?_
      exact F _ _ hSt V
    · replace F := F.2 q10
      refine x_iload_n hM d_WP_values_53 rfl 2 rfl ?_
      refine x_iconst (v := 1) hM d_WP_values_54 (by decide) ?_
      refine x_aload_n hM d_WP_values_55 rfl 0 rfl ?_
      refine y_getr hG hM V ck_WP 0 (Nat.le_of_ble_eq_true rfl) rfl rfl w_402 rfl d_WP_values_56 (0, 0, 0) (1, 0, 0) rfl rfl rfl ?_
      refine y_getr hG hM V ck_Wo 6 (Nat.le_of_ble_eq_true rfl) rfl rfl w_155 rfl d_WP_values_59 (1, 0, 0) (30, 6, 0) rfl rfl rfl ?_
      refine x_iload_n hM d_WP_values_62 rfl 3 rfl ?_
      obtain ⟨c4, F⟩ := F
      refine y_iaload hG hM V d_WP_values_63 (30, 6, 0) rfl rfl c4 ?_
      refine x_iload_n hM d_WP_values_64 rfl 1 rfl ?_
      refine x_callS hG hM (r' := r_WP_valueIn) [.int (iR ρ (30, 6, 0) (Int32.toNatClampNeg v3)), .int v1] rfl yk_WP_valueIn ⟨Nat.le_of_ble_eq_true rfl, Nat.le_of_ble_eq_true rfl⟩ w_838 w_558 rfl rfl (Nat.le_of_ble_eq_true rfl) d_WP_values_65 (sem_mono (F _ _ V) ?_)
      intro u6 h F
      obtain ⟨ad9, ρ5, V, hs7, F⟩ := F
      obtain ⟨x8, rfl, F⟩ := F
      have hs7 := (St_eq hs7).symm
      subst hs7
      refine x_ishl hM d_WP_values_68 ?_
      refine x_ior hM d_WP_values_69 ?_
      refine x_istore_n (lv2 := [(2, .int (v2 ||| (1 <<< (x8 &&& 31)))), (0, .ref (ad (0, 0, 0))), (1, .int v1), (3, .int v3)]) hM d_WP_values_70 rfl (Nat.le_of_ble_eq_true rfl) rfl ?_
      refine x_iinc (v := (v3 + 1)) (lv2 := [(3, .int (v3 + 1)), (2, .int (v2 ||| (1 <<< (x8 &&& 31)))), (0, .ref (ad (0, 0, 0))), (1, .int v1)]) hM d_WP_values_71 (j := 3) rfl rfl (Nat.le_of_ble_eq_true rfl) rfl ?_
      refine x_goto (tgt := 29) hM d_WP_values_74 (by decide) ?_
      refine x_sub [2, 3, 1, 0] rfl ?_
      exact F _ _ hSt V
set_option maxRecDepth 100000 in
set_option maxHeartbeats 4000000 in
theorem T_WP_cover_0 {G : Gc} {M : Mc} {Q : State → Prop} {ad0 : Ro → Nat} {K : (Ro → Nat) → Option Value → Rs → Prop} (hG : gok G) (hM : mok G M r_WP_cover Q (KV G [] ad0 K))  (ρ : Rs) (F : semV G r_Co_addPart [] (fun ad => [.ref (ad (3, 0, 0))]) ρ (fun ad u2 ρ1 => ∃ x4 : Int32, u2 = some (.int x4) ∧ ((x4 = (-3) → (∀ ad, K ad (some (.int x4)) ρ1)) ∧ (¬ x4 = (-3) → (semV G r_Ch_inCover [] (fun ad => [.ref (ad (4, 0, 0))]) ρ1 (fun ad u6 ρ5 => u6 = none ∧ (∀ ad, K ad (some (.int x4)) ρ5))))))) : Y G [] ad0 M Q 0 (fun ad => [(0, .ref (ad (0, 0, 0)))]) (fun ad => []) ρ := by
  intro ad h hSt V
  show X G M Q 0 [(0, .ref (ad (0, 0, 0)))] [] h
  refine x_aload_n hM d_WP_cover_0 rfl 0 rfl ?_
  refine y_getr hG hM V ck_WP 2 (Nat.le_of_ble_eq_true rfl) rfl rfl w_404 rfl d_WP_cover_1 (0, 0, 0) (3, 0, 0) rfl rfl rfl ?_
  refine x_callV hG hM (r' := r_Co_addPart) (ci := 5) [] rfl rfl (Nat.le_of_ble_eq_true rfl) yk_Co_addPart ⟨Nat.le_of_ble_eq_true rfl, Nat.le_of_ble_eq_true rfl⟩ w_843 w_844 w_845 rfl rfl (Nat.le_of_ble_eq_true rfl) d_WP_cover_4 (by rw [vT V rfl]; rfl) (sem_mono (F _ _ V) ?_)
  intro u2 h F
  obtain ⟨ad10, ρ1, V, hs3, F⟩ := F
  obtain ⟨x4, rfl, F⟩ := F
  have hs3 := (St_eq hs3).symm
  subst hs3
  refine x_istore_n (lv2 := [(1, .int x4), (0, .ref (ad (0, 0, 0)))]) hM d_WP_cover_7 rfl (Nat.le_of_ble_eq_true rfl) rfl ?_
  refine x_iload_n hM d_WP_cover_8 rfl 0 rfl ?_
  refine x_bipush (v := (-3)) hM d_WP_cover_9 (by decide) ?_
  refine x_icmp_eq (tgt := 21) hM d_WP_cover_11 (by decide) (fun q9 => ?_) (fun q9 => ?_)
  · replace F := F.1 q9
    refine x_iload_n hM d_WP_cover_21 rfl 0 rfl ?_
    exact x_ireturn hM d_WP_cover_22 rfl (y_end V hSt (F _))
  · replace F := F.2 q9
    refine x_aload_n hM d_WP_cover_14 rfl 1 rfl ?_
    refine y_getr hG hM V ck_WP 3 (Nat.le_of_ble_eq_true rfl) rfl rfl w_405 rfl d_WP_cover_15 (0, 0, 0) (4, 0, 0) rfl rfl rfl ?_
    refine x_callV hG hM (r' := r_Ch_inCover) (ci := 6) [] rfl rfl (Nat.le_of_ble_eq_true rfl) yk_Ch_inCover ⟨Nat.le_of_ble_eq_true rfl, Nat.le_of_ble_eq_true rfl⟩ w_847 w_848 w_849 rfl rfl (Nat.le_of_ble_eq_true rfl) d_WP_cover_18 (by rw [vT V rfl]; rfl) (sem_mono (F _ _ V) ?_)
    intro u6 h F
    obtain ⟨ad8, ρ5, V, hs7, F⟩ := F
    obtain ⟨rfl, F⟩ := F
    have hs7 := (St_eq hs7).symm
    subst hs7
    refine x_iload_n hM d_WP_cover_21 rfl 0 rfl ?_
    exact x_ireturn hM d_WP_cover_22 rfl (y_end V hSt (F _))
set_option maxRecDepth 100000 in
set_option maxHeartbeats 4000000 in
theorem T_WP_part_0 {G : Gc} {M : Mc} {Q : State → Prop} {ad0 : Ro → Nat} {K : (Ro → Nat) → Option Value → Rs → Prop} (hG : gok G) (hM : mok G M r_WP_part Q (KV G [] ad0 K)) (v1 : Int32) (v2 : Int32) (v3 : Int32) (v4 : Int32) (ρ : Rs) (F : (v1 < 0 → (∀ ad, K ad (some (.int (-2))) ρ)) ∧ (¬ v1 < 0 → (((iR ρ (3, 0, 0) 0) ≤ v1 → (∀ ad, K ad (some (.int (-2))) ρ)) ∧ (¬ (iR ρ (3, 0, 0) 0) ≤ v1 → (semV G r_Wo_isCondition [] (fun ad => [.ref (ad (1, 0, 0)), .int v2, .int v3, .int v4]) ρ (fun ad u2 ρ1 => ∃ x4 : Int32, u2 = some (.int x4) ∧ ((x4 = 0 → (∀ ad, K ad (some (.int (-2))) ρ1)) ∧ (¬ x4 = 0 → (vp_in v1 6 ∧ (semV G r_Cl_add [] (fun ad => [.ref (ad (10, 1, (Int32.toNatClampNeg v1))), .int v2, .int v3, .int v4]) ρ1 (fun ad u7 ρ6 => ∃ x9 : Int32, u7 = some (.int x9) ∧ ((x9 = (-3) → (∀ ad, K ad (some (.int x9)) ρ6)) ∧ (¬ x9 = (-3) → (semV G r_Ch_inCover [] (fun ad => [.ref (ad (4, 0, 0))]) ρ6 (fun ad u11 ρ10 => u11 = none ∧ (∀ ad, K ad (some (.int x9)) ρ10)))))))))))))))) : Y G [] ad0 M Q 0 (fun ad => [(0, .ref (ad (0, 0, 0))), (1, .int v1), (2, .int v2), (3, .int v3), (4, .int v4)]) (fun ad => []) ρ := by
  intro ad h hSt V
  show X G M Q 0 [(0, .ref (ad (0, 0, 0))), (1, .int v1), (2, .int v2), (3, .int v3), (4, .int v4)] [] h
  refine x_iload_n hM d_WP_part_0 rfl 1 rfl ?_
  refine x_if_lt (tgt := 29) hM d_WP_part_1 (by decide) (fun q19 => ?_) (fun q19 => ?_)
  · replace F := F.1 q19
    refine x_bipush (v := (-2)) hM d_WP_part_29 (by decide) ?_
    exact x_ireturn hM d_WP_part_31 rfl (y_end V hSt (F _))
  · replace F := F.2 q19
    refine x_iload_n hM d_WP_part_4 rfl 1 rfl ?_
    refine x_aload_n hM d_WP_part_5 rfl 0 rfl ?_
    refine y_getr hG hM V ck_WP 2 (Nat.le_of_ble_eq_true rfl) rfl rfl w_404 rfl d_WP_part_6 (0, 0, 0) (3, 0, 0) rfl rfl rfl ?_
    refine y_geti hG hM V ck_Co 0 (Nat.le_of_ble_eq_true rfl) rfl rfl w_195 rfl d_WP_part_9 (3, 0, 0) rfl rfl ?_
    refine x_icmp_ge (tgt := 29) hM d_WP_part_12 (by decide) (fun q18 => ?_) (fun q18 => ?_)
    · replace F := F.1 q18
      refine x_bipush (v := (-2)) hM d_WP_part_29 (by decide) ?_
      exact x_ireturn hM d_WP_part_31 rfl (y_end V hSt (F _))
    · replace F := F.2 q18
      refine x_aload_n hM d_WP_part_15 rfl 0 rfl ?_
      refine y_getr hG hM V ck_WP 0 (Nat.le_of_ble_eq_true rfl) rfl rfl w_402 rfl d_WP_part_16 (0, 0, 0) (1, 0, 0) rfl rfl rfl ?_
      refine x_iload_n hM d_WP_part_19 rfl 2 rfl ?_
      refine x_iload_n hM d_WP_part_20 rfl 3 rfl ?_
      refine x_iload hM d_WP_part_21 4 rfl ?_
      refine x_callV hG hM (r' := r_Wo_isCondition) (ci := 1) [.int v2, .int v3, .int v4] rfl rfl (Nat.le_of_ble_eq_true rfl) yk_Wo_isCondition ⟨Nat.le_of_ble_eq_true rfl, Nat.le_of_ble_eq_true rfl⟩ w_500 w_501 w_502 rfl rfl (Nat.le_of_ble_eq_true rfl) d_WP_part_23 (by rw [vT V rfl]; rfl) (sem_mono (F _ _ V) ?_)
      intro u2 h F
      obtain ⟨ad17, ρ1, V, hs3, F⟩ := F
      obtain ⟨x4, rfl, F⟩ := F
      have hs3 := (St_eq hs3).symm
      subst hs3
      refine x_if_ne (tgt := 32) hM d_WP_part_26 (by decide) (fun q16 => ?_) (fun q16 => ?_)
      · replace F := F.2 q16
        refine x_aload_n hM d_WP_part_32 rfl 0 rfl ?_
        refine y_getr hG hM V ck_WP 2 (Nat.le_of_ble_eq_true rfl) rfl rfl w_404 rfl d_WP_part_33 (0, 0, 0) (3, 0, 0) rfl rfl rfl ?_
        refine y_getr hG hM V ck_Co 1 (Nat.le_of_ble_eq_true rfl) rfl rfl w_197 rfl d_WP_part_36 (3, 0, 0) (31, 1, 0) rfl rfl rfl ?_
        refine x_iload_n hM d_WP_part_39 rfl 1 rfl ?_
        obtain ⟨c5, F⟩ := F
        refine y_parts hG hM V d_WP_part_40 c5 ?_
        refine x_iload_n hM d_WP_part_41 rfl 2 rfl ?_
        refine x_iload_n hM d_WP_part_42 rfl 3 rfl ?_
        refine x_iload hM d_WP_part_43 4 rfl ?_
        refine x_callV hG hM (r' := r_Cl_add) (ci := 4) [.int v2, .int v3, .int v4] rfl rfl (Nat.le_of_ble_eq_true rfl) yk_Cl_add ⟨Nat.le_of_ble_eq_true rfl, Nat.le_of_ble_eq_true rfl⟩ w_508 w_509 w_510 rfl rfl (Nat.le_of_ble_eq_true rfl) d_WP_part_45 (by rw [vT V (ok_cl (okC_pa (vp_lt c5)))]; rfl) (sem_mono (F _ _ V) ?_)
        intro u7 h F
        obtain ⟨ad15, ρ6, V, hs8, F⟩ := F
        obtain ⟨x9, rfl, F⟩ := F
        have hs8 := (St_eq hs8).symm
        subst hs8
        refine x_istore (lv2 := [(5, .int x9), (0, .ref (ad (0, 0, 0))), (1, .int v1), (2, .int v2), (3, .int v3), (4, .int v4)]) hM d_WP_part_48 (Nat.le_of_ble_eq_true rfl) rfl ?_
        refine x_iload hM d_WP_part_50 0 rfl ?_
        refine x_bipush (v := (-3)) hM d_WP_part_52 (by decide) ?_
        refine x_icmp_eq (tgt := 64) hM d_WP_part_54 (by decide) (fun q14 => ?_) (fun q14 => ?_)
        · replace F := F.1 q14
          refine x_iload hM d_WP_part_64 0 rfl ?_
          exact x_ireturn hM d_WP_part_66 rfl (y_end V hSt (F _))
        · replace F := F.2 q14
          refine x_aload_n hM d_WP_part_57 rfl 1 rfl ?_
          refine y_getr hG hM V ck_WP 3 (Nat.le_of_ble_eq_true rfl) rfl rfl w_405 rfl d_WP_part_58 (0, 0, 0) (4, 0, 0) rfl rfl rfl ?_
          refine x_callV hG hM (r' := r_Ch_inCover) (ci := 6) [] rfl rfl (Nat.le_of_ble_eq_true rfl) yk_Ch_inCover ⟨Nat.le_of_ble_eq_true rfl, Nat.le_of_ble_eq_true rfl⟩ w_847 w_848 w_849 rfl rfl (Nat.le_of_ble_eq_true rfl) d_WP_part_61 (by rw [vT V rfl]; rfl) (sem_mono (F _ _ V) ?_)
          intro u11 h F
          obtain ⟨ad13, ρ10, V, hs12, F⟩ := F
          obtain ⟨rfl, F⟩ := F
          have hs12 := (St_eq hs12).symm
          subst hs12
          refine x_iload hM d_WP_part_64 0 rfl ?_
          exact x_ireturn hM d_WP_part_66 rfl (y_end V hSt (F _))
      · replace F := F.1 q16
        refine x_bipush (v := (-2)) hM d_WP_part_29 (by decide) ?_
        exact x_ireturn hM d_WP_part_31 rfl (y_end V hSt (F _))
set_option maxRecDepth 100000 in
set_option maxHeartbeats 4000000 in
theorem T_WP_bare_0 {G : Gc} {M : Mc} {Q : State → Prop} {ad0 : Ro → Nat} {K : (Ro → Nat) → Option Value → Rs → Prop} (hG : gok G) (hM : mok G M r_WP_bare Q (KV G [] ad0 K))  (ρ : Rs) (F : ∀ ρ1 : Rs, ρ1 = pI ρ (3, 0, 0) 0 0 → (((iR ρ (3, 0, 0) 0) ≤ 0 → (∀ ad, K ad (some (.int (iR ρ (3, 0, 0) 0))) ρ1)) ∧ (¬ (iR ρ (3, 0, 0) 0) ≤ 0 → (semV G r_Ch_inCover [] (fun ad => [.ref (ad (4, 0, 0))]) ρ1 (fun ad u3 ρ2 => u3 = none ∧ (∀ ad, K ad (some (.int (iR ρ (3, 0, 0) 0))) ρ2)))))) : Y G [] ad0 M Q 0 (fun ad => [(0, .ref (ad (0, 0, 0)))]) (fun ad => []) ρ := by
  intro ad h hSt V
  show X G M Q 0 [(0, .ref (ad (0, 0, 0)))] [] h
  refine x_aload_n hM d_WP_bare_0 rfl 0 rfl ?_
  refine y_getr hG hM V ck_WP 2 (Nat.le_of_ble_eq_true rfl) rfl rfl w_404 rfl d_WP_bare_1 (0, 0, 0) (3, 0, 0) rfl rfl rfl ?_
  refine y_geti hG hM V ck_Co 0 (Nat.le_of_ble_eq_true rfl) rfl rfl w_195 rfl d_WP_bare_4 (3, 0, 0) rfl rfl ?_
  refine x_istore_n (lv2 := [(1, .int (iR ρ (3, 0, 0) 0)), (0, .ref (ad (0, 0, 0)))]) hM d_WP_bare_7 rfl (Nat.le_of_ble_eq_true rfl) rfl ?_
  refine x_aload_n hM d_WP_bare_8 rfl 1 rfl ?_
  refine y_getr hG hM V ck_WP 2 (Nat.le_of_ble_eq_true rfl) rfl rfl w_404 rfl d_WP_bare_9 (0, 0, 0) (3, 0, 0) rfl rfl rfl ?_
  refine x_iconst (v := 0) hM d_WP_bare_12 (by decide) ?_
  obtain ⟨ρ1, eρ1⟩ : ∃ z : Rs, z = pI ρ (3, 0, 0) 0 0 := ⟨_, rfl⟩
  replace F := F ρ1 eρ1
  refine y_puti hG hM V ck_Co 0 (Nat.le_of_ble_eq_true rfl) rfl rfl w_195 rfl d_WP_bare_13 rfl (3, 0, 0) rfl rfl (fun h V => ?_)
  rw [← eρ1] at V
  clear eρ1
  refine x_iload_n hM d_WP_bare_16 rfl 0 rfl ?_
  refine x_if_le (tgt := 27) hM d_WP_bare_17 (by decide) (fun q6 => ?_) (fun q6 => ?_)
  · replace F := F.1 q6
    refine x_iload_n hM d_WP_bare_27 rfl 0 rfl ?_
    exact x_ireturn hM d_WP_bare_28 rfl (y_end V hSt (F _))
  · replace F := F.2 q6
    refine x_aload_n hM d_WP_bare_20 rfl 1 rfl ?_
    refine y_getr hG hM V ck_WP 3 (Nat.le_of_ble_eq_true rfl) rfl rfl w_405 rfl d_WP_bare_21 (0, 0, 0) (4, 0, 0) rfl rfl rfl ?_
    refine x_callV hG hM (r' := r_Ch_inCover) (ci := 6) [] rfl rfl (Nat.le_of_ble_eq_true rfl) yk_Ch_inCover ⟨Nat.le_of_ble_eq_true rfl, Nat.le_of_ble_eq_true rfl⟩ w_847 w_848 w_849 rfl rfl (Nat.le_of_ble_eq_true rfl) d_WP_bare_24 (by rw [vT V rfl]; rfl) (sem_mono (F _ _ V) ?_)
    intro u3 h F
    obtain ⟨ad5, ρ2, V, hs4, F⟩ := F
    obtain ⟨rfl, F⟩ := F
    have hs4 := (St_eq hs4).symm
    subst hs4
    refine x_iload_n hM d_WP_bare_27 rfl 0 rfl ?_
    exact x_ireturn hM d_WP_bare_28 rfl (y_end V hSt (F _))
set_option maxRecDepth 100000 in
set_option maxHeartbeats 4000000 in
theorem T_WP_flaw_0 {G : Gc} {M : Mc} {Q : State → Prop} {ad0 : Ro → Nat} {K : (Ro → Nat) → Option Value → Rs → Prop} (hG : gok G) (hM : mok G M r_WP_flaw Q (KV G [23, 24, 30, 31, 33] ad0 K)) (v1 : Int32) (ρ : Rs) (F : (v1 < 0 → (∀ ad, K ad (some (.int (-2))) ρ)) ∧ (¬ v1 < 0 → ((v1 ≤ 3 → (semV G r_Wo_prepare [23, 24, 30] (fun ad => [.ref (ad (1, 0, 0))]) ρ (fun ad u2 ρ1 => u2 = none ∧ (semV G r_WP_findAim [33] (fun ad => [.ref (ad (0, 0, 0))]) ρ1 (fun ad u6 ρ5 => u6 = none ∧ ((0 ≤ (lg_cmp (lR ρ5 (3, 0, 0) 6) (lR ρ5 (4, 0, 0) 0)) → (Y G [23, 24, 30, 31, 33] ad0 M Q 77 (fun ad => [(0, .ref (ad (0, 0, 0))), (1, .int v1)]) (fun ad => []) ρ5)) ∧ (¬ 0 ≤ (lg_cmp (lR ρ5 (3, 0, 0) 6) (lR ρ5 (4, 0, 0) 0)) → (semV G r_Co_judge [31] (fun ad => [.ref (ad (3, 0, 0)), .ref (ad (1, 0, 0)), .ref (ad (33, 0, 0)), .int (iR ρ5 (0, 0, 0) 8)]) ρ5 (fun ad u10 ρ9 => u10 = none ∧ (∀ ρ13 : Rs, ρ13 = pL ρ9 (3, 0, 0) 6 (lR ρ9 (4, 0, 0) 0) → (Y G [23, 24, 30, 31, 33] ad0 M Q 77 (fun ad => [(0, .ref (ad (0, 0, 0))), (1, .int v1)]) (fun ad => []) ρ13))))))))))) ∧ (¬ v1 ≤ 3 → (∀ ad, K ad (some (.int (-2))) ρ))))) : Y G [23, 24, 30, 31, 33] ad0 M Q 0 (fun ad => [(0, .ref (ad (0, 0, 0))), (1, .int v1)]) (fun ad => []) ρ := by
  intro ad h hSt V
  show X G M Q 0 [(0, .ref (ad (0, 0, 0))), (1, .int v1)] [] h
  refine x_iload_n hM d_WP_flaw_0 rfl 1 rfl ?_
  refine x_if_lt (tgt := 9) hM d_WP_flaw_1 (by decide) (fun q16 => ?_) (fun q16 => ?_)
  · replace F := F.1 q16
    refine x_bipush (v := (-2)) hM d_WP_flaw_9 (by decide) ?_
    exact x_ireturn hM d_WP_flaw_11 rfl (y_end V hSt (F _))
  · replace F := F.2 q16
    refine x_iload_n hM d_WP_flaw_4 rfl 1 rfl ?_
    refine x_iconst (v := 3) hM d_WP_flaw_5 (by decide) ?_
    refine x_icmp_le (tgt := 12) hM d_WP_flaw_6 (by decide) (fun q15 => ?_) (fun q15 => ?_)
    · replace F := F.1 q15
      refine x_aload_n hM d_WP_flaw_12 rfl 0 rfl ?_
      refine y_getr hG hM V ck_WP 0 (Nat.le_of_ble_eq_true rfl) rfl rfl w_402 rfl d_WP_flaw_13 (0, 0, 0) (1, 0, 0) rfl rfl rfl ?_
      refine x_callV hG hM (r' := r_Wo_prepare) (ci := 1) [] rfl rfl (Nat.le_of_ble_eq_true rfl) yk_Wo_prepare ⟨Nat.le_of_ble_eq_true rfl, Nat.le_of_ble_eq_true rfl⟩ w_577 w_578 w_579 rfl rfl (Nat.le_of_ble_eq_true rfl) d_WP_flaw_16 (by rw [vT V rfl]; rfl) (sem_mono (F _ _ V) ?_)
      intro u2 h F
      obtain ⟨ad4, ρ1, V, hs3, F⟩ := F
      obtain ⟨rfl, F⟩ := F
      have ea0 : ad4 (0, 0, 0) = ad (0, 0, 0) := hs3 _ (Or.inr rfl)
      rw [← ea0]
      replace hSt := St_tr hSt (St_mono (mv' := [23, 24, 30]) (by decide) hs3)
      refine x_aload_n hM d_WP_flaw_19 rfl 0 rfl ?_
      refine x_callV hG hM (r' := r_WP_findAim) (ci := 0) [] rfl rfl (Nat.le_of_ble_eq_true rfl) yk_WP_findAim ⟨Nat.le_of_ble_eq_true rfl, Nat.le_of_ble_eq_true rfl⟩ w_638 w_640 ws_WP_findAim rfl rfl (Nat.le_of_ble_eq_true rfl) d_WP_flaw_20 (by rw [vT V rfl]; rfl) (sem_mono (F _ _ V) ?_)
      intro u6 h F
      obtain ⟨ad8, ρ5, V, hs7, F⟩ := F
      obtain ⟨rfl, F⟩ := F
      have ea0 : ad8 (0, 0, 0) = ad4 (0, 0, 0) := hs7 _ (Or.inr rfl)
      rw [← ea0]
      replace hSt := St_tr hSt (St_mono (mv' := [33]) (by decide) hs7)
      refine x_aload_n hM d_WP_flaw_23 rfl 0 rfl ?_
      refine y_getr hG hM V ck_WP 2 (Nat.le_of_ble_eq_true rfl) rfl rfl w_404 rfl d_WP_flaw_24 (0, 0, 0) (3, 0, 0) rfl rfl rfl ?_
      refine y_getl hG hM V ck_Co 6 (Nat.le_of_ble_eq_true rfl) rfl rfl w_207 rfl d_WP_flaw_27 (3, 0, 0) rfl rfl ?_
      refine x_aload_n hM d_WP_flaw_30 rfl 0 rfl ?_
      refine y_getr hG hM V ck_WP 3 (Nat.le_of_ble_eq_true rfl) rfl rfl w_405 rfl d_WP_flaw_31 (0, 0, 0) (4, 0, 0) rfl rfl rfl ?_
      refine y_getl hG hM V ck_Ch 0 (Nat.le_of_ble_eq_true rfl) rfl rfl w_234 rfl d_WP_flaw_34 (4, 0, 0) rfl rfl ?_
      refine x_lcmp hM d_WP_flaw_37 ?_
      refine x_if_ge (tgt := 77) hM d_WP_flaw_38 (by decide) (fun q14 => ?_) (fun q14 => ?_)
      · replace F := F.1 q14
        exact F _ _ hSt V
      · replace F := F.2 q14
        refine x_aload_n hM d_WP_flaw_41 rfl 0 rfl ?_
        refine y_getr hG hM V ck_WP 2 (Nat.le_of_ble_eq_true rfl) rfl rfl w_404 rfl d_WP_flaw_42 (0, 0, 0) (3, 0, 0) rfl rfl rfl ?_
        refine x_aload_n hM d_WP_flaw_45 rfl 0 rfl ?_
        refine y_getr hG hM V ck_WP 0 (Nat.le_of_ble_eq_true rfl) rfl rfl w_402 rfl d_WP_flaw_46 (0, 0, 0) (1, 0, 0) rfl rfl rfl ?_
        refine x_aload_n hM d_WP_flaw_49 rfl 0 rfl ?_
        refine y_getr hG hM V ck_WP 5 (Nat.le_of_ble_eq_true rfl) rfl rfl w_407 rfl d_WP_flaw_50 (0, 0, 0) (6, 0, 0) rfl rfl rfl ?_
        refine y_getr hG hM V ck_Wi 0 (Nat.le_of_ble_eq_true rfl) rfl rfl w_284 rfl d_WP_flaw_53 (6, 0, 0) (33, 0, 0) rfl rfl rfl ?_
        refine x_aload_n hM d_WP_flaw_56 rfl 0 rfl ?_
        refine y_geti hG hM V ck_WP 8 (Nat.le_of_ble_eq_true rfl) rfl rfl w_410 rfl d_WP_flaw_57 (0, 0, 0) rfl rfl ?_
        refine x_callV hG hM (r' := r_Co_judge) (ci := 5) [.ref (ad8 (1, 0, 0)), .ref (ad8 (33, 0, 0)), .int (iR ρ5 (0, 0, 0) 8)] rfl rfl (Nat.le_of_ble_eq_true rfl) yk_Co_judge ⟨Nat.le_of_ble_eq_true rfl, Nat.le_of_ble_eq_true rfl⟩ w_863 w_864 w_865 rfl rfl (Nat.le_of_ble_eq_true rfl) d_WP_flaw_60 (by rw [vT V rfl]; rfl) (sem_mono (F _ _ V) ?_)
        intro u10 h F
        obtain ⟨ad12, ρ9, V, hs11, F⟩ := F
        obtain ⟨rfl, F⟩ := F
        have ea0 : ad12 (0, 0, 0) = ad8 (0, 0, 0) := hs11 _ (Or.inr rfl)
        rw [← ea0]
        replace hSt := St_tr hSt (St_mono (mv' := [31]) (by decide) hs11)
        refine x_aload_n hM d_WP_flaw_63 rfl 0 rfl ?_
        refine y_getr hG hM V ck_WP 2 (Nat.le_of_ble_eq_true rfl) rfl rfl w_404 rfl d_WP_flaw_64 (0, 0, 0) (3, 0, 0) rfl rfl rfl ?_
        refine x_aload_n hM d_WP_flaw_67 rfl 0 rfl ?_
        refine y_getr hG hM V ck_WP 3 (Nat.le_of_ble_eq_true rfl) rfl rfl w_405 rfl d_WP_flaw_68 (0, 0, 0) (4, 0, 0) rfl rfl rfl ?_
        refine y_getl hG hM V ck_Ch 0 (Nat.le_of_ble_eq_true rfl) rfl rfl w_234 rfl d_WP_flaw_71 (4, 0, 0) rfl rfl ?_
        obtain ⟨ρ13, eρ13⟩ : ∃ z : Rs, z = pL ρ9 (3, 0, 0) 6 (lR ρ9 (4, 0, 0) 0) := ⟨_, rfl⟩
        replace F := F ρ13 eρ13
        refine y_putl hG hM V ck_Co 6 (Nat.le_of_ble_eq_true rfl) rfl rfl w_207 rfl d_WP_flaw_74 rfl (3, 0, 0) rfl rfl (fun h V => ?_)
        rw [← eρ13] at V
        clear eρ13
        exact F _ _ hSt V
    · replace F := F.2 q15
      refine x_bipush (v := (-2)) hM d_WP_flaw_9 (by decide) ?_
      exact x_ireturn hM d_WP_flaw_11 rfl (y_end V hSt (F _))
set_option maxRecDepth 100000 in
set_option maxHeartbeats 4000000 in
theorem T_WP_flaw_77 {G : Gc} {M : Mc} {Q : State → Prop} {ad0 : Ro → Nat} {K : (Ro → Nat) → Option Value → Rs → Prop} (hG : gok G) (hM : mok G M r_WP_flaw Q (KV G [23, 24, 30, 31, 33] ad0 K)) (v1 : Int32) (ρ : Rs) (F : (v1 = 0 → (∀ ad, K ad (some (.int (iR ρ (3, 0, 0) 2))) ρ)) ∧ (v1 = 1 → (∀ ad, K ad (some (.int (iR ρ (3, 0, 0) 3))) ρ)) ∧ (v1 = 2 → (∀ ad, K ad (some (.int (iR ρ (3, 0, 0) 4))) ρ)) ∧ (¬ v1 = 0 → ¬ v1 = 1 → ¬ v1 = 2 → (∀ ad, K ad (some (.int (iR ρ (3, 0, 0) 5))) ρ))) : Y G [23, 24, 30, 31, 33] ad0 M Q 77 (fun ad => [(0, .ref (ad (0, 0, 0))), (1, .int v1)]) (fun ad => []) ρ := by
  intro ad h hSt V
  show X G M Q 77 [(0, .ref (ad (0, 0, 0))), (1, .int v1)] [] h
  refine x_iload_n hM d_WP_flaw_77 rfl 1 rfl ?_
  by_cases q78_0 : v1 = 0
  · replace F := F.1 q78_0
    refine x_tblIn (tgt := 104) hM d_WP_flaw_78 (by rw [q78_0]; decide) (by rw [q78_0]; decide) (by rw [q78_0]; rfl) (by decide) ?_
    refine x_aload_n hM d_WP_flaw_104 rfl 0 rfl ?_
    refine y_getr hG hM V ck_WP 2 (Nat.le_of_ble_eq_true rfl) rfl rfl w_404 rfl d_WP_flaw_105 (0, 0, 0) (3, 0, 0) rfl rfl rfl ?_
    refine y_geti hG hM V ck_Co 2 (Nat.le_of_ble_eq_true rfl) rfl rfl w_199 rfl d_WP_flaw_108 (3, 0, 0) rfl rfl ?_
    exact x_ireturn hM d_WP_flaw_111 rfl (y_end V hSt (F _))
  by_cases q78_1 : v1 = 1
  · replace F := F.2.1 q78_1
    refine x_tblIn (tgt := 112) hM d_WP_flaw_78 (by rw [q78_1]; decide) (by rw [q78_1]; decide) (by rw [q78_1]; rfl) (by decide) ?_
    refine x_aload_n hM d_WP_flaw_112 rfl 0 rfl ?_
    refine y_getr hG hM V ck_WP 2 (Nat.le_of_ble_eq_true rfl) rfl rfl w_404 rfl d_WP_flaw_113 (0, 0, 0) (3, 0, 0) rfl rfl rfl ?_
    refine y_geti hG hM V ck_Co 3 (Nat.le_of_ble_eq_true rfl) rfl rfl w_201 rfl d_WP_flaw_116 (3, 0, 0) rfl rfl ?_
    exact x_ireturn hM d_WP_flaw_119 rfl (y_end V hSt (F _))
  by_cases q78_2 : v1 = 2
  · replace F := F.2.2.1 q78_2
    refine x_tblIn (tgt := 120) hM d_WP_flaw_78 (by rw [q78_2]; decide) (by rw [q78_2]; decide) (by rw [q78_2]; rfl) (by decide) ?_
    refine x_aload_n hM d_WP_flaw_120 rfl 0 rfl ?_
    refine y_getr hG hM V ck_WP 2 (Nat.le_of_ble_eq_true rfl) rfl rfl w_404 rfl d_WP_flaw_121 (0, 0, 0) (3, 0, 0) rfl rfl rfl ?_
    refine y_geti hG hM V ck_Co 4 (Nat.le_of_ble_eq_true rfl) rfl rfl w_203 rfl d_WP_flaw_124 (3, 0, 0) rfl rfl ?_
    exact x_ireturn hM d_WP_flaw_127 rfl (y_end V hSt (F _))
  replace F := F.2.2.2 q78_0 q78_1 q78_2
  refine x_tblOut (tgt := 128) hM d_WP_flaw_78 (sw_out2 q78_0 q78_1 q78_2) (by decide) ?_
  refine x_aload_n hM d_WP_flaw_128 rfl 0 rfl ?_
  refine y_getr hG hM V ck_WP 2 (Nat.le_of_ble_eq_true rfl) rfl rfl w_404 rfl d_WP_flaw_129 (0, 0, 0) (3, 0, 0) rfl rfl rfl ?_
  refine y_geti hG hM V ck_Co 5 (Nat.le_of_ble_eq_true rfl) rfl rfl w_205 rfl d_WP_flaw_132 (3, 0, 0) rfl rfl ?_
  exact x_ireturn hM d_WP_flaw_135 rfl (y_end V hSt (F _))
