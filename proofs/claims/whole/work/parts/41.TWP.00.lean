set_option maxRecDepth 100000 in
set_option maxHeartbeats 4000000 in
theorem T_WP_clear_0 {G : Gc} {M : Mc} {Q : State → Prop} {ad0 : Ro → Nat} {K : (Ro → Nat) → Option Value → Rs → Prop} (hG : gok G) (hM : mok G M r_WP_clear Q (KV G [] ad0 K))  (ρ : Rs) (F : semV G r_Wo_forget [] (fun ad => [.ref (ad (1, 0, 0))]) ρ (fun ad u2 ρ1 => u2 = none ∧ (∀ ρ4 : Rs, ρ4 = pI ρ1 (10, 0, 0) 0 0 → (∀ ρ5 : Rs, ρ5 = pI ρ4 (3, 0, 0) 0 0 → (∀ ρ6 : Rs, ρ6 = pI ρ5 (0, 0, 0) 8 0 → (semV G r_Ch_inWorld [] (fun ad => [.ref (ad (4, 0, 0))]) ρ6 (fun ad u8 ρ7 => u8 = none ∧ (∀ ad, K ad (some (.int (iR ρ (1, 0, 0) 0))) ρ7)))))))) : Y G [] ad0 M Q 0 (fun ad => [(0, .ref (ad (0, 0, 0)))]) (fun ad => []) ρ := by
  intro ad h hSt V
  show X G M Q 0 [(0, .ref (ad (0, 0, 0)))] [] h
  refine x_aload_n hM d_WP_clear_0 rfl 0 rfl ?_
  refine y_getr hG hM V ck_WP 0 (Nat.le_of_ble_eq_true rfl) rfl rfl w_402 rfl d_WP_clear_1 (0, 0, 0) (1, 0, 0) rfl rfl rfl ?_
  refine y_geti hG hM V ck_Wo 0 (Nat.le_of_ble_eq_true rfl) rfl rfl w_124 rfl d_WP_clear_4 (1, 0, 0) rfl rfl ?_
  refine x_istore_n (lv2 := [(1, .int (iR ρ (1, 0, 0) 0)), (0, .ref (ad (0, 0, 0)))]) hM d_WP_clear_7 rfl (Nat.le_of_ble_eq_true rfl) rfl ?_
  refine x_aload_n hM d_WP_clear_8 rfl 1 rfl ?_
  refine y_getr hG hM V ck_WP 0 (Nat.le_of_ble_eq_true rfl) rfl rfl w_402 rfl d_WP_clear_9 (0, 0, 0) (1, 0, 0) rfl rfl rfl ?_
  refine x_callV hG hM (r' := r_Wo_forget) (ci := 1) [] rfl rfl (Nat.le_of_ble_eq_true rfl) yk_Wo_forget ⟨Nat.le_of_ble_eq_true rfl, Nat.le_of_ble_eq_true rfl⟩ w_440 w_441 w_442 rfl rfl (Nat.le_of_ble_eq_true rfl) d_WP_clear_12 (by rw [vT V rfl]; rfl) (sem_mono (F _ _ V) ?_)
  intro u2 h F
  obtain ⟨ad11, ρ1, V, hs3, F⟩ := F
  obtain ⟨rfl, F⟩ := F
  have hs3 := (St_eq hs3).symm
  subst hs3
  refine x_aload_n hM d_WP_clear_15 rfl 1 rfl ?_
  refine y_getr hG hM V ck_WP 1 (Nat.le_of_ble_eq_true rfl) rfl rfl w_403 rfl d_WP_clear_16 (0, 0, 0) (10, 0, 0) rfl rfl rfl ?_
  refine x_iconst (v := 0) hM d_WP_clear_19 (by decide) ?_
  obtain ⟨ρ4, eρ4⟩ : ∃ z : Rs, z = pI ρ1 (10, 0, 0) 0 0 := ⟨_, rfl⟩
  replace F := F ρ4 eρ4
  refine y_puti hG hM V ck_Cl 0 (Nat.le_of_ble_eq_true rfl) rfl rfl w_45 rfl d_WP_clear_20 rfl (10, 0, 0) (ok_cl okC_0) rfl (fun h V => ?_)
  rw [← eρ4] at V
  clear eρ4
  refine x_aload_n hM d_WP_clear_23 rfl 1 rfl ?_
  refine y_getr hG hM V ck_WP 2 (Nat.le_of_ble_eq_true rfl) rfl rfl w_404 rfl d_WP_clear_24 (0, 0, 0) (3, 0, 0) rfl rfl rfl ?_
  refine x_iconst (v := 0) hM d_WP_clear_27 (by decide) ?_
  obtain ⟨ρ5, eρ5⟩ : ∃ z : Rs, z = pI ρ4 (3, 0, 0) 0 0 := ⟨_, rfl⟩
  replace F := F ρ5 eρ5
  refine y_puti hG hM V ck_Co 0 (Nat.le_of_ble_eq_true rfl) rfl rfl w_195 rfl d_WP_clear_28 rfl (3, 0, 0) rfl rfl (fun h V => ?_)
  rw [← eρ5] at V
  clear eρ5
  refine x_aload_n hM d_WP_clear_31 rfl 1 rfl ?_
  refine x_iconst (v := 0) hM d_WP_clear_32 (by decide) ?_
  obtain ⟨ρ6, eρ6⟩ : ∃ z : Rs, z = pI ρ5 (0, 0, 0) 8 0 := ⟨_, rfl⟩
  replace F := F ρ6 eρ6
  refine y_puti hG hM V ck_WP 8 (Nat.le_of_ble_eq_true rfl) rfl rfl w_410 rfl d_WP_clear_33 rfl (0, 0, 0) rfl rfl (fun h V => ?_)
  rw [← eρ6] at V
  clear eρ6
  refine x_aload_n hM d_WP_clear_36 rfl 1 rfl ?_
  refine y_getr hG hM V ck_WP 3 (Nat.le_of_ble_eq_true rfl) rfl rfl w_405 rfl d_WP_clear_37 (0, 0, 0) (4, 0, 0) rfl rfl rfl ?_
  refine x_callV hG hM (r' := r_Ch_inWorld) (ci := 6) [] rfl rfl (Nat.le_of_ble_eq_true rfl) yk_Ch_inWorld ⟨Nat.le_of_ble_eq_true rfl, Nat.le_of_ble_eq_true rfl⟩ w_444 w_445 w_446 rfl rfl (Nat.le_of_ble_eq_true rfl) d_WP_clear_40 (by rw [vT V rfl]; rfl) (sem_mono (F _ _ V) ?_)
  intro u8 h F
  obtain ⟨ad10, ρ7, V, hs9, F⟩ := F
  obtain ⟨rfl, F⟩ := F
  have hs9 := (St_eq hs9).symm
  subst hs9
  refine x_iload_n hM d_WP_clear_43 rfl 0 rfl ?_
  exact x_ireturn hM d_WP_clear_44 rfl (y_end V hSt (F _))
set_option maxRecDepth 100000 in
set_option maxHeartbeats 4000000 in
theorem T_WP_thing_0 {G : Gc} {M : Mc} {Q : State → Prop} {ad0 : Ro → Nat} {K : (Ro → Nat) → Option Value → Rs → Prop} (hG : gok G) (hM : mok G M r_WP_thing Q (KV G [] ad0 K)) (v1 : Int32) (ρ : Rs) (F : (v1 < 2 → (∀ ad, K ad (some (.int (-2))) ρ)) ∧ (¬ v1 < 2 → ((v1 ≤ 4 → ((0 < (iR ρ (1, 0, 0) 2) → (∀ ad, K ad (some (.int (-2))) ρ)) ∧ (¬ 0 < (iR ρ (1, 0, 0) 2) → ((0 < (iR ρ (10, 0, 0) 0) → (∀ ad, K ad (some (.int (-2))) ρ)) ∧ (¬ 0 < (iR ρ (10, 0, 0) 0) → (((iR ρ (3, 0, 0) 0) ≤ 0 → (semV G r_Wo_addThing [] (fun ad => [.ref (ad (1, 0, 0)), .int v1]) ρ (fun ad u2 ρ1 => ∃ x4 : Int32, u2 = some (.int x4) ∧ ((x4 = (-3) → (∀ ad, K ad (some (.int x4)) ρ1)) ∧ (¬ x4 = (-3) → (semV G r_Ch_inWorld [] (fun ad => [.ref (ad (4, 0, 0))]) ρ1 (fun ad u6 ρ5 => u6 = none ∧ (∀ ad, K ad (some (.int x4)) ρ5)))))))) ∧ (¬ (iR ρ (3, 0, 0) 0) ≤ 0 → (∀ ad, K ad (some (.int (-2))) ρ)))))))) ∧ (¬ v1 ≤ 4 → (∀ ad, K ad (some (.int (-2))) ρ))))) : Y G [] ad0 M Q 0 (fun ad => [(0, .ref (ad (0, 0, 0))), (1, .int v1)]) (fun ad => []) ρ := by
  intro ad h hSt V
  show X G M Q 0 [(0, .ref (ad (0, 0, 0))), (1, .int v1)] [] h
  refine x_iload_n hM d_WP_thing_0 rfl 1 rfl ?_
  refine x_iconst (v := 2) hM d_WP_thing_1 (by decide) ?_
  refine x_icmp_lt (tgt := 10) hM d_WP_thing_2 (by decide) (fun q15 => ?_) (fun q15 => ?_)
  · replace F := F.1 q15
    refine x_bipush (v := (-2)) hM d_WP_thing_10 (by decide) ?_
    exact x_ireturn hM d_WP_thing_12 rfl (y_end V hSt (F _))
  · replace F := F.2 q15
    refine x_iload_n hM d_WP_thing_5 rfl 1 rfl ?_
    refine x_iconst (v := 4) hM d_WP_thing_6 (by decide) ?_
    refine x_icmp_le (tgt := 13) hM d_WP_thing_7 (by decide) (fun q14 => ?_) (fun q14 => ?_)
    · replace F := F.1 q14
      refine x_aload_n hM d_WP_thing_13 rfl 0 rfl ?_
      refine y_getr hG hM V ck_WP 0 (Nat.le_of_ble_eq_true rfl) rfl rfl w_402 rfl d_WP_thing_14 (0, 0, 0) (1, 0, 0) rfl rfl rfl ?_
      refine y_geti hG hM V ck_Wo 2 (Nat.le_of_ble_eq_true rfl) rfl rfl w_136 rfl d_WP_thing_17 (1, 0, 0) rfl rfl ?_
      refine x_if_gt (tgt := 43) hM d_WP_thing_20 (by decide) (fun q13 => ?_) (fun q13 => ?_)
      · replace F := F.1 q13
        refine x_bipush (v := (-2)) hM d_WP_thing_43 (by decide) ?_
        exact x_ireturn hM d_WP_thing_45 rfl (y_end V hSt (F _))
      · replace F := F.2 q13
        refine x_aload_n hM d_WP_thing_23 rfl 0 rfl ?_
        refine y_getr hG hM V ck_WP 1 (Nat.le_of_ble_eq_true rfl) rfl rfl w_403 rfl d_WP_thing_24 (0, 0, 0) (10, 0, 0) rfl rfl rfl ?_
        refine y_geti hG hM V ck_Cl 0 (Nat.le_of_ble_eq_true rfl) rfl rfl w_45 rfl d_WP_thing_27 (10, 0, 0) (ok_cl okC_0) rfl ?_
        refine x_if_gt (tgt := 43) hM d_WP_thing_30 (by decide) (fun q12 => ?_) (fun q12 => ?_)
        · replace F := F.1 q12
          refine x_bipush (v := (-2)) hM d_WP_thing_43 (by decide) ?_
          exact x_ireturn hM d_WP_thing_45 rfl (y_end V hSt (F _))
        · replace F := F.2 q12
          refine x_aload_n hM d_WP_thing_33 rfl 0 rfl ?_
          refine y_getr hG hM V ck_WP 2 (Nat.le_of_ble_eq_true rfl) rfl rfl w_404 rfl d_WP_thing_34 (0, 0, 0) (3, 0, 0) rfl rfl rfl ?_
          refine y_geti hG hM V ck_Co 0 (Nat.le_of_ble_eq_true rfl) rfl rfl w_195 rfl d_WP_thing_37 (3, 0, 0) rfl rfl ?_
          refine x_if_le (tgt := 46) hM d_WP_thing_40 (by decide) (fun q11 => ?_) (fun q11 => ?_)
          · replace F := F.1 q11
            refine x_aload_n hM d_WP_thing_46 rfl 0 rfl ?_
            refine y_getr hG hM V ck_WP 0 (Nat.le_of_ble_eq_true rfl) rfl rfl w_402 rfl d_WP_thing_47 (0, 0, 0) (1, 0, 0) rfl rfl rfl ?_
            refine x_iload_n hM d_WP_thing_50 rfl 1 rfl ?_
            refine x_callV hG hM (r' := r_Wo_addThing) (ci := 1) [.int v1] rfl rfl (Nat.le_of_ble_eq_true rfl) yk_Wo_addThing ⟨Nat.le_of_ble_eq_true rfl, Nat.le_of_ble_eq_true rfl⟩ w_452 w_453 w_454 rfl rfl (Nat.le_of_ble_eq_true rfl) d_WP_thing_51 (by rw [vT V rfl]; rfl) (sem_mono (F _ _ V) ?_)
            intro u2 h F
            obtain ⟨ad10, ρ1, V, hs3, F⟩ := F
            obtain ⟨x4, rfl, F⟩ := F
            have hs3 := (St_eq hs3).symm
            subst hs3
            refine x_istore_n (lv2 := [(2, .int x4), (0, .ref (ad (0, 0, 0))), (1, .int v1)]) hM d_WP_thing_54 rfl (Nat.le_of_ble_eq_true rfl) rfl ?_
            refine x_iload_n hM d_WP_thing_55 rfl 0 rfl ?_
            refine x_bipush (v := (-3)) hM d_WP_thing_56 (by decide) ?_
            refine x_icmp_eq (tgt := 68) hM d_WP_thing_58 (by decide) (fun q9 => ?_) (fun q9 => ?_)
            · replace F := F.1 q9
              refine x_iload_n hM d_WP_thing_68 rfl 0 rfl ?_
              exact x_ireturn hM d_WP_thing_69 rfl (y_end V hSt (F _))
            · replace F := F.2 q9
              refine x_aload_n hM d_WP_thing_61 rfl 1 rfl ?_
              refine y_getr hG hM V ck_WP 3 (Nat.le_of_ble_eq_true rfl) rfl rfl w_405 rfl d_WP_thing_62 (0, 0, 0) (4, 0, 0) rfl rfl rfl ?_
              refine x_callV hG hM (r' := r_Ch_inWorld) (ci := 6) [] rfl rfl (Nat.le_of_ble_eq_true rfl) yk_Ch_inWorld ⟨Nat.le_of_ble_eq_true rfl, Nat.le_of_ble_eq_true rfl⟩ w_444 w_445 w_446 rfl rfl (Nat.le_of_ble_eq_true rfl) d_WP_thing_65 (by rw [vT V rfl]; rfl) (sem_mono (F _ _ V) ?_)
              intro u6 h F
              obtain ⟨ad8, ρ5, V, hs7, F⟩ := F
              obtain ⟨rfl, F⟩ := F
              have hs7 := (St_eq hs7).symm
              subst hs7
              refine x_iload_n hM d_WP_thing_68 rfl 0 rfl ?_
              exact x_ireturn hM d_WP_thing_69 rfl (y_end V hSt (F _))
          · replace F := F.2 q11
            refine x_bipush (v := (-2)) hM d_WP_thing_43 (by decide) ?_
            exact x_ireturn hM d_WP_thing_45 rfl (y_end V hSt (F _))
    · replace F := F.2 q14
      refine x_bipush (v := (-2)) hM d_WP_thing_10 (by decide) ?_
      exact x_ireturn hM d_WP_thing_12 rfl (y_end V hSt (F _))
set_option maxRecDepth 100000 in
set_option maxHeartbeats 4000000 in
theorem T_WP_start_0 {G : Gc} {M : Mc} {Q : State → Prop} {ad0 : Ro → Nat} {K : (Ro → Nat) → Option Value → Rs → Prop} (hG : gok G) (hM : mok G M r_WP_start Q (KV G [] ad0 K)) (v1 : Int32) (ρ : Rs) (F : semV G r_Wo_isState [] (fun ad => [.ref (ad (1, 0, 0)), .int v1]) ρ (fun ad u2 ρ1 => ∃ x4 : Int32, u2 = some (.int x4) ∧ ((x4 = 0 → (∀ ad, K ad (some (.int (-2))) ρ1)) ∧ (¬ x4 = 0 → ((v1 = (iR ρ1 (0, 0, 0) 8) → (∀ ad, K ad (some (.int (iR ρ1 (0, 0, 0) 8))) ρ1)) ∧ (¬ v1 = (iR ρ1 (0, 0, 0) 8) → (∀ ρ5 : Rs, ρ5 = pI ρ1 (0, 0, 0) 8 v1 → (semV G r_Ch_inStart [] (fun ad => [.ref (ad (4, 0, 0))]) ρ5 (fun ad u7 ρ6 => u7 = none ∧ (∀ ad, K ad (some (.int (iR ρ1 (0, 0, 0) 8))) ρ6)))))))))) : Y G [] ad0 M Q 0 (fun ad => [(0, .ref (ad (0, 0, 0))), (1, .int v1)]) (fun ad => []) ρ := by
  intro ad h hSt V
  show X G M Q 0 [(0, .ref (ad (0, 0, 0))), (1, .int v1)] [] h
  refine x_aload_n hM d_WP_start_0 rfl 0 rfl ?_
  refine y_getr hG hM V ck_WP 0 (Nat.le_of_ble_eq_true rfl) rfl rfl w_402 rfl d_WP_start_1 (0, 0, 0) (1, 0, 0) rfl rfl rfl ?_
  refine x_iload_n hM d_WP_start_4 rfl 1 rfl ?_
  refine x_callV hG hM (r' := r_Wo_isState) (ci := 1) [.int v1] rfl rfl (Nat.le_of_ble_eq_true rfl) yk_Wo_isState ⟨Nat.le_of_ble_eq_true rfl, Nat.le_of_ble_eq_true rfl⟩ w_460 w_461 w_462 rfl rfl (Nat.le_of_ble_eq_true rfl) d_WP_start_5 (by rw [vT V rfl]; rfl) (sem_mono (F _ _ V) ?_)
  intro u2 h F
  obtain ⟨ad12, ρ1, V, hs3, F⟩ := F
  obtain ⟨x4, rfl, F⟩ := F
  have hs3 := (St_eq hs3).symm
  subst hs3
  refine x_if_ne (tgt := 14) hM d_WP_start_8 (by decide) (fun q11 => ?_) (fun q11 => ?_)
  · replace F := F.2 q11
    refine x_aload_n hM d_WP_start_14 rfl 0 rfl ?_
    refine y_geti hG hM V ck_WP 8 (Nat.le_of_ble_eq_true rfl) rfl rfl w_410 rfl d_WP_start_15 (0, 0, 0) rfl rfl ?_
    refine x_istore_n (lv2 := [(2, .int (iR ρ1 (0, 0, 0) 8)), (0, .ref (ad (0, 0, 0))), (1, .int v1)]) hM d_WP_start_18 rfl (Nat.le_of_ble_eq_true rfl) rfl ?_
    refine x_iload_n hM d_WP_start_19 rfl 2 rfl ?_
    refine x_iload_n hM d_WP_start_20 rfl 0 rfl ?_
    refine x_icmp_eq (tgt := 36) hM d_WP_start_21 (by decide) (fun q10 => ?_) (fun q10 => ?_)
    · replace F := F.1 q10
      refine x_iload_n hM d_WP_start_36 rfl 0 rfl ?_
      exact x_ireturn hM d_WP_start_37 rfl (y_end V hSt (F _))
    · replace F := F.2 q10
      refine x_aload_n hM d_WP_start_24 rfl 1 rfl ?_
      refine x_iload_n hM d_WP_start_25 rfl 2 rfl ?_
      obtain ⟨ρ5, eρ5⟩ : ∃ z : Rs, z = pI ρ1 (0, 0, 0) 8 v1 := ⟨_, rfl⟩
      replace F := F ρ5 eρ5
      refine y_puti hG hM V ck_WP 8 (Nat.le_of_ble_eq_true rfl) rfl rfl w_410 rfl d_WP_start_26 rfl (0, 0, 0) rfl rfl (fun h V => ?_)
      rw [← eρ5] at V
      clear eρ5
      refine x_aload_n hM d_WP_start_29 rfl 1 rfl ?_
      refine y_getr hG hM V ck_WP 3 (Nat.le_of_ble_eq_true rfl) rfl rfl w_405 rfl d_WP_start_30 (0, 0, 0) (4, 0, 0) rfl rfl rfl ?_
      refine x_callV hG hM (r' := r_Ch_inStart) (ci := 6) [] rfl rfl (Nat.le_of_ble_eq_true rfl) yk_Ch_inStart ⟨Nat.le_of_ble_eq_true rfl, Nat.le_of_ble_eq_true rfl⟩ w_464 w_465 w_466 rfl rfl (Nat.le_of_ble_eq_true rfl) d_WP_start_33 (by rw [vT V rfl]; rfl) (sem_mono (F _ _ V) ?_)
      intro u7 h F
      obtain ⟨ad9, ρ6, V, hs8, F⟩ := F
      obtain ⟨rfl, F⟩ := F
      have hs8 := (St_eq hs8).symm
      subst hs8
      refine x_iload_n hM d_WP_start_36 rfl 0 rfl ?_
      exact x_ireturn hM d_WP_start_37 rfl (y_end V hSt (F _))
  · replace F := F.1 q11
    refine x_bipush (v := (-2)) hM d_WP_start_11 (by decide) ?_
    exact x_ireturn hM d_WP_start_13 rfl (y_end V hSt (F _))
set_option maxRecDepth 100000 in
set_option maxHeartbeats 4000000 in
theorem T_WP_act_0 {G : Gc} {M : Mc} {Q : State → Prop} {ad0 : Ro → Nat} {K : (Ro → Nat) → Option Value → Rs → Prop} (hG : gok G) (hM : mok G M r_WP_act Q (KV G [] ad0 K))  (ρ : Rs) (F : semV G r_Wo_addAct [] (fun ad => [.ref (ad (1, 0, 0))]) ρ (fun ad u2 ρ1 => ∃ x4 : Int32, u2 = some (.int x4) ∧ ((x4 = (-3) → (∀ ad, K ad (some (.int x4)) ρ1)) ∧ (¬ x4 = (-3) → (semV G r_Ch_inWorld [] (fun ad => [.ref (ad (4, 0, 0))]) ρ1 (fun ad u6 ρ5 => u6 = none ∧ (∀ ad, K ad (some (.int x4)) ρ5))))))) : Y G [] ad0 M Q 0 (fun ad => [(0, .ref (ad (0, 0, 0)))]) (fun ad => []) ρ := by
  intro ad h hSt V
  show X G M Q 0 [(0, .ref (ad (0, 0, 0)))] [] h
  refine x_aload_n hM d_WP_act_0 rfl 0 rfl ?_
  refine y_getr hG hM V ck_WP 0 (Nat.le_of_ble_eq_true rfl) rfl rfl w_402 rfl d_WP_act_1 (0, 0, 0) (1, 0, 0) rfl rfl rfl ?_
  refine x_callV hG hM (r' := r_Wo_addAct) (ci := 1) [] rfl rfl (Nat.le_of_ble_eq_true rfl) yk_Wo_addAct ⟨Nat.le_of_ble_eq_true rfl, Nat.le_of_ble_eq_true rfl⟩ w_472 w_473 w_474 rfl rfl (Nat.le_of_ble_eq_true rfl) d_WP_act_4 (by rw [vT V rfl]; rfl) (sem_mono (F _ _ V) ?_)
  intro u2 h F
  obtain ⟨ad10, ρ1, V, hs3, F⟩ := F
  obtain ⟨x4, rfl, F⟩ := F
  have hs3 := (St_eq hs3).symm
  subst hs3
  refine x_istore_n (lv2 := [(1, .int x4), (0, .ref (ad (0, 0, 0)))]) hM d_WP_act_7 rfl (Nat.le_of_ble_eq_true rfl) rfl ?_
  refine x_iload_n hM d_WP_act_8 rfl 0 rfl ?_
  refine x_bipush (v := (-3)) hM d_WP_act_9 (by decide) ?_
  refine x_icmp_eq (tgt := 21) hM d_WP_act_11 (by decide) (fun q9 => ?_) (fun q9 => ?_)
  · replace F := F.1 q9
    refine x_iload_n hM d_WP_act_21 rfl 0 rfl ?_
    exact x_ireturn hM d_WP_act_22 rfl (y_end V hSt (F _))
  · replace F := F.2 q9
    refine x_aload_n hM d_WP_act_14 rfl 1 rfl ?_
    refine y_getr hG hM V ck_WP 3 (Nat.le_of_ble_eq_true rfl) rfl rfl w_405 rfl d_WP_act_15 (0, 0, 0) (4, 0, 0) rfl rfl rfl ?_
    refine x_callV hG hM (r' := r_Ch_inWorld) (ci := 6) [] rfl rfl (Nat.le_of_ble_eq_true rfl) yk_Ch_inWorld ⟨Nat.le_of_ble_eq_true rfl, Nat.le_of_ble_eq_true rfl⟩ w_444 w_445 w_446 rfl rfl (Nat.le_of_ble_eq_true rfl) d_WP_act_18 (by rw [vT V rfl]; rfl) (sem_mono (F _ _ V) ?_)
    intro u6 h F
    obtain ⟨ad8, ρ5, V, hs7, F⟩ := F
    obtain ⟨rfl, F⟩ := F
    have hs7 := (St_eq hs7).symm
    subst hs7
    refine x_iload_n hM d_WP_act_21 rfl 0 rfl ?_
    exact x_ireturn hM d_WP_act_22 rfl (y_end V hSt (F _))
set_option maxRecDepth 100000 in
set_option maxHeartbeats 4000000 in
theorem T_WP_outcome_0 {G : Gc} {M : Mc} {Q : State → Prop} {ad0 : Ro → Nat} {K : (Ro → Nat) → Option Value → Rs → Prop} (hG : gok G) (hM : mok G M r_WP_outcome Q (KV G [] ad0 K)) (v1 : Int32) (ρ : Rs) (F : semV G r_Wo_isAct [] (fun ad => [.ref (ad (1, 0, 0)), .int v1]) ρ (fun ad u2 ρ1 => ∃ x4 : Int32, u2 = some (.int x4) ∧ ((x4 = 0 → (∀ ad, K ad (some (.int (-2))) ρ1)) ∧ (¬ x4 = 0 → (vp_in v1 12 ∧ (semV G r_Ac_addOutcome [] (fun ad => [.ref (ad (20, (Int32.toNatClampNeg v1), 0))]) ρ1 (fun ad u7 ρ6 => ∃ x9 : Int32, u7 = some (.int x9) ∧ (semV G r_WP_noteActChange [] (fun ad => [.ref (ad (0, 0, 0)), .int v1, .int x9]) ρ6 (fun ad u11 ρ10 => u11 = none ∧ (∀ ad, K ad (some (.int x9)) ρ10)))))))))) : Y G [] ad0 M Q 0 (fun ad => [(0, .ref (ad (0, 0, 0))), (1, .int v1)]) (fun ad => []) ρ := by
  intro ad h hSt V
  show X G M Q 0 [(0, .ref (ad (0, 0, 0))), (1, .int v1)] [] h
  refine x_aload_n hM d_WP_outcome_0 rfl 0 rfl ?_
  refine y_getr hG hM V ck_WP 0 (Nat.le_of_ble_eq_true rfl) rfl rfl w_402 rfl d_WP_outcome_1 (0, 0, 0) (1, 0, 0) rfl rfl rfl ?_
  refine x_iload_n hM d_WP_outcome_4 rfl 1 rfl ?_
  refine x_callV hG hM (r' := r_Wo_isAct) (ci := 1) [.int v1] rfl rfl (Nat.le_of_ble_eq_true rfl) yk_Wo_isAct ⟨Nat.le_of_ble_eq_true rfl, Nat.le_of_ble_eq_true rfl⟩ w_484 w_485 w_486 rfl rfl (Nat.le_of_ble_eq_true rfl) d_WP_outcome_5 (by rw [vT V rfl]; rfl) (sem_mono (F _ _ V) ?_)
  intro u2 h F
  obtain ⟨ad16, ρ1, V, hs3, F⟩ := F
  obtain ⟨x4, rfl, F⟩ := F
  have hs3 := (St_eq hs3).symm
  subst hs3
  refine x_if_ne (tgt := 14) hM d_WP_outcome_8 (by decide) (fun q15 => ?_) (fun q15 => ?_)
  · replace F := F.2 q15
    refine x_aload_n hM d_WP_outcome_14 rfl 0 rfl ?_
    refine y_getr hG hM V ck_WP 0 (Nat.le_of_ble_eq_true rfl) rfl rfl w_402 rfl d_WP_outcome_15 (0, 0, 0) (1, 0, 0) rfl rfl rfl ?_
    refine y_getr hG hM V ck_Wo 5 (Nat.le_of_ble_eq_true rfl) rfl rfl w_146 rfl d_WP_outcome_18 (1, 0, 0) (30, 5, 0) rfl rfl rfl ?_
    refine x_iload_n hM d_WP_outcome_21 rfl 1 rfl ?_
    obtain ⟨c5, F⟩ := F
    refine y_acts hG hM V d_WP_outcome_22 c5 ?_
    refine x_callV hG hM (r' := r_Ac_addOutcome) (ci := 2) [] rfl rfl (Nat.le_of_ble_eq_true rfl) yk_Ac_addOutcome ⟨Nat.le_of_ble_eq_true rfl, Nat.le_of_ble_eq_true rfl⟩ w_488 w_489 w_490 rfl rfl (Nat.le_of_ble_eq_true rfl) d_WP_outcome_23 (by rw [vT V (ok_ac (vp_lt c5))]; rfl) (sem_mono (F _ _ V) ?_)
    intro u7 h F
    obtain ⟨ad14, ρ6, V, hs8, F⟩ := F
    obtain ⟨x9, rfl, F⟩ := F
    have hs8 := (St_eq hs8).symm
    subst hs8
    refine x_istore_n (lv2 := [(2, .int x9), (0, .ref (ad (0, 0, 0))), (1, .int v1)]) hM d_WP_outcome_26 rfl (Nat.le_of_ble_eq_true rfl) rfl ?_
    refine x_aload_n hM d_WP_outcome_27 rfl 1 rfl ?_
    refine x_iload_n hM d_WP_outcome_28 rfl 2 rfl ?_
    refine x_iload_n hM d_WP_outcome_29 rfl 0 rfl ?_
    refine x_callV hG hM (r' := r_WP_noteActChange) (ci := 0) [.int v1, .int x9] rfl rfl (Nat.le_of_ble_eq_true rfl) yk_WP_noteActChange ⟨Nat.le_of_ble_eq_true rfl, Nat.le_of_ble_eq_true rfl⟩ w_492 w_494 ws_WP_noteActChange rfl rfl (Nat.le_of_ble_eq_true rfl) d_WP_outcome_30 (by rw [vT V rfl]; rfl) (sem_mono (F _ _ V) ?_)
    intro u11 h F
    obtain ⟨ad13, ρ10, V, hs12, F⟩ := F
    obtain ⟨rfl, F⟩ := F
    have hs12 := (St_eq hs12).symm
    subst hs12
    refine x_iload_n hM d_WP_outcome_33 rfl 0 rfl ?_
    exact x_ireturn hM d_WP_outcome_34 rfl (y_end V hSt (F _))
  · replace F := F.1 q15
    refine x_bipush (v := (-2)) hM d_WP_outcome_11 (by decide) ?_
    exact x_ireturn hM d_WP_outcome_13 rfl (y_end V hSt (F _))
set_option maxRecDepth 100000 in
set_option maxHeartbeats 4000000 in
theorem T_WP_noteActChange_0 {G : Gc} {M : Mc} {Q : State → Prop} {ad0 : Ro → Nat} {K : (Ro → Nat) → Option Value → Rs → Prop} (hG : gok G) (hM : mok G M r_WP_noteActChange Q (KV G [] ad0 K)) (v1 : Int32) (v2 : Int32) (ρ : Rs) (F : (v2 = (-3) → (∀ ad, K ad none ρ)) ∧ (¬ v2 = (-3) → (vp_in v1 12 ∧ (∀ ρ3 : Rs, ρ3 = pI ρ (20, (Int32.toNatClampNeg v1), 0) 3 0 → (∀ ρ4 : Rs, ρ4 = pI ρ3 (1, 0, 0) 9 0 → (semV G r_Ch_inWorld [] (fun ad => [.ref (ad (4, 0, 0))]) ρ4 (fun ad u6 ρ5 => u6 = none ∧ (∀ ad, K ad none ρ5)))))))) : Y G [] ad0 M Q 0 (fun ad => [(0, .ref (ad (0, 0, 0))), (1, .int v1), (2, .int v2)]) (fun ad => []) ρ := by
  intro ad h hSt V
  show X G M Q 0 [(0, .ref (ad (0, 0, 0))), (1, .int v1), (2, .int v2)] [] h
  refine x_iload_n hM d_WP_noteActChange_0 rfl 2 rfl ?_
  refine x_bipush (v := (-3)) hM d_WP_noteActChange_1 (by decide) ?_
  refine x_icmp_eq (tgt := 34) hM d_WP_noteActChange_3 (by decide) (fun q9 => ?_) (fun q9 => ?_)
  · replace F := F.1 q9
    exact x_return hM d_WP_noteActChange_34 rfl (y_end V hSt (F _))
  · replace F := F.2 q9
    refine x_aload_n hM d_WP_noteActChange_6 rfl 0 rfl ?_
    refine y_getr hG hM V ck_WP 0 (Nat.le_of_ble_eq_true rfl) rfl rfl w_402 rfl d_WP_noteActChange_7 (0, 0, 0) (1, 0, 0) rfl rfl rfl ?_
    refine y_getr hG hM V ck_Wo 5 (Nat.le_of_ble_eq_true rfl) rfl rfl w_146 rfl d_WP_noteActChange_10 (1, 0, 0) (30, 5, 0) rfl rfl rfl ?_
    refine x_iload_n hM d_WP_noteActChange_13 rfl 1 rfl ?_
    obtain ⟨c2, F⟩ := F
    refine y_acts hG hM V d_WP_noteActChange_14 c2 ?_
    refine x_iconst (v := 0) hM d_WP_noteActChange_15 (by decide) ?_
    obtain ⟨ρ3, eρ3⟩ : ∃ z : Rs, z = pI ρ (20, (Int32.toNatClampNeg v1), 0) 3 0 := ⟨_, rfl⟩
    replace F := F ρ3 eρ3
    refine y_putz hG hM V ck_Ac 3 (Nat.le_of_ble_eq_true rfl) rfl rfl w_113 rfl d_WP_noteActChange_16 rfl (20, (Int32.toNatClampNeg v1), 0) (ok_ac (vp_lt c2)) rfl (Or.inl rfl) (fun h V => ?_)
    rw [← eρ3] at V
    clear eρ3
    refine x_aload_n hM d_WP_noteActChange_19 rfl 0 rfl ?_
    refine y_getr hG hM V ck_WP 0 (Nat.le_of_ble_eq_true rfl) rfl rfl w_402 rfl d_WP_noteActChange_20 (0, 0, 0) (1, 0, 0) rfl rfl rfl ?_
    refine x_iconst (v := 0) hM d_WP_noteActChange_23 (by decide) ?_
    obtain ⟨ρ4, eρ4⟩ : ∃ z : Rs, z = pI ρ3 (1, 0, 0) 9 0 := ⟨_, rfl⟩
    replace F := F ρ4 eρ4
    refine y_putz hG hM V ck_Wo 9 (Nat.le_of_ble_eq_true rfl) rfl rfl w_161 rfl d_WP_noteActChange_24 rfl (1, 0, 0) rfl rfl (Or.inl rfl) (fun h V => ?_)
    rw [← eρ4] at V
    clear eρ4
    refine x_aload_n hM d_WP_noteActChange_27 rfl 0 rfl ?_
    refine y_getr hG hM V ck_WP 3 (Nat.le_of_ble_eq_true rfl) rfl rfl w_405 rfl d_WP_noteActChange_28 (0, 0, 0) (4, 0, 0) rfl rfl rfl ?_
    refine x_callV hG hM (r' := r_Ch_inWorld) (ci := 6) [] rfl rfl (Nat.le_of_ble_eq_true rfl) yk_Ch_inWorld ⟨Nat.le_of_ble_eq_true rfl, Nat.le_of_ble_eq_true rfl⟩ w_444 w_445 w_446 rfl rfl (Nat.le_of_ble_eq_true rfl) d_WP_noteActChange_31 (by rw [vT V rfl]; rfl) (sem_mono (F _ _ V) ?_)
    intro u6 h F
    obtain ⟨ad8, ρ5, V, hs7, F⟩ := F
    obtain ⟨rfl, F⟩ := F
    have hs7 := (St_eq hs7).symm
    subst hs7
    exact x_return hM d_WP_noteActChange_34 rfl (y_end V hSt (F _))
set_option maxRecDepth 100000 in
set_option maxHeartbeats 4000000 in
theorem T_WP_when_0 {G : Gc} {M : Mc} {Q : State → Prop} {ad0 : Ro → Nat} {K : (Ro → Nat) → Option Value → Rs → Prop} (hG : gok G) (hM : mok G M r_WP_when Q (KV G [] ad0 K)) (v1 : Int32) (v2 : Int32) (v3 : Int32) (v4 : Int32) (ρ : Rs) (F : semV G r_Wo_isAct [] (fun ad => [.ref (ad (1, 0, 0)), .int v1]) ρ (fun ad u2 ρ1 => ∃ x4 : Int32, u2 = some (.int x4) ∧ ((x4 = 0 → (∀ ad, K ad (some (.int (-2))) ρ1)) ∧ (¬ x4 = 0 → (semV G r_Wo_isCondition [] (fun ad => [.ref (ad (1, 0, 0)), .int v2, .int v3, .int v4]) ρ1 (fun ad u6 ρ5 => ∃ x8 : Int32, u6 = some (.int x8) ∧ ((x8 = 0 → (∀ ad, K ad (some (.int (-2))) ρ5)) ∧ (¬ x8 = 0 → (vp_in v1 12 ∧ (semV G r_Cl_add [] (fun ad => [.ref (ad (10, (Int32.toNatClampNeg v1) + 2, 0)), .int v2, .int v3, .int v4]) ρ5 (fun ad u11 ρ10 => ∃ x13 : Int32, u11 = some (.int x13) ∧ (semV G r_WP_noteActChange [] (fun ad => [.ref (ad (0, 0, 0)), .int v1, .int x13]) ρ10 (fun ad u15 ρ14 => u15 = none ∧ (∀ ad, K ad (some (.int x13)) ρ14)))))))))))))) : Y G [] ad0 M Q 0 (fun ad => [(0, .ref (ad (0, 0, 0))), (1, .int v1), (2, .int v2), (3, .int v3), (4, .int v4)]) (fun ad => []) ρ := by
  intro ad h hSt V
  show X G M Q 0 [(0, .ref (ad (0, 0, 0))), (1, .int v1), (2, .int v2), (3, .int v3), (4, .int v4)] [] h
  refine x_aload_n hM d_WP_when_0 rfl 0 rfl ?_
  refine y_getr hG hM V ck_WP 0 (Nat.le_of_ble_eq_true rfl) rfl rfl w_402 rfl d_WP_when_1 (0, 0, 0) (1, 0, 0) rfl rfl rfl ?_
  refine x_iload_n hM d_WP_when_4 rfl 1 rfl ?_
  refine x_callV hG hM (r' := r_Wo_isAct) (ci := 1) [.int v1] rfl rfl (Nat.le_of_ble_eq_true rfl) yk_Wo_isAct ⟨Nat.le_of_ble_eq_true rfl, Nat.le_of_ble_eq_true rfl⟩ w_484 w_485 w_486 rfl rfl (Nat.le_of_ble_eq_true rfl) d_WP_when_5 (by rw [vT V rfl]; rfl) (sem_mono (F _ _ V) ?_)
  intro u2 h F
  obtain ⟨ad22, ρ1, V, hs3, F⟩ := F
  obtain ⟨x4, rfl, F⟩ := F
  have hs3 := (St_eq hs3).symm
  subst hs3
  refine x_if_eq (tgt := 25) hM d_WP_when_8 (by decide) (fun q21 => ?_) (fun q21 => ?_)
  · replace F := F.1 q21
    refine x_bipush (v := (-2)) hM d_WP_when_25 (by decide) ?_
    exact x_ireturn hM d_WP_when_27 rfl (y_end V hSt (F _))
  · replace F := F.2 q21
    refine x_aload_n hM d_WP_when_11 rfl 0 rfl ?_
    refine y_getr hG hM V ck_WP 0 (Nat.le_of_ble_eq_true rfl) rfl rfl w_402 rfl d_WP_when_12 (0, 0, 0) (1, 0, 0) rfl rfl rfl ?_
    refine x_iload_n hM d_WP_when_15 rfl 2 rfl ?_
    refine x_iload_n hM d_WP_when_16 rfl 3 rfl ?_
    refine x_iload hM d_WP_when_17 4 rfl ?_
    refine x_callV hG hM (r' := r_Wo_isCondition) (ci := 1) [.int v2, .int v3, .int v4] rfl rfl (Nat.le_of_ble_eq_true rfl) yk_Wo_isCondition ⟨Nat.le_of_ble_eq_true rfl, Nat.le_of_ble_eq_true rfl⟩ w_500 w_501 w_502 rfl rfl (Nat.le_of_ble_eq_true rfl) d_WP_when_19 (by rw [vT V rfl]; rfl) (sem_mono (F _ _ V) ?_)
    intro u6 h F
    obtain ⟨ad20, ρ5, V, hs7, F⟩ := F
    obtain ⟨x8, rfl, F⟩ := F
    have hs7 := (St_eq hs7).symm
    subst hs7
    refine x_if_ne (tgt := 28) hM d_WP_when_22 (by decide) (fun q19 => ?_) (fun q19 => ?_)
    · replace F := F.2 q19
      refine x_aload_n hM d_WP_when_28 rfl 0 rfl ?_
      refine y_getr hG hM V ck_WP 0 (Nat.le_of_ble_eq_true rfl) rfl rfl w_402 rfl d_WP_when_29 (0, 0, 0) (1, 0, 0) rfl rfl rfl ?_
      refine y_getr hG hM V ck_Wo 5 (Nat.le_of_ble_eq_true rfl) rfl rfl w_146 rfl d_WP_when_32 (1, 0, 0) (30, 5, 0) rfl rfl rfl ?_
      refine x_iload_n hM d_WP_when_35 rfl 1 rfl ?_
      obtain ⟨c9, F⟩ := F
      refine y_acts hG hM V d_WP_when_36 c9 ?_
      refine y_getr hG hM V ck_Ac 0 (Nat.le_of_ble_eq_true rfl) rfl rfl w_95 rfl d_WP_when_37 (20, (Int32.toNatClampNeg v1), 0) (10, (Int32.toNatClampNeg v1) + 2, 0) (ok_ac (vp_lt c9)) rfl rfl ?_
      refine x_iload_n hM d_WP_when_40 rfl 2 rfl ?_
      refine x_iload_n hM d_WP_when_41 rfl 3 rfl ?_
      refine x_iload hM d_WP_when_42 4 rfl ?_
      refine x_callV hG hM (r' := r_Cl_add) (ci := 4) [.int v2, .int v3, .int v4] rfl rfl (Nat.le_of_ble_eq_true rfl) yk_Cl_add ⟨Nat.le_of_ble_eq_true rfl, Nat.le_of_ble_eq_true rfl⟩ w_508 w_509 w_510 rfl rfl (Nat.le_of_ble_eq_true rfl) d_WP_when_44 (by rw [vT V (ok_cl (okC_ac (vp_lt c9)))]; rfl) (sem_mono (F _ _ V) ?_)
      intro u11 h F
      obtain ⟨ad18, ρ10, V, hs12, F⟩ := F
      obtain ⟨x13, rfl, F⟩ := F
      have hs12 := (St_eq hs12).symm
      subst hs12
      refine x_istore (lv2 := [(5, .int x13), (0, .ref (ad (0, 0, 0))), (1, .int v1), (2, .int v2), (3, .int v3), (4, .int v4)]) hM d_WP_when_47 (Nat.le_of_ble_eq_true rfl) rfl ?_
      refine x_aload_n hM d_WP_when_49 rfl 1 rfl ?_
      refine x_iload_n hM d_WP_when_50 rfl 2 rfl ?_
      refine x_iload hM d_WP_when_51 0 rfl ?_
      refine x_callV hG hM (r' := r_WP_noteActChange) (ci := 0) [.int v1, .int x13] rfl rfl (Nat.le_of_ble_eq_true rfl) yk_WP_noteActChange ⟨Nat.le_of_ble_eq_true rfl, Nat.le_of_ble_eq_true rfl⟩ w_492 w_494 ws_WP_noteActChange rfl rfl (Nat.le_of_ble_eq_true rfl) d_WP_when_53 (by rw [vT V rfl]; rfl) (sem_mono (F _ _ V) ?_)
      intro u15 h F
      obtain ⟨ad17, ρ14, V, hs16, F⟩ := F
      obtain ⟨rfl, F⟩ := F
      have hs16 := (St_eq hs16).symm
      subst hs16
      refine x_iload hM d_WP_when_56 0 rfl ?_
      exact x_ireturn hM d_WP_when_58 rfl (y_end V hSt (F _))
    · replace F := F.1 q19
      refine x_bipush (v := (-2)) hM d_WP_when_25 (by decide) ?_
      exact x_ireturn hM d_WP_when_27 rfl (y_end V hSt (F _))
set_option maxRecDepth 100000 in
set_option maxHeartbeats 4000000 in
theorem T_WP_effect_0 {G : Gc} {M : Mc} {Q : State → Prop} {ad0 : Ro → Nat} {K : (Ro → Nat) → Option Value → Rs → Prop} (hG : gok G) (hM : mok G M r_WP_effect Q (KV G [] ad0 K)) (v1 : Int32) (v2 : Int32) (v3 : Int32) (v4 : Int32) (v5 : Int32) (ρ : Rs) (F : semV G r_Wo_isOutcome [] (fun ad => [.ref (ad (1, 0, 0)), .int v1, .int v2]) ρ (fun ad u2 ρ1 => ∃ x4 : Int32, u2 = some (.int x4) ∧ ((x4 = 0 → (∀ ad, K ad (some (.int (-2))) ρ1)) ∧ (¬ x4 = 0 → (semV G r_Wo_isEffect [] (fun ad => [.ref (ad (1, 0, 0)), .int v3, .int v4, .int v5]) ρ1 (fun ad u6 ρ5 => ∃ x8 : Int32, u6 = some (.int x8) ∧ ((x8 = 0 → (∀ ad, K ad (some (.int (-2))) ρ5)) ∧ (¬ x8 = 0 → (vp_in v1 12 ∧ (vp_in v2 3 ∧ (semV G r_Cl_add [] (fun ad => [.ref (ad (10, (Int32.toNatClampNeg v1) + 2, (Int32.toNatClampNeg v2) + 1)), .int v3, .int v4, .int v5]) ρ5 (fun ad u12 ρ11 => ∃ x14 : Int32, u12 = some (.int x14) ∧ (semV G r_WP_noteActChange [] (fun ad => [.ref (ad (0, 0, 0)), .int v1, .int x14]) ρ11 (fun ad u16 ρ15 => u16 = none ∧ (∀ ad, K ad (some (.int x14)) ρ15))))))))))))))) : Y G [] ad0 M Q 0 (fun ad => [(0, .ref (ad (0, 0, 0))), (1, .int v1), (2, .int v2), (3, .int v3), (4, .int v4), (5, .int v5)]) (fun ad => []) ρ := by
  intro ad h hSt V
  show X G M Q 0 [(0, .ref (ad (0, 0, 0))), (1, .int v1), (2, .int v2), (3, .int v3), (4, .int v4), (5, .int v5)] [] h
  refine x_aload_n hM d_WP_effect_0 rfl 0 rfl ?_
  refine y_getr hG hM V ck_WP 0 (Nat.le_of_ble_eq_true rfl) rfl rfl w_402 rfl d_WP_effect_1 (0, 0, 0) (1, 0, 0) rfl rfl rfl ?_
  refine x_iload_n hM d_WP_effect_4 rfl 1 rfl ?_
  refine x_iload_n hM d_WP_effect_5 rfl 2 rfl ?_
  refine x_callV hG hM (r' := r_Wo_isOutcome) (ci := 1) [.int v1, .int v2] rfl rfl (Nat.le_of_ble_eq_true rfl) yk_Wo_isOutcome ⟨Nat.le_of_ble_eq_true rfl, Nat.le_of_ble_eq_true rfl⟩ w_516 w_517 w_518 rfl rfl (Nat.le_of_ble_eq_true rfl) d_WP_effect_6 (by rw [vT V rfl]; rfl) (sem_mono (F _ _ V) ?_)
  intro u2 h F
  obtain ⟨ad23, ρ1, V, hs3, F⟩ := F
  obtain ⟨x4, rfl, F⟩ := F
  have hs3 := (St_eq hs3).symm
  subst hs3
  refine x_if_eq (tgt := 27) hM d_WP_effect_9 (by decide) (fun q22 => ?_) (fun q22 => ?_)
  · replace F := F.1 q22
    refine x_bipush (v := (-2)) hM d_WP_effect_27 (by decide) ?_
    exact x_ireturn hM d_WP_effect_29 rfl (y_end V hSt (F _))
  · replace F := F.2 q22
    refine x_aload_n hM d_WP_effect_12 rfl 0 rfl ?_
    refine y_getr hG hM V ck_WP 0 (Nat.le_of_ble_eq_true rfl) rfl rfl w_402 rfl d_WP_effect_13 (0, 0, 0) (1, 0, 0) rfl rfl rfl ?_
    refine x_iload_n hM d_WP_effect_16 rfl 3 rfl ?_
    refine x_iload hM d_WP_effect_17 4 rfl ?_
    refine x_iload hM d_WP_effect_19 5 rfl ?_
    refine x_callV hG hM (r' := r_Wo_isEffect) (ci := 1) [.int v3, .int v4, .int v5] rfl rfl (Nat.le_of_ble_eq_true rfl) yk_Wo_isEffect ⟨Nat.le_of_ble_eq_true rfl, Nat.le_of_ble_eq_true rfl⟩ w_521 w_522 w_523 rfl rfl (Nat.le_of_ble_eq_true rfl) d_WP_effect_21 (by rw [vT V rfl]; rfl) (sem_mono (F _ _ V) ?_)
    intro u6 h F
    obtain ⟨ad21, ρ5, V, hs7, F⟩ := F
    obtain ⟨x8, rfl, F⟩ := F
    have hs7 := (St_eq hs7).symm
    subst hs7
    refine x_if_ne (tgt := 30) hM d_WP_effect_24 (by decide) (fun q20 => ?_) (fun q20 => ?_)
    · replace F := F.2 q20
      refine x_aload_n hM d_WP_effect_30 rfl 0 rfl ?_
      refine y_getr hG hM V ck_WP 0 (Nat.le_of_ble_eq_true rfl) rfl rfl w_402 rfl d_WP_effect_31 (0, 0, 0) (1, 0, 0) rfl rfl rfl ?_
      refine y_getr hG hM V ck_Wo 5 (Nat.le_of_ble_eq_true rfl) rfl rfl w_146 rfl d_WP_effect_34 (1, 0, 0) (30, 5, 0) rfl rfl rfl ?_
      refine x_iload_n hM d_WP_effect_37 rfl 1 rfl ?_
      obtain ⟨c9, F⟩ := F
      refine y_acts hG hM V d_WP_effect_38 c9 ?_
      refine y_getr hG hM V ck_Ac 1 (Nat.le_of_ble_eq_true rfl) rfl rfl w_101 rfl d_WP_effect_39 (20, (Int32.toNatClampNeg v1), 0) (21, (Int32.toNatClampNeg v1), 0) (ok_ac (vp_lt c9)) rfl rfl ?_
      refine x_iload_n hM d_WP_effect_42 rfl 2 rfl ?_
      obtain ⟨c10, F⟩ := F
      refine y_outs hG hM V d_WP_effect_43 (vp_lt c9) c10 ?_
      refine y_getr hG hM V ck_Ou 0 (Nat.le_of_ble_eq_true rfl) rfl rfl w_75 rfl d_WP_effect_44 (22, (Int32.toNatClampNeg v1), (Int32.toNatClampNeg v2)) (10, (Int32.toNatClampNeg v1) + 2, (Int32.toNatClampNeg v2) + 1) (ok_ou (vp_lt c9) (vp_lt c10)) rfl rfl ?_
      refine x_iload_n hM d_WP_effect_47 rfl 3 rfl ?_
      refine x_iload hM d_WP_effect_48 4 rfl ?_
      refine x_iload hM d_WP_effect_50 5 rfl ?_
      refine x_callV hG hM (r' := r_Cl_add) (ci := 4) [.int v3, .int v4, .int v5] rfl rfl (Nat.le_of_ble_eq_true rfl) yk_Cl_add ⟨Nat.le_of_ble_eq_true rfl, Nat.le_of_ble_eq_true rfl⟩ w_508 w_509 w_510 rfl rfl (Nat.le_of_ble_eq_true rfl) d_WP_effect_52 (by rw [vT V (ok_cl (okC_ou (vp_lt c9) (vp_lt c10)))]; rfl) (sem_mono (F _ _ V) ?_)
      intro u12 h F
      obtain ⟨ad19, ρ11, V, hs13, F⟩ := F
      obtain ⟨x14, rfl, F⟩ := F
      have hs13 := (St_eq hs13).symm
      subst hs13
      refine x_istore (lv2 := [(6, .int x14), (0, .ref (ad (0, 0, 0))), (1, .int v1), (2, .int v2), (3, .int v3), (4, .int v4), (5, .int v5)]) hM d_WP_effect_55 (Nat.le_of_ble_eq_true rfl) rfl ?_
      refine x_aload_n hM d_WP_effect_57 rfl 1 rfl ?_
      refine x_iload_n hM d_WP_effect_58 rfl 2 rfl ?_
      refine x_iload hM d_WP_effect_59 0 rfl ?_
      refine x_callV hG hM (r' := r_WP_noteActChange) (ci := 0) [.int v1, .int x14] rfl rfl (Nat.le_of_ble_eq_true rfl) yk_WP_noteActChange ⟨Nat.le_of_ble_eq_true rfl, Nat.le_of_ble_eq_true rfl⟩ w_492 w_494 ws_WP_noteActChange rfl rfl (Nat.le_of_ble_eq_true rfl) d_WP_effect_61 (by rw [vT V rfl]; rfl) (sem_mono (F _ _ V) ?_)
      intro u16 h F
      obtain ⟨ad18, ρ15, V, hs17, F⟩ := F
      obtain ⟨rfl, F⟩ := F
      have hs17 := (St_eq hs17).symm
      subst hs17
      refine x_iload hM d_WP_effect_64 0 rfl ?_
      exact x_ireturn hM d_WP_effect_66 rfl (y_end V hSt (F _))
    · replace F := F.1 q20
      refine x_bipush (v := (-2)) hM d_WP_effect_27 (by decide) ?_
      exact x_ireturn hM d_WP_effect_29 rfl (y_end V hSt (F _))
set_option maxRecDepth 100000 in
set_option maxHeartbeats 4000000 in
theorem T_WP_aim_0 {G : Gc} {M : Mc} {Q : State → Prop} {ad0 : Ro → Nat} {K : (Ro → Nat) → Option Value → Rs → Prop} (hG : gok G) (hM : mok G M r_WP_aim Q (KV G [] ad0 K)) (v1 : Int32) (v2 : Int32) (v3 : Int32) (ρ : Rs) (F : semV G r_Wo_isCondition [] (fun ad => [.ref (ad (1, 0, 0)), .int v1, .int v2, .int v3]) ρ (fun ad u2 ρ1 => ∃ x4 : Int32, u2 = some (.int x4) ∧ ((x4 = 0 → (∀ ad, K ad (some (.int (-2))) ρ1)) ∧ (¬ x4 = 0 → (semV G r_Cl_add [] (fun ad => [.ref (ad (10, 0, 0)), .int v1, .int v2, .int v3]) ρ1 (fun ad u6 ρ5 => ∃ x8 : Int32, u6 = some (.int x8) ∧ ((x8 = (-3) → (∀ ad, K ad (some (.int x8)) ρ5)) ∧ (¬ x8 = (-3) → (semV G r_Ch_inAim [] (fun ad => [.ref (ad (4, 0, 0))]) ρ5 (fun ad u10 ρ9 => u10 = none ∧ (∀ ad, K ad (some (.int x8)) ρ9))))))))))) : Y G [] ad0 M Q 0 (fun ad => [(0, .ref (ad (0, 0, 0))), (1, .int v1), (2, .int v2), (3, .int v3)]) (fun ad => []) ρ := by
  intro ad h hSt V
  show X G M Q 0 [(0, .ref (ad (0, 0, 0))), (1, .int v1), (2, .int v2), (3, .int v3)] [] h
  refine x_aload_n hM d_WP_aim_0 rfl 0 rfl ?_
  refine y_getr hG hM V ck_WP 0 (Nat.le_of_ble_eq_true rfl) rfl rfl w_402 rfl d_WP_aim_1 (0, 0, 0) (1, 0, 0) rfl rfl rfl ?_
  refine x_iload_n hM d_WP_aim_4 rfl 1 rfl ?_
  refine x_iload_n hM d_WP_aim_5 rfl 2 rfl ?_
  refine x_iload_n hM d_WP_aim_6 rfl 3 rfl ?_
  refine x_callV hG hM (r' := r_Wo_isCondition) (ci := 1) [.int v1, .int v2, .int v3] rfl rfl (Nat.le_of_ble_eq_true rfl) yk_Wo_isCondition ⟨Nat.le_of_ble_eq_true rfl, Nat.le_of_ble_eq_true rfl⟩ w_500 w_501 w_502 rfl rfl (Nat.le_of_ble_eq_true rfl) d_WP_aim_7 (by rw [vT V rfl]; rfl) (sem_mono (F _ _ V) ?_)
  intro u2 h F
  obtain ⟨ad16, ρ1, V, hs3, F⟩ := F
  obtain ⟨x4, rfl, F⟩ := F
  have hs3 := (St_eq hs3).symm
  subst hs3
  refine x_if_ne (tgt := 16) hM d_WP_aim_10 (by decide) (fun q15 => ?_) (fun q15 => ?_)
  · replace F := F.2 q15
    refine x_aload_n hM d_WP_aim_16 rfl 0 rfl ?_
    refine y_getr hG hM V ck_WP 1 (Nat.le_of_ble_eq_true rfl) rfl rfl w_403 rfl d_WP_aim_17 (0, 0, 0) (10, 0, 0) rfl rfl rfl ?_
    refine x_iload_n hM d_WP_aim_20 rfl 1 rfl ?_
    refine x_iload_n hM d_WP_aim_21 rfl 2 rfl ?_
    refine x_iload_n hM d_WP_aim_22 rfl 3 rfl ?_
    refine x_callV hG hM (r' := r_Cl_add) (ci := 4) [.int v1, .int v2, .int v3] rfl rfl (Nat.le_of_ble_eq_true rfl) yk_Cl_add ⟨Nat.le_of_ble_eq_true rfl, Nat.le_of_ble_eq_true rfl⟩ w_508 w_509 w_510 rfl rfl (Nat.le_of_ble_eq_true rfl) d_WP_aim_23 (by rw [vT V (ok_cl okC_0)]; rfl) (sem_mono (F _ _ V) ?_)
    intro u6 h F
    obtain ⟨ad14, ρ5, V, hs7, F⟩ := F
    obtain ⟨x8, rfl, F⟩ := F
    have hs7 := (St_eq hs7).symm
    subst hs7
    refine x_istore (lv2 := [(4, .int x8), (0, .ref (ad (0, 0, 0))), (1, .int v1), (2, .int v2), (3, .int v3)]) hM d_WP_aim_26 (Nat.le_of_ble_eq_true rfl) rfl ?_
    refine x_iload hM d_WP_aim_28 0 rfl ?_
    refine x_bipush (v := (-3)) hM d_WP_aim_30 (by decide) ?_
    refine x_icmp_eq (tgt := 42) hM d_WP_aim_32 (by decide) (fun q13 => ?_) (fun q13 => ?_)
    · replace F := F.1 q13
      refine x_iload hM d_WP_aim_42 0 rfl ?_
      exact x_ireturn hM d_WP_aim_44 rfl (y_end V hSt (F _))
    · replace F := F.2 q13
      refine x_aload_n hM d_WP_aim_35 rfl 1 rfl ?_
      refine y_getr hG hM V ck_WP 3 (Nat.le_of_ble_eq_true rfl) rfl rfl w_405 rfl d_WP_aim_36 (0, 0, 0) (4, 0, 0) rfl rfl rfl ?_
      refine x_callV hG hM (r' := r_Ch_inAim) (ci := 6) [] rfl rfl (Nat.le_of_ble_eq_true rfl) yk_Ch_inAim ⟨Nat.le_of_ble_eq_true rfl, Nat.le_of_ble_eq_true rfl⟩ w_529 w_530 w_531 rfl rfl (Nat.le_of_ble_eq_true rfl) d_WP_aim_39 (by rw [vT V rfl]; rfl) (sem_mono (F _ _ V) ?_)
      intro u10 h F
      obtain ⟨ad12, ρ9, V, hs11, F⟩ := F
      obtain ⟨rfl, F⟩ := F
      have hs11 := (St_eq hs11).symm
      subst hs11
      refine x_iload hM d_WP_aim_42 0 rfl ?_
      exact x_ireturn hM d_WP_aim_44 rfl (y_end V hSt (F _))
  · replace F := F.1 q15
    refine x_bipush (v := (-2)) hM d_WP_aim_13 (by decide) ?_
    exact x_ireturn hM d_WP_aim_15 rfl (y_end V hSt (F _))
set_option maxRecDepth 100000 in
set_option maxHeartbeats 4000000 in
theorem T_WP_aimless_0 {G : Gc} {M : Mc} {Q : State → Prop} {ad0 : Ro → Nat} {K : (Ro → Nat) → Option Value → Rs → Prop} (hG : gok G) (hM : mok G M r_WP_aimless Q (KV G [] ad0 K))  (ρ : Rs) (F : ∀ ρ1 : Rs, ρ1 = pI ρ (10, 0, 0) 0 0 → (((iR ρ (10, 0, 0) 0) ≤ 0 → (∀ ad, K ad (some (.int (iR ρ (10, 0, 0) 0))) ρ1)) ∧ (¬ (iR ρ (10, 0, 0) 0) ≤ 0 → (semV G r_Ch_inAim [] (fun ad => [.ref (ad (4, 0, 0))]) ρ1 (fun ad u3 ρ2 => u3 = none ∧ (∀ ad, K ad (some (.int (iR ρ (10, 0, 0) 0))) ρ2)))))) : Y G [] ad0 M Q 0 (fun ad => [(0, .ref (ad (0, 0, 0)))]) (fun ad => []) ρ := by
  intro ad h hSt V
  show X G M Q 0 [(0, .ref (ad (0, 0, 0)))] [] h
  refine x_aload_n hM d_WP_aimless_0 rfl 0 rfl ?_
  refine y_getr hG hM V ck_WP 1 (Nat.le_of_ble_eq_true rfl) rfl rfl w_403 rfl d_WP_aimless_1 (0, 0, 0) (10, 0, 0) rfl rfl rfl ?_
  refine y_geti hG hM V ck_Cl 0 (Nat.le_of_ble_eq_true rfl) rfl rfl w_45 rfl d_WP_aimless_4 (10, 0, 0) (ok_cl okC_0) rfl ?_
  refine x_istore_n (lv2 := [(1, .int (iR ρ (10, 0, 0) 0)), (0, .ref (ad (0, 0, 0)))]) hM d_WP_aimless_7 rfl (Nat.le_of_ble_eq_true rfl) rfl ?_
  refine x_aload_n hM d_WP_aimless_8 rfl 1 rfl ?_
  refine y_getr hG hM V ck_WP 1 (Nat.le_of_ble_eq_true rfl) rfl rfl w_403 rfl d_WP_aimless_9 (0, 0, 0) (10, 0, 0) rfl rfl rfl ?_
  refine x_iconst (v := 0) hM d_WP_aimless_12 (by decide) ?_
  obtain ⟨ρ1, eρ1⟩ : ∃ z : Rs, z = pI ρ (10, 0, 0) 0 0 := ⟨_, rfl⟩
  replace F := F ρ1 eρ1
  refine y_puti hG hM V ck_Cl 0 (Nat.le_of_ble_eq_true rfl) rfl rfl w_45 rfl d_WP_aimless_13 rfl (10, 0, 0) (ok_cl okC_0) rfl (fun h V => ?_)
  rw [← eρ1] at V
  clear eρ1
  refine x_iload_n hM d_WP_aimless_16 rfl 0 rfl ?_
  refine x_if_le (tgt := 27) hM d_WP_aimless_17 (by decide) (fun q6 => ?_) (fun q6 => ?_)
  · replace F := F.1 q6
    refine x_iload_n hM d_WP_aimless_27 rfl 0 rfl ?_
    exact x_ireturn hM d_WP_aimless_28 rfl (y_end V hSt (F _))
  · replace F := F.2 q6
    refine x_aload_n hM d_WP_aimless_20 rfl 1 rfl ?_
    refine y_getr hG hM V ck_WP 3 (Nat.le_of_ble_eq_true rfl) rfl rfl w_405 rfl d_WP_aimless_21 (0, 0, 0) (4, 0, 0) rfl rfl rfl ?_
    refine x_callV hG hM (r' := r_Ch_inAim) (ci := 6) [] rfl rfl (Nat.le_of_ble_eq_true rfl) yk_Ch_inAim ⟨Nat.le_of_ble_eq_true rfl, Nat.le_of_ble_eq_true rfl⟩ w_529 w_530 w_531 rfl rfl (Nat.le_of_ble_eq_true rfl) d_WP_aimless_24 (by rw [vT V rfl]; rfl) (sem_mono (F _ _ V) ?_)
    intro u3 h F
    obtain ⟨ad5, ρ2, V, hs4, F⟩ := F
    obtain ⟨rfl, F⟩ := F
    have hs4 := (St_eq hs4).symm
    subst hs4
    refine x_iload_n hM d_WP_aimless_27 rfl 0 rfl ?_
    exact x_ireturn hM d_WP_aimless_28 rfl (y_end V hSt (F _))
set_option maxRecDepth 100000 in
set_option maxHeartbeats 4000000 in
theorem T_WP_unact_0 {G : Gc} {M : Mc} {Q : State → Prop} {ad0 : Ro → Nat} {K : (Ro → Nat) → Option Value → Rs → Prop} (hG : gok G) (hM : mok G M r_WP_unact Q (KV G [] ad0 K))  (ρ : Rs) (F : ((iR ρ (1, 0, 0) 2) = 0 → (∀ ad, K ad (some (.int (-1))) ρ)) ∧ (¬ (iR ρ (1, 0, 0) 2) = 0 → (semV G r_Wo_dropAct [] (fun ad => [.ref (ad (1, 0, 0))]) ρ (fun ad u2 ρ1 => u2 = none ∧ (semV G r_Ch_inWorld [] (fun ad => [.ref (ad (4, 0, 0))]) ρ1 (fun ad u5 ρ4 => u5 = none ∧ (∀ ad, K ad (some (.int (iR ρ4 (1, 0, 0) 2))) ρ4))))))) : Y G [] ad0 M Q 0 (fun ad => [(0, .ref (ad (0, 0, 0)))]) (fun ad => []) ρ := by
  intro ad h hSt V
  show X G M Q 0 [(0, .ref (ad (0, 0, 0)))] [] h
  refine x_aload_n hM d_WP_unact_0 rfl 0 rfl ?_
  refine y_getr hG hM V ck_WP 0 (Nat.le_of_ble_eq_true rfl) rfl rfl w_402 rfl d_WP_unact_1 (0, 0, 0) (1, 0, 0) rfl rfl rfl ?_
  refine y_geti hG hM V ck_Wo 2 (Nat.le_of_ble_eq_true rfl) rfl rfl w_136 rfl d_WP_unact_4 (1, 0, 0) rfl rfl ?_
  refine x_if_ne (tgt := 12) hM d_WP_unact_7 (by decide) (fun q9 => ?_) (fun q9 => ?_)
  · replace F := F.2 q9
    refine x_aload_n hM d_WP_unact_12 rfl 0 rfl ?_
    refine y_getr hG hM V ck_WP 0 (Nat.le_of_ble_eq_true rfl) rfl rfl w_402 rfl d_WP_unact_13 (0, 0, 0) (1, 0, 0) rfl rfl rfl ?_
    refine x_callV hG hM (r' := r_Wo_dropAct) (ci := 1) [] rfl rfl (Nat.le_of_ble_eq_true rfl) yk_Wo_dropAct ⟨Nat.le_of_ble_eq_true rfl, Nat.le_of_ble_eq_true rfl⟩ w_541 w_542 w_543 rfl rfl (Nat.le_of_ble_eq_true rfl) d_WP_unact_16 (by rw [vT V rfl]; rfl) (sem_mono (F _ _ V) ?_)
    intro u2 h F
    obtain ⟨ad8, ρ1, V, hs3, F⟩ := F
    obtain ⟨rfl, F⟩ := F
    have hs3 := (St_eq hs3).symm
    subst hs3
    refine x_aload_n hM d_WP_unact_19 rfl 0 rfl ?_
    refine y_getr hG hM V ck_WP 3 (Nat.le_of_ble_eq_true rfl) rfl rfl w_405 rfl d_WP_unact_20 (0, 0, 0) (4, 0, 0) rfl rfl rfl ?_
    refine x_callV hG hM (r' := r_Ch_inWorld) (ci := 6) [] rfl rfl (Nat.le_of_ble_eq_true rfl) yk_Ch_inWorld ⟨Nat.le_of_ble_eq_true rfl, Nat.le_of_ble_eq_true rfl⟩ w_444 w_445 w_446 rfl rfl (Nat.le_of_ble_eq_true rfl) d_WP_unact_23 (by rw [vT V rfl]; rfl) (sem_mono (F _ _ V) ?_)
    intro u5 h F
    obtain ⟨ad7, ρ4, V, hs6, F⟩ := F
    obtain ⟨rfl, F⟩ := F
    have hs6 := (St_eq hs6).symm
    subst hs6
    refine x_aload_n hM d_WP_unact_26 rfl 0 rfl ?_
    refine y_getr hG hM V ck_WP 0 (Nat.le_of_ble_eq_true rfl) rfl rfl w_402 rfl d_WP_unact_27 (0, 0, 0) (1, 0, 0) rfl rfl rfl ?_
    refine y_geti hG hM V ck_Wo 2 (Nat.le_of_ble_eq_true rfl) rfl rfl w_136 rfl d_WP_unact_30 (1, 0, 0) rfl rfl ?_
    exact x_ireturn hM d_WP_unact_33 rfl (y_end V hSt (F _))
  · replace F := F.1 q9
    refine x_iconst (v := (-1)) hM d_WP_unact_10 (by decide) ?_
    exact x_ireturn hM d_WP_unact_11 rfl (y_end V hSt (F _))
set_option maxRecDepth 100000 in
set_option maxHeartbeats 4000000 in
theorem T_WP_leads_0 {G : Gc} {M : Mc} {Q : State → Prop} {ad0 : Ro → Nat} {K : (Ro → Nat) → Option Value → Rs → Prop} (hG : gok G) (hM : mok G M r_WP_leads Q (KV G [] ad0 K)) (v1 : Int32) (v2 : Int32) (v3 : Int32) (ρ : Rs) (F : semV G r_Wo_isState [] (fun ad => [.ref (ad (1, 0, 0)), .int v1]) ρ (fun ad u2 ρ1 => ∃ x4 : Int32, u2 = some (.int x4) ∧ ((x4 = 0 → (∀ ad, K ad (some (.int (-2))) ρ1)) ∧ (¬ x4 = 0 → (semV G r_Wo_isOutcome [] (fun ad => [.ref (ad (1, 0, 0)), .int v2, .int v3]) ρ1 (fun ad u6 ρ5 => ∃ x8 : Int32, u6 = some (.int x8) ∧ ((x8 = 0 → (∀ ad, K ad (some (.int (-2))) ρ5)) ∧ (¬ x8 = 0 → (vp_in v2 12 ∧ (semV G r_Wo_pack [] (fun ad => [.ref (ad (1, 0, 0)), .int v1]) ρ5 (fun ad u11 ρ10 => ∃ x13 : Int32, u11 = some (.int x13) ∧ (semV G r_Cl_hold [] (fun ad => [.ref (ad (10, (Int32.toNatClampNeg v2) + 2, 0)), .int x13]) ρ10 (fun ad u15 ρ14 => ∃ x17 : Int32, u15 = some (.int x17) ∧ ((x17 = 0 → (∀ ad, K ad (some (.int (-1))) ρ14)) ∧ (¬ x17 = 0 → (vp_in v3 3 ∧ (semV G r_Wo_after [] (fun ad => [.ref (ad (1, 0, 0)), .ref (ad (10, (Int32.toNatClampNeg v2) + 2, (Int32.toNatClampNeg v3) + 1)), .int v1, .int x13]) ρ14 (fun ad u21 ρ20 => ∃ x23 : Int32, u21 = some (.int x23) ∧ (∀ ad, K ad (some (.int x23)) ρ20))))))))))))))))))) : Y G [] ad0 M Q 0 (fun ad => [(0, .ref (ad (0, 0, 0))), (1, .int v1), (2, .int v2), (3, .int v3)]) (fun ad => []) ρ := by
  intro ad h hSt V
  show X G M Q 0 [(0, .ref (ad (0, 0, 0))), (1, .int v1), (2, .int v2), (3, .int v3)] [] h
  refine x_aload_n hM d_WP_leads_0 rfl 0 rfl ?_
  refine y_getr hG hM V ck_WP 0 (Nat.le_of_ble_eq_true rfl) rfl rfl w_402 rfl d_WP_leads_1 (0, 0, 0) (1, 0, 0) rfl rfl rfl ?_
  refine x_iload_n hM d_WP_leads_4 rfl 1 rfl ?_
  refine x_callV hG hM (r' := r_Wo_isState) (ci := 1) [.int v1] rfl rfl (Nat.le_of_ble_eq_true rfl) yk_Wo_isState ⟨Nat.le_of_ble_eq_true rfl, Nat.le_of_ble_eq_true rfl⟩ w_460 w_461 w_462 rfl rfl (Nat.le_of_ble_eq_true rfl) d_WP_leads_5 (by rw [vT V rfl]; rfl) (sem_mono (F _ _ V) ?_)
  intro u2 h F
  obtain ⟨ad31, ρ1, V, hs3, F⟩ := F
  obtain ⟨x4, rfl, F⟩ := F
  have hs3 := (St_eq hs3).symm
  subst hs3
  refine x_if_eq (tgt := 23) hM d_WP_leads_8 (by decide) (fun q30 => ?_) (fun q30 => ?_)
  · replace F := F.1 q30
    refine x_bipush (v := (-2)) hM d_WP_leads_23 (by decide) ?_
    exact x_ireturn hM d_WP_leads_25 rfl (y_end V hSt (F _))
  · replace F := F.2 q30
    refine x_aload_n hM d_WP_leads_11 rfl 0 rfl ?_
    refine y_getr hG hM V ck_WP 0 (Nat.le_of_ble_eq_true rfl) rfl rfl w_402 rfl d_WP_leads_12 (0, 0, 0) (1, 0, 0) rfl rfl rfl ?_
    refine x_iload_n hM d_WP_leads_15 rfl 2 rfl ?_
    refine x_iload_n hM d_WP_leads_16 rfl 3 rfl ?_
    refine x_callV hG hM (r' := r_Wo_isOutcome) (ci := 1) [.int v2, .int v3] rfl rfl (Nat.le_of_ble_eq_true rfl) yk_Wo_isOutcome ⟨Nat.le_of_ble_eq_true rfl, Nat.le_of_ble_eq_true rfl⟩ w_516 w_517 w_518 rfl rfl (Nat.le_of_ble_eq_true rfl) d_WP_leads_17 (by rw [vT V rfl]; rfl) (sem_mono (F _ _ V) ?_)
    intro u6 h F
    obtain ⟨ad29, ρ5, V, hs7, F⟩ := F
    obtain ⟨x8, rfl, F⟩ := F
    have hs7 := (St_eq hs7).symm
    subst hs7
    refine x_if_ne (tgt := 26) hM d_WP_leads_20 (by decide) (fun q28 => ?_) (fun q28 => ?_)
    · replace F := F.2 q28
      refine x_aload_n hM d_WP_leads_26 rfl 0 rfl ?_
      refine y_getr hG hM V ck_WP 0 (Nat.le_of_ble_eq_true rfl) rfl rfl w_402 rfl d_WP_leads_27 (0, 0, 0) (1, 0, 0) rfl rfl rfl ?_
      refine y_getr hG hM V ck_Wo 5 (Nat.le_of_ble_eq_true rfl) rfl rfl w_146 rfl d_WP_leads_30 (1, 0, 0) (30, 5, 0) rfl rfl rfl ?_
      refine x_iload_n hM d_WP_leads_33 rfl 2 rfl ?_
      obtain ⟨c9, F⟩ := F
      refine y_acts hG hM V d_WP_leads_34 c9 ?_
      refine x_astore (lv2 := [(4, .ref (ad (20, (Int32.toNatClampNeg v2), 0))), (0, .ref (ad (0, 0, 0))), (1, .int v1), (2, .int v2), (3, .int v3)]) hM d_WP_leads_35 (Nat.le_of_ble_eq_true rfl) rfl ?_
      refine x_aload_n hM d_WP_leads_37 rfl 1 rfl ?_
      refine y_getr hG hM V ck_WP 0 (Nat.le_of_ble_eq_true rfl) rfl rfl w_402 rfl d_WP_leads_38 (0, 0, 0) (1, 0, 0) rfl rfl rfl ?_
      refine x_iload_n hM d_WP_leads_41 rfl 2 rfl ?_
      refine x_callV hG hM (r' := r_Wo_pack) (ci := 1) [.int v1] rfl rfl (Nat.le_of_ble_eq_true rfl) yk_Wo_pack ⟨Nat.le_of_ble_eq_true rfl, Nat.le_of_ble_eq_true rfl⟩ w_549 w_550 w_551 rfl rfl (Nat.le_of_ble_eq_true rfl) d_WP_leads_42 (by rw [vT V rfl]; rfl) (sem_mono (F _ _ V) ?_)
      intro u11 h F
      obtain ⟨ad27, ρ10, V, hs12, F⟩ := F
      obtain ⟨x13, rfl, F⟩ := F
      have hs12 := (St_eq hs12).symm
      subst hs12
      refine x_istore (lv2 := [(5, .int x13), (4, .ref (ad (20, (Int32.toNatClampNeg v2), 0))), (0, .ref (ad (0, 0, 0))), (1, .int v1), (2, .int v2), (3, .int v3)]) hM d_WP_leads_45 (Nat.le_of_ble_eq_true rfl) rfl ?_
      refine x_aload hM d_WP_leads_47 1 rfl ?_
      refine y_getr hG hM V ck_Ac 0 (Nat.le_of_ble_eq_true rfl) rfl rfl w_95 rfl d_WP_leads_49 (20, (Int32.toNatClampNeg v2), 0) (10, (Int32.toNatClampNeg v2) + 2, 0) (ok_ac (vp_lt c9)) rfl rfl ?_
      refine x_iload hM d_WP_leads_52 0 rfl ?_
      refine x_callV hG hM (r' := r_Cl_hold) (ci := 4) [.int x13] rfl rfl (Nat.le_of_ble_eq_true rfl) yk_Cl_hold ⟨Nat.le_of_ble_eq_true rfl, Nat.le_of_ble_eq_true rfl⟩ w_553 w_554 w_555 rfl rfl (Nat.le_of_ble_eq_true rfl) d_WP_leads_54 (by rw [vT V (ok_cl (okC_ac (vp_lt c9)))]; rfl) (sem_mono (F _ _ V) ?_)
      intro u15 h F
      obtain ⟨ad26, ρ14, V, hs16, F⟩ := F
      obtain ⟨x17, rfl, F⟩ := F
      have hs16 := (St_eq hs16).symm
      subst hs16
      refine x_if_eq (tgt := 83) hM d_WP_leads_57 (by decide) (fun q25 => ?_) (fun q25 => ?_)
      · replace F := F.1 q25
        refine x_iconst (v := (-1)) hM d_WP_leads_83 (by decide) ?_
        exact x_ireturn hM d_WP_leads_84 rfl (y_end V hSt (F _))
      · replace F := F.2 q25
        refine x_aload_n hM d_WP_leads_60 rfl 2 rfl ?_
        refine y_getr hG hM V ck_WP 0 (Nat.le_of_ble_eq_true rfl) rfl rfl w_402 rfl d_WP_leads_61 (0, 0, 0) (1, 0, 0) rfl rfl rfl ?_
        refine x_aload hM d_WP_leads_64 1 rfl ?_
        refine y_getr hG hM V ck_Ac 1 (Nat.le_of_ble_eq_true rfl) rfl rfl w_101 rfl d_WP_leads_66 (20, (Int32.toNatClampNeg v2), 0) (21, (Int32.toNatClampNeg v2), 0) (ok_ac (vp_lt c9)) rfl rfl ?_
        refine x_iload_n hM d_WP_leads_69 rfl 5 rfl ?_
        obtain ⟨c19, F⟩ := F
        refine y_outs hG hM V d_WP_leads_70 (vp_lt c9) c19 ?_
        refine y_getr hG hM V ck_Ou 0 (Nat.le_of_ble_eq_true rfl) rfl rfl w_75 rfl d_WP_leads_71 (22, (Int32.toNatClampNeg v2), (Int32.toNatClampNeg v3)) (10, (Int32.toNatClampNeg v2) + 2, (Int32.toNatClampNeg v3) + 1) (ok_ou (vp_lt c9) (vp_lt c19)) rfl rfl ?_
        refine x_iload_n hM d_WP_leads_74 rfl 3 rfl ?_
        refine x_iload hM d_WP_leads_75 0 rfl ?_
        refine x_callV hG hM (r' := r_Wo_after) (ci := 1) [.ref (ad (10, (Int32.toNatClampNeg v2) + 2, (Int32.toNatClampNeg v3) + 1)), .int v1, .int x13] rfl rfl (Nat.le_of_ble_eq_true rfl) yk_Wo_after ⟨Nat.le_of_ble_eq_true rfl, Nat.le_of_ble_eq_true rfl⟩ w_560 w_561 w_562 rfl rfl (Nat.le_of_ble_eq_true rfl) d_WP_leads_77 (by rw [vT V rfl]; rfl) (sem_mono (F _ _ V) ?_)
        intro u21 h F
        obtain ⟨ad24, ρ20, V, hs22, F⟩ := F
        obtain ⟨x23, rfl, F⟩ := F
        have hs22 := (St_eq hs22).symm
        subst hs22
        refine x_goto (tgt := 84) hM d_WP_leads_80 (by decide) ?_
        exact x_ireturn hM d_WP_leads_84 rfl (y_end V hSt (F _))
    · replace F := F.1 q28
      refine x_bipush (v := (-2)) hM d_WP_leads_23 (by decide) ?_
      exact x_ireturn hM d_WP_leads_25 rfl (y_end V hSt (F _))
set_option maxRecDepth 100000 in
set_option maxHeartbeats 4000000 in
theorem T_WP_count_0 {G : Gc} {M : Mc} {Q : State → Prop} {ad0 : Ro → Nat} {K : (Ro → Nat) → Option Value → Rs → Prop} (hG : gok G) (hM : mok G M r_WP_count Q (KV G [23, 24, 30, 32, 33, 34] ad0 K)) (v1 : Int32) (ρ : Rs) (F : (v1 < 3 → (Y G [23, 24, 30, 32, 33, 34] ad0 M Q 18 (fun ad => [(0, .ref (ad (0, 0, 0))), (1, .int v1)]) (fun ad => []) ρ)) ∧ (¬ v1 < 3 → ((9 < v1 → (Y G [23, 24, 30, 32, 33, 34] ad0 M Q 18 (fun ad => [(0, .ref (ad (0, 0, 0))), (1, .int v1)]) (fun ad => []) ρ)) ∧ (¬ 9 < v1 → (semV G r_Wo_prepare [23, 24, 30] (fun ad => [.ref (ad (1, 0, 0))]) ρ (fun ad u2 ρ1 => u2 = none ∧ (Y G [23, 24, 30, 32, 33, 34] ad0 M Q 18 (fun ad => [(0, .ref (ad (0, 0, 0))), (1, .int v1)]) (fun ad => []) ρ1))))))) : Y G [23, 24, 30, 32, 33, 34] ad0 M Q 0 (fun ad => [(0, .ref (ad (0, 0, 0))), (1, .int v1)]) (fun ad => []) ρ := by
  intro ad h hSt V
  show X G M Q 0 [(0, .ref (ad (0, 0, 0))), (1, .int v1)] [] h
  refine x_iload_n hM d_WP_count_0 rfl 1 rfl ?_
  refine x_iconst (v := 3) hM d_WP_count_1 (by decide) ?_
  refine x_icmp_lt (tgt := 18) hM d_WP_count_2 (by decide) (fun q6 => ?_) (fun q6 => ?_)
  · replace F := F.1 q6
    exact F _ _ hSt V
  · replace F := F.2 q6
    refine x_iload_n hM d_WP_count_5 rfl 1 rfl ?_
    refine x_bipush (v := 9) hM d_WP_count_6 (by decide) ?_
    refine x_icmp_gt (tgt := 18) hM d_WP_count_8 (by decide) (fun q5 => ?_) (fun q5 => ?_)
    · replace F := F.1 q5
      exact F _ _ hSt V
    · replace F := F.2 q5
      refine x_aload_n hM d_WP_count_11 rfl 0 rfl ?_
      refine y_getr hG hM V ck_WP 0 (Nat.le_of_ble_eq_true rfl) rfl rfl w_402 rfl d_WP_count_12 (0, 0, 0) (1, 0, 0) rfl rfl rfl ?_
      refine x_callV hG hM (r' := r_Wo_prepare) (ci := 1) [] rfl rfl (Nat.le_of_ble_eq_true rfl) yk_Wo_prepare ⟨Nat.le_of_ble_eq_true rfl, Nat.le_of_ble_eq_true rfl⟩ w_577 w_578 w_579 rfl rfl (Nat.le_of_ble_eq_true rfl) d_WP_count_15 (by rw [vT V rfl]; rfl) (sem_mono (F _ _ V) ?_)
      intro u2 h F
      obtain ⟨ad4, ρ1, V, hs3, F⟩ := F
      obtain ⟨rfl, F⟩ := F
      have ea0 : ad4 (0, 0, 0) = ad (0, 0, 0) := hs3 _ (Or.inr rfl)
      rw [← ea0]
      replace hSt := St_tr hSt (St_mono (mv' := [23, 24, 30]) (by decide) hs3)
      exact F _ _ hSt V
set_option maxRecDepth 100000 in
set_option maxHeartbeats 4000000 in
theorem T_WP_count_18 {G : Gc} {M : Mc} {Q : State → Prop} {ad0 : Ro → Nat} {K : (Ro → Nat) → Option Value → Rs → Prop} (hG : gok G) (hM : mok G M r_WP_count Q (KV G [23, 24, 30, 32, 33, 34] ad0 K)) (v1 : Int32) (ρ : Rs) (F : (v1 = 0 → (∀ ad, K ad (some (.int (iR ρ (1, 0, 0) 1))) ρ)) ∧ (v1 = 1 → (∀ ad, K ad (some (.int (iR ρ (1, 0, 0) 0))) ρ)) ∧ (v1 = 2 → (∀ ad, K ad (some (.int (iR ρ (1, 0, 0) 2))) ρ)) ∧ (v1 = 3 → (semV G r_WP_findReached [32] (fun ad => [.ref (ad (0, 0, 0))]) ρ (fun ad u2 ρ1 => u2 = none ∧ (∀ ad, K ad (some (.int (iR ρ1 (5, 0, 0) 3))) ρ1)))) ∧ (v1 = 4 → (semV G r_WP_findAim [33] (fun ad => [.ref (ad (0, 0, 0))]) ρ (fun ad u6 ρ5 => u6 = none ∧ (∀ ad, K ad (some (.int (iR ρ5 (6, 0, 0) 1))) ρ5)))) ∧ (v1 = 5 → (semV G r_WP_findNumbers [33] (fun ad => [.ref (ad (0, 0, 0)), .int 1]) ρ (fun ad u10 ρ9 => ∃ g12 : Ro, okR g12 = true ∧ tgR g12 = 50 ∧ u10 = some (.ref (ad g12)) ∧ (semV G r_WP_countNumbered [] (fun ad => [.ref (ad (0, 0, 0)), .ref (ad g12)]) ρ9 (fun ad u15 ρ14 => ∃ x17 : Int32, u15 = some (.int x17) ∧ (∀ ad, K ad (some (.int x17)) ρ14)))))) ∧ (v1 = 6 → (semV G r_WP_findNumbers [33] (fun ad => [.ref (ad (0, 0, 0)), .int 2]) ρ (fun ad u20 ρ19 => ∃ g22 : Ro, okR g22 = true ∧ tgR g22 = 50 ∧ u20 = some (.ref (ad g22)) ∧ (semV G r_WP_countNumbered [] (fun ad => [.ref (ad (0, 0, 0)), .ref (ad g22)]) ρ19 (fun ad u25 ρ24 => ∃ x27 : Int32, u25 = some (.int x27) ∧ (∀ ad, K ad (some (.int x27)) ρ24)))))) ∧ (v1 = 7 → (semV G r_WP_findNumbers [33] (fun ad => [.ref (ad (0, 0, 0)), .int 3]) ρ (fun ad u30 ρ29 => ∃ g32 : Ro, okR g32 = true ∧ tgR g32 = 50 ∧ u30 = some (.ref (ad g32)) ∧ (semV G r_WP_countNumbered [] (fun ad => [.ref (ad (0, 0, 0)), .ref (ad g32)]) ρ29 (fun ad u35 ρ34 => ∃ x37 : Int32, u35 = some (.int x37) ∧ (∀ ad, K ad (some (.int x37)) ρ34)))))) ∧ (v1 = 8 → (semV G r_WP_countDead [32, 33] (fun ad => [.ref (ad (0, 0, 0))]) ρ (fun ad u40 ρ39 => ∃ x42 : Int32, u40 = some (.int x42) ∧ (∀ ad, K ad (some (.int x42)) ρ39)))) ∧ (v1 = 9 → (semV G r_WP_findKinds [33, 34] (fun ad => [.ref (ad (0, 0, 0))]) ρ (fun ad u45 ρ44 => u45 = none ∧ (∀ ad, K ad (some (.int (iR ρ44 (7, 0, 0) 0))) ρ44)))) ∧ (v1 = 10 → (∀ ad, K ad (some (.int (iR ρ (3, 0, 0) 0))) ρ)) ∧ (¬ v1 = 0 → ¬ v1 = 1 → ¬ v1 = 2 → ¬ v1 = 3 → ¬ v1 = 4 → ¬ v1 = 5 → ¬ v1 = 6 → ¬ v1 = 7 → ¬ v1 = 8 → ¬ v1 = 9 → ¬ v1 = 10 → (∀ ad, K ad (some (.int (-2))) ρ))) : Y G [23, 24, 30, 32, 33, 34] ad0 M Q 18 (fun ad => [(0, .ref (ad (0, 0, 0))), (1, .int v1)]) (fun ad => []) ρ := by
  intro ad h hSt V
  show X G M Q 18 [(0, .ref (ad (0, 0, 0))), (1, .int v1)] [] h
  refine x_iload_n hM d_WP_count_18 rfl 1 rfl ?_
  by_cases q19_0 : v1 = 0
  · replace F := F.1 q19_0
    refine x_tblIn (tgt := 76) hM d_WP_count_19 (by rw [q19_0]; decide) (by rw [q19_0]; decide) (by rw [q19_0]; rfl) (by decide) ?_
    refine x_aload_n hM d_WP_count_76 rfl 0 rfl ?_
    refine y_getr hG hM V ck_WP 0 (Nat.le_of_ble_eq_true rfl) rfl rfl w_402 rfl d_WP_count_77 (0, 0, 0) (1, 0, 0) rfl rfl rfl ?_
    refine y_geti hG hM V ck_Wo 1 (Nat.le_of_ble_eq_true rfl) rfl rfl w_132 rfl d_WP_count_80 (1, 0, 0) rfl rfl ?_
    exact x_ireturn hM d_WP_count_83 rfl (y_end V hSt (F _))
  by_cases q19_1 : v1 = 1
  · replace F := F.2.1 q19_1
    refine x_tblIn (tgt := 84) hM d_WP_count_19 (by rw [q19_1]; decide) (by rw [q19_1]; decide) (by rw [q19_1]; rfl) (by decide) ?_
    refine x_aload_n hM d_WP_count_84 rfl 0 rfl ?_
    refine y_getr hG hM V ck_WP 0 (Nat.le_of_ble_eq_true rfl) rfl rfl w_402 rfl d_WP_count_85 (0, 0, 0) (1, 0, 0) rfl rfl rfl ?_
    refine y_geti hG hM V ck_Wo 0 (Nat.le_of_ble_eq_true rfl) rfl rfl w_124 rfl d_WP_count_88 (1, 0, 0) rfl rfl ?_
    exact x_ireturn hM d_WP_count_91 rfl (y_end V hSt (F _))
  by_cases q19_2 : v1 = 2
  · replace F := F.2.2.1 q19_2
    refine x_tblIn (tgt := 92) hM d_WP_count_19 (by rw [q19_2]; decide) (by rw [q19_2]; decide) (by rw [q19_2]; rfl) (by decide) ?_
    refine x_aload_n hM d_WP_count_92 rfl 0 rfl ?_
    refine y_getr hG hM V ck_WP 0 (Nat.le_of_ble_eq_true rfl) rfl rfl w_402 rfl d_WP_count_93 (0, 0, 0) (1, 0, 0) rfl rfl rfl ?_
    refine y_geti hG hM V ck_Wo 2 (Nat.le_of_ble_eq_true rfl) rfl rfl w_136 rfl d_WP_count_96 (1, 0, 0) rfl rfl ?_
    exact x_ireturn hM d_WP_count_99 rfl (y_end V hSt (F _))
  by_cases q19_3 : v1 = 3
  · replace F := F.2.2.2.1 q19_3
    refine x_tblIn (tgt := 100) hM d_WP_count_19 (by rw [q19_3]; decide) (by rw [q19_3]; decide) (by rw [q19_3]; rfl) (by decide) ?_
    refine x_aload_n hM d_WP_count_100 rfl 0 rfl ?_
    refine x_callV hG hM (r' := r_WP_findReached) (ci := 0) [] rfl rfl (Nat.le_of_ble_eq_true rfl) yk_WP_findReached ⟨Nat.le_of_ble_eq_true rfl, Nat.le_of_ble_eq_true rfl⟩ w_616 w_618 ws_WP_findReached rfl rfl (Nat.le_of_ble_eq_true rfl) d_WP_count_101 (by rw [vT V rfl]; rfl) (sem_mono (F _ _ V) ?_)
    intro u2 h F
    obtain ⟨ad4, ρ1, V, hs3, F⟩ := F
    obtain ⟨rfl, F⟩ := F
    have ea0 : ad4 (0, 0, 0) = ad (0, 0, 0) := hs3 _ (Or.inr rfl)
    rw [← ea0]
    replace hSt := St_tr hSt (St_mono (mv' := [32]) (by decide) hs3)
    refine x_aload_n hM d_WP_count_104 rfl 0 rfl ?_
    refine y_getr hG hM V ck_WP 4 (Nat.le_of_ble_eq_true rfl) rfl rfl w_406 rfl d_WP_count_105 (0, 0, 0) (5, 0, 0) rfl rfl rfl ?_
    refine y_geti hG hM V ck_Re 3 (Nat.le_of_ble_eq_true rfl) rfl rfl w_262 rfl d_WP_count_108 (5, 0, 0) rfl rfl ?_
    exact x_ireturn hM d_WP_count_111 rfl (y_end V hSt (F _))
  by_cases q19_4 : v1 = 4
  · replace F := F.2.2.2.2.1 q19_4
    refine x_tblIn (tgt := 112) hM d_WP_count_19 (by rw [q19_4]; decide) (by rw [q19_4]; decide) (by rw [q19_4]; rfl) (by decide) ?_
    refine x_aload_n hM d_WP_count_112 rfl 0 rfl ?_
    refine x_callV hG hM (r' := r_WP_findAim) (ci := 0) [] rfl rfl (Nat.le_of_ble_eq_true rfl) yk_WP_findAim ⟨Nat.le_of_ble_eq_true rfl, Nat.le_of_ble_eq_true rfl⟩ w_638 w_640 ws_WP_findAim rfl rfl (Nat.le_of_ble_eq_true rfl) d_WP_count_113 (by rw [vT V rfl]; rfl) (sem_mono (F _ _ V) ?_)
    intro u6 h F
    obtain ⟨ad8, ρ5, V, hs7, F⟩ := F
    obtain ⟨rfl, F⟩ := F
    have ea0 : ad8 (0, 0, 0) = ad (0, 0, 0) := hs7 _ (Or.inr rfl)
    rw [← ea0]
    replace hSt := St_tr hSt (St_mono (mv' := [33]) (by decide) hs7)
    refine x_aload_n hM d_WP_count_116 rfl 0 rfl ?_
    refine y_getr hG hM V ck_WP 5 (Nat.le_of_ble_eq_true rfl) rfl rfl w_407 rfl d_WP_count_117 (0, 0, 0) (6, 0, 0) rfl rfl rfl ?_
    refine y_geti hG hM V ck_Wi 1 (Nat.le_of_ble_eq_true rfl) rfl rfl w_286 rfl d_WP_count_120 (6, 0, 0) rfl rfl ?_
    exact x_ireturn hM d_WP_count_123 rfl (y_end V hSt (F _))
  by_cases q19_5 : v1 = 5
  · replace F := F.2.2.2.2.2.1 q19_5
    refine x_tblIn (tgt := 124) hM d_WP_count_19 (by rw [q19_5]; decide) (by rw [q19_5]; decide) (by rw [q19_5]; rfl) (by decide) ?_
    refine x_aload_n hM d_WP_count_124 rfl 0 rfl ?_
    refine x_aload_n hM d_WP_count_125 rfl 0 rfl ?_
    refine x_iconst (v := 1) hM d_WP_count_126 (by decide) ?_
    refine x_callV hG hM (r' := r_WP_findNumbers) (ci := 0) [.int 1] rfl rfl (Nat.le_of_ble_eq_true rfl) yk_WP_findNumbers ⟨Nat.le_of_ble_eq_true rfl, Nat.le_of_ble_eq_true rfl⟩ w_650 w_652 ws_WP_findNumbers rfl rfl (Nat.le_of_ble_eq_true rfl) d_WP_count_127 (by rw [vT V rfl]; rfl) (sem_mono (F _ _ V) ?_)
    intro u10 h F
    obtain ⟨ad13, ρ9, V, hs11, F⟩ := F
    obtain ⟨g12, og12, tg12, rfl, F⟩ := F
    have ea0 : ad13 (0, 0, 0) = ad (0, 0, 0) := hs11 _ (Or.inr rfl)
    rw [← ea0]
    replace hSt := St_tr hSt (St_mono (mv' := [33]) (by decide) hs11)
    refine x_callV hG hM (r' := r_WP_countNumbered) (ci := 0) [.ref (ad13 g12)] rfl rfl (Nat.le_of_ble_eq_true rfl) yk_WP_countNumbered ⟨Nat.le_of_ble_eq_true rfl, Nat.le_of_ble_eq_true rfl⟩ w_686 w_688 ws_WP_countNumbered rfl rfl (Nat.le_of_ble_eq_true rfl) d_WP_count_130 (by rw [vT V rfl]; rfl) (sem_mono (F _ _ V) ?_)
    intro u15 h F
    obtain ⟨ad18, ρ14, V, hs16, F⟩ := F
    obtain ⟨x17, rfl, F⟩ := F
    have hs16 := (St_eq hs16).symm
    subst hs16
    exact x_ireturn hM d_WP_count_133 rfl (y_end V hSt (F _))
  by_cases q19_6 : v1 = 6
  · replace F := F.2.2.2.2.2.2.1 q19_6
    refine x_tblIn (tgt := 134) hM d_WP_count_19 (by rw [q19_6]; decide) (by rw [q19_6]; decide) (by rw [q19_6]; rfl) (by decide) ?_
    refine x_aload_n hM d_WP_count_134 rfl 0 rfl ?_
    refine x_aload_n hM d_WP_count_135 rfl 0 rfl ?_
    refine x_iconst (v := 2) hM d_WP_count_136 (by decide) ?_
    refine x_callV hG hM (r' := r_WP_findNumbers) (ci := 0) [.int 2] rfl rfl (Nat.le_of_ble_eq_true rfl) yk_WP_findNumbers ⟨Nat.le_of_ble_eq_true rfl, Nat.le_of_ble_eq_true rfl⟩ w_650 w_652 ws_WP_findNumbers rfl rfl (Nat.le_of_ble_eq_true rfl) d_WP_count_137 (by rw [vT V rfl]; rfl) (sem_mono (F _ _ V) ?_)
    intro u20 h F
    obtain ⟨ad23, ρ19, V, hs21, F⟩ := F
    obtain ⟨g22, og22, tg22, rfl, F⟩ := F
    have ea0 : ad23 (0, 0, 0) = ad (0, 0, 0) := hs21 _ (Or.inr rfl)
    rw [← ea0]
    replace hSt := St_tr hSt (St_mono (mv' := [33]) (by decide) hs21)
    refine x_callV hG hM (r' := r_WP_countNumbered) (ci := 0) [.ref (ad23 g22)] rfl rfl (Nat.le_of_ble_eq_true rfl) yk_WP_countNumbered ⟨Nat.le_of_ble_eq_true rfl, Nat.le_of_ble_eq_true rfl⟩ w_686 w_688 ws_WP_countNumbered rfl rfl (Nat.le_of_ble_eq_true rfl) d_WP_count_140 (by rw [vT V rfl]; rfl) (sem_mono (F _ _ V) ?_)
    intro u25 h F
    obtain ⟨ad28, ρ24, V, hs26, F⟩ := F
    obtain ⟨x27, rfl, F⟩ := F
    have hs26 := (St_eq hs26).symm
    subst hs26
    exact x_ireturn hM d_WP_count_143 rfl (y_end V hSt (F _))
  by_cases q19_7 : v1 = 7
  · replace F := F.2.2.2.2.2.2.2.1 q19_7
    refine x_tblIn (tgt := 144) hM d_WP_count_19 (by rw [q19_7]; decide) (by rw [q19_7]; decide) (by rw [q19_7]; rfl) (by decide) ?_
    refine x_aload_n hM d_WP_count_144 rfl 0 rfl ?_
    refine x_aload_n hM d_WP_count_145 rfl 0 rfl ?_
    refine x_iconst (v := 3) hM d_WP_count_146 (by decide) ?_
    refine x_callV hG hM (r' := r_WP_findNumbers) (ci := 0) [.int 3] rfl rfl (Nat.le_of_ble_eq_true rfl) yk_WP_findNumbers ⟨Nat.le_of_ble_eq_true rfl, Nat.le_of_ble_eq_true rfl⟩ w_650 w_652 ws_WP_findNumbers rfl rfl (Nat.le_of_ble_eq_true rfl) d_WP_count_147 (by rw [vT V rfl]; rfl) (sem_mono (F _ _ V) ?_)
    intro u30 h F
    obtain ⟨ad33, ρ29, V, hs31, F⟩ := F
    obtain ⟨g32, og32, tg32, rfl, F⟩ := F
    have ea0 : ad33 (0, 0, 0) = ad (0, 0, 0) := hs31 _ (Or.inr rfl)
    rw [← ea0]
    replace hSt := St_tr hSt (St_mono (mv' := [33]) (by decide) hs31)
    refine x_callV hG hM (r' := r_WP_countNumbered) (ci := 0) [.ref (ad33 g32)] rfl rfl (Nat.le_of_ble_eq_true rfl) yk_WP_countNumbered ⟨Nat.le_of_ble_eq_true rfl, Nat.le_of_ble_eq_true rfl⟩ w_686 w_688 ws_WP_countNumbered rfl rfl (Nat.le_of_ble_eq_true rfl) d_WP_count_150 (by rw [vT V rfl]; rfl) (sem_mono (F _ _ V) ?_)
    intro u35 h F
    obtain ⟨ad38, ρ34, V, hs36, F⟩ := F
    obtain ⟨x37, rfl, F⟩ := F
    have hs36 := (St_eq hs36).symm
    subst hs36
    exact x_ireturn hM d_WP_count_153 rfl (y_end V hSt (F _))
  by_cases q19_8 : v1 = 8
  · replace F := F.2.2.2.2.2.2.2.2.1 q19_8
    refine x_tblIn (tgt := 154) hM d_WP_count_19 (by rw [q19_8]; decide) (by rw [q19_8]; decide) (by rw [q19_8]; rfl) (by decide) ?_
    refine x_aload_n hM d_WP_count_154 rfl 0 rfl ?_
    refine x_callV hG hM (r' := r_WP_countDead) (ci := 0) [] rfl rfl (Nat.le_of_ble_eq_true rfl) yk_WP_countDead ⟨Nat.le_of_ble_eq_true rfl, Nat.le_of_ble_eq_true rfl⟩ w_690 w_692 ws_WP_countDead rfl rfl (Nat.le_of_ble_eq_true rfl) d_WP_count_155 (by rw [vT V rfl]; rfl) (sem_mono (F _ _ V) ?_)
    intro u40 h F
    obtain ⟨ad43, ρ39, V, hs41, F⟩ := F
    obtain ⟨x42, rfl, F⟩ := F
    have ea0 : ad43 (0, 0, 0) = ad (0, 0, 0) := hs41 _ (Or.inr rfl)
    rw [← ea0]
    replace hSt := St_tr hSt (St_mono (mv' := [32, 33]) (by decide) hs41)
    exact x_ireturn hM d_WP_count_158 rfl (y_end V hSt (F _))
  by_cases q19_9 : v1 = 9
  · replace F := F.2.2.2.2.2.2.2.2.2.1 q19_9
    refine x_tblIn (tgt := 159) hM d_WP_count_19 (by rw [q19_9]; decide) (by rw [q19_9]; decide) (by rw [q19_9]; rfl) (by decide) ?_
    refine x_aload_n hM d_WP_count_159 rfl 0 rfl ?_
    refine x_callV hG hM (r' := r_WP_findKinds) (ci := 0) [] rfl rfl (Nat.le_of_ble_eq_true rfl) yk_WP_findKinds ⟨Nat.le_of_ble_eq_true rfl, Nat.le_of_ble_eq_true rfl⟩ w_694 w_696 ws_WP_findKinds rfl rfl (Nat.le_of_ble_eq_true rfl) d_WP_count_160 (by rw [vT V rfl]; rfl) (sem_mono (F _ _ V) ?_)
    intro u45 h F
    obtain ⟨ad47, ρ44, V, hs46, F⟩ := F
    obtain ⟨rfl, F⟩ := F
    have ea0 : ad47 (0, 0, 0) = ad (0, 0, 0) := hs46 _ (Or.inr rfl)
    rw [← ea0]
    replace hSt := St_tr hSt (St_mono (mv' := [33, 34]) (by decide) hs46)
    refine x_aload_n hM d_WP_count_163 rfl 0 rfl ?_
    refine y_getr hG hM V ck_WP 6 (Nat.le_of_ble_eq_true rfl) rfl rfl w_408 rfl d_WP_count_164 (0, 0, 0) (7, 0, 0) rfl rfl rfl ?_
    refine y_geti hG hM V ck_Ki 0 (Nat.le_of_ble_eq_true rfl) rfl rfl w_322 rfl d_WP_count_167 (7, 0, 0) rfl rfl ?_
    exact x_ireturn hM d_WP_count_170 rfl (y_end V hSt (F _))
  by_cases q19_10 : v1 = 10
  · replace F := F.2.2.2.2.2.2.2.2.2.2.1 q19_10
    refine x_tblIn (tgt := 171) hM d_WP_count_19 (by rw [q19_10]; decide) (by rw [q19_10]; decide) (by rw [q19_10]; rfl) (by decide) ?_
    refine x_aload_n hM d_WP_count_171 rfl 0 rfl ?_
    refine y_getr hG hM V ck_WP 2 (Nat.le_of_ble_eq_true rfl) rfl rfl w_404 rfl d_WP_count_172 (0, 0, 0) (3, 0, 0) rfl rfl rfl ?_
    refine y_geti hG hM V ck_Co 0 (Nat.le_of_ble_eq_true rfl) rfl rfl w_195 rfl d_WP_count_175 (3, 0, 0) rfl rfl ?_
    exact x_ireturn hM d_WP_count_178 rfl (y_end V hSt (F _))
  replace F := F.2.2.2.2.2.2.2.2.2.2.2 q19_0 q19_1 q19_2 q19_3 q19_4 q19_5 q19_6 q19_7 q19_8 q19_9 q19_10
  refine x_tblOut (tgt := 179) hM d_WP_count_19 (sw_out10 q19_0 q19_1 q19_2 q19_3 q19_4 q19_5 q19_6 q19_7 q19_8 q19_9 q19_10) (by decide) ?_
  refine x_bipush (v := (-2)) hM d_WP_count_179 (by decide) ?_
  exact x_ireturn hM d_WP_count_181 rfl (y_end V hSt (F _))
