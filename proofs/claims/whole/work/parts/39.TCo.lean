set_option maxRecDepth 100000 in
set_option maxHeartbeats 4000000 in
theorem T_Co_addPart_0 {G : Gc} {M : Mc} {Q : State → Prop} {ad0 : Ro → Nat} {K : (Ro → Nat) → Option Value → Rs → Prop} (hG : gok G) (hM : mok G M r_Co_addPart Q (KV G [] ad0 K))  (ρ : Rs) (F : ((iR ρ (3, 0, 0) 0) < 6 → (vp_in (iR ρ (3, 0, 0) 0) 6 ∧ (∀ ρ2 : Rs, ρ2 = pI ρ (10, 1, (Int32.toNatClampNeg (iR ρ (3, 0, 0) 0))) 0 0 → (∀ ρ3 : Rs, ρ3 = pI ρ2 (3, 0, 0) 0 ((iR ρ2 (3, 0, 0) 0) + 1) → (∀ ad, K ad (some (.int ((iR ρ3 (3, 0, 0) 0) - 1))) ρ3))))) ∧ (¬ (iR ρ (3, 0, 0) 0) < 6 → (∀ ad, K ad (some (.int (-3))) ρ))) : Y G [] ad0 M Q 0 (fun ad => [(0, .ref (ad (3, 0, 0)))]) (fun ad => []) ρ := by
  intro ad h hSt V
  show X G M Q 0 [(0, .ref (ad (3, 0, 0)))] [] h
  refine x_aload_n hM d_Co_addPart_0 rfl 0 rfl ?_
  refine y_geti hG hM V ck_Co 0 (Nat.le_of_ble_eq_true rfl) rfl rfl w_194 rfl d_Co_addPart_1 (3, 0, 0) rfl rfl ?_
  refine x_bipush (v := 6) hM d_Co_addPart_4 (by decide) ?_
  refine x_icmp_lt (tgt := 12) hM d_Co_addPart_6 (by decide) (fun q4 => ?_) (fun q4 => ?_)
  · replace F := F.1 q4
    refine x_aload_n hM d_Co_addPart_12 rfl 0 rfl ?_
    refine y_getr hG hM V ck_Co 1 (Nat.le_of_ble_eq_true rfl) rfl rfl w_196 rfl d_Co_addPart_13 (3, 0, 0) (31, 1, 0) rfl rfl rfl ?_
    refine x_aload_n hM d_Co_addPart_16 rfl 0 rfl ?_
    refine y_geti hG hM V ck_Co 0 (Nat.le_of_ble_eq_true rfl) rfl rfl w_194 rfl d_Co_addPart_17 (3, 0, 0) rfl rfl ?_
    obtain ⟨c1, F⟩ := F
    refine y_parts hG hM V d_Co_addPart_20 c1 ?_
    refine x_iconst (v := 0) hM d_Co_addPart_21 (by decide) ?_
    obtain ⟨ρ2, eρ2⟩ : ∃ z : Rs, z = pI ρ (10, 1, (Int32.toNatClampNeg (iR ρ (3, 0, 0) 0))) 0 0 := ⟨_, rfl⟩
    replace F := F ρ2 eρ2
    refine y_puti hG hM V ck_Cl 0 (Nat.le_of_ble_eq_true rfl) rfl rfl w_46 rfl d_Co_addPart_22 rfl (10, 1, (Int32.toNatClampNeg (iR ρ (3, 0, 0) 0))) (ok_cl (okC_pa (vp_lt c1))) rfl (fun h V => ?_)
    rw [← eρ2] at V
    clear eρ2
    refine x_aload_n hM d_Co_addPart_25 rfl 0 rfl ?_
    refine x_dup hM d_Co_addPart_26 rfl ?_
    refine y_geti hG hM V ck_Co 0 (Nat.le_of_ble_eq_true rfl) rfl rfl w_194 rfl d_Co_addPart_27 (3, 0, 0) rfl rfl ?_
    refine x_iconst (v := 1) hM d_Co_addPart_30 (by decide) ?_
    refine x_iadd hM d_Co_addPart_31 ?_
    obtain ⟨ρ3, eρ3⟩ : ∃ z : Rs, z = pI ρ2 (3, 0, 0) 0 ((iR ρ2 (3, 0, 0) 0) + 1) := ⟨_, rfl⟩
    replace F := F ρ3 eρ3
    refine y_puti hG hM V ck_Co 0 (Nat.le_of_ble_eq_true rfl) rfl rfl w_194 rfl d_Co_addPart_32 rfl (3, 0, 0) rfl rfl (fun h V => ?_)
    rw [← eρ3] at V
    clear eρ3
    refine x_aload_n hM d_Co_addPart_35 rfl 0 rfl ?_
    refine y_geti hG hM V ck_Co 0 (Nat.le_of_ble_eq_true rfl) rfl rfl w_194 rfl d_Co_addPart_36 (3, 0, 0) rfl rfl ?_
    refine x_iconst (v := 1) hM d_Co_addPart_39 (by decide) ?_
    refine x_isub hM d_Co_addPart_40 ?_
    exact x_ireturn hM d_Co_addPart_41 rfl (y_end V hSt (F _))
  · replace F := F.2 q4
    refine x_bipush (v := (-3)) hM d_Co_addPart_9 (by decide) ?_
    exact x_ireturn hM d_Co_addPart_11 rfl (y_end V hSt (F _))
set_option maxRecDepth 100000 in
set_option maxHeartbeats 4000000 in
theorem T_Co_judge_0 {G : Gc} {M : Mc} {Q : State → Prop} {ad0 : Ro → Nat} {K : (Ro → Nat) → Option Value → Rs → Prop} (hG : gok G) (hM : mok G M r_Co_judge Q (KV G [31] ad0 K)) (v3 : Int32) (ρ : Rs) (F : semV G r_Co_findInside [31] (fun ad => [.ref (ad (3, 0, 0)), .ref (ad (1, 0, 0))]) ρ (fun ad u2 ρ1 => u2 = none ∧ (semV G r_Co_tell [] (fun ad => [.ref (ad (3, 0, 0)), .int 0, .int (-1), .int (-1)]) ρ1 (fun ad u6 ρ5 => u6 = none ∧ (∀ ρ8 : Rs, ρ8 = pI ρ5 (3, 0, 0) 5 (-1) → (vp_in v3 (nR ρ8 (31, 7, 0)) ∧ (((iR ρ8 (31, 7, 0) (Int32.toNatClampNeg v3)) = 0 → (semV G r_Co_tell [] (fun ad => [.ref (ad (3, 0, 0)), .int 1, .int (-1), .int (-1)]) ρ8 (fun ad u11 ρ10 => u11 = none ∧ (∀ ad, K ad none ρ10)))) ∧ (¬ (iR ρ8 (31, 7, 0) (Int32.toNatClampNeg v3)) = 0 → (Y G [31] ad0 M Q 37 (fun ad => [(0, .ref (ad (3, 0, 0))), (1, .ref (ad (1, 0, 0))), (2, .ref (ad (33, 0, 0))), (4, .int 0)]) (fun ad => []) ρ8))))))))) : Y G [31] ad0 M Q 0 (fun ad => [(0, .ref (ad (3, 0, 0))), (1, .ref (ad (1, 0, 0))), (2, .ref (ad (33, 0, 0))), (3, .int v3)]) (fun ad => []) ρ := by
  intro ad h hSt V
  show X G M Q 0 [(0, .ref (ad (3, 0, 0))), (1, .ref (ad (1, 0, 0))), (2, .ref (ad (33, 0, 0))), (3, .int v3)] [] h
  refine x_aload_n hM d_Co_judge_0 rfl 0 rfl ?_
  refine x_aload_n hM d_Co_judge_1 rfl 1 rfl ?_
  refine x_callV hG hM (r' := r_Co_findInside) (ci := 5) [.ref (ad (1, 0, 0))] rfl rfl (Nat.le_of_ble_eq_true rfl) yk_Co_findInside ⟨Nat.le_of_ble_eq_true rfl, Nat.le_of_ble_eq_true rfl⟩ w_867 w_869 ws_Co_findInside rfl rfl (Nat.le_of_ble_eq_true rfl) d_Co_judge_2 (by rw [vT V rfl]; rfl) (sem_mono (F _ _ V) ?_)
  intro u2 h F
  obtain ⟨ad4, ρ1, V, hs3, F⟩ := F
  obtain ⟨rfl, F⟩ := F
  have ea0 : ad4 (3, 0, 0) = ad (3, 0, 0) := hs3 _ (Or.inr rfl)
  have ea1 : ad4 (1, 0, 0) = ad (1, 0, 0) := hs3 _ (Or.inr rfl)
  have ea2 : ad4 (33, 0, 0) = ad (33, 0, 0) := hs3 _ (Or.inl rfl)
  rw [← ea0, ← ea1, ← ea2]
  replace hSt := St_tr hSt (St_mono (mv' := [31]) (by decide) hs3)
  refine x_aload_n hM d_Co_judge_5 rfl 0 rfl ?_
  refine x_iconst (v := 0) hM d_Co_judge_6 (by decide) ?_
  refine x_iconst (v := (-1)) hM d_Co_judge_7 (by decide) ?_
  refine x_iconst (v := (-1)) hM d_Co_judge_8 (by decide) ?_
  refine x_callV hG hM (r' := r_Co_tell) (ci := 5) [.int 0, .int (-1), .int (-1)] rfl rfl (Nat.le_of_ble_eq_true rfl) yk_Co_tell ⟨Nat.le_of_ble_eq_true rfl, Nat.le_of_ble_eq_true rfl⟩ w_877 w_879 ws_Co_tell rfl rfl (Nat.le_of_ble_eq_true rfl) d_Co_judge_9 (by rw [vT V rfl]; rfl) (sem_mono (F _ _ V) ?_)
  intro u6 h F
  obtain ⟨ad15, ρ5, V, hs7, F⟩ := F
  obtain ⟨rfl, F⟩ := F
  have hs7 := (St_eq hs7).symm
  subst hs7
  refine x_aload_n hM d_Co_judge_12 rfl 0 rfl ?_
  refine x_iconst (v := (-1)) hM d_Co_judge_13 (by decide) ?_
  obtain ⟨ρ8, eρ8⟩ : ∃ z : Rs, z = pI ρ5 (3, 0, 0) 5 (-1) := ⟨_, rfl⟩
  replace F := F ρ8 eρ8
  refine y_puti hG hM V ck_Co 5 (Nat.le_of_ble_eq_true rfl) rfl rfl w_204 rfl d_Co_judge_14 rfl (3, 0, 0) rfl rfl (fun h V => ?_)
  rw [← eρ8] at V
  clear eρ8
  refine x_aload_n hM d_Co_judge_17 rfl 0 rfl ?_
  refine y_getr hG hM V ck_Co 7 (Nat.le_of_ble_eq_true rfl) rfl rfl w_208 rfl d_Co_judge_18 (3, 0, 0) (31, 7, 0) rfl rfl rfl ?_
  refine x_iload_n hM d_Co_judge_21 rfl 3 rfl ?_
  obtain ⟨c9, F⟩ := F
  refine y_zaload hG hM V d_Co_judge_22 (31, 7, 0) rfl rfl c9 ?_
  refine x_if_ne (tgt := 34) hM d_Co_judge_23 (by decide) (fun q14 => ?_) (fun q14 => ?_)
  · replace F := F.2 q14
    refine x_iconst (v := 0) hM d_Co_judge_34 (by decide) ?_
    refine x_istore (lv2 := [(4, .int 0), (0, .ref (ad4 (3, 0, 0))), (1, .ref (ad4 (1, 0, 0))), (2, .ref (ad4 (33, 0, 0))), (3, .int v3)]) hM d_Co_judge_35 (Nat.le_of_ble_eq_true rfl) rfl ?_
    refine x_sub [1, 2, 3, 0] rfl ?_
    exact F _ _ hSt V
  · replace F := F.1 q14
    refine x_aload_n hM d_Co_judge_26 rfl 0 rfl ?_
    refine x_iconst (v := 1) hM d_Co_judge_27 (by decide) ?_
    refine x_iconst (v := (-1)) hM d_Co_judge_28 (by decide) ?_
    refine x_iconst (v := (-1)) hM d_Co_judge_29 (by decide) ?_
    refine x_callV hG hM (r' := r_Co_tell) (ci := 5) [.int 1, .int (-1), .int (-1)] rfl rfl (Nat.le_of_ble_eq_true rfl) yk_Co_tell ⟨Nat.le_of_ble_eq_true rfl, Nat.le_of_ble_eq_true rfl⟩ w_877 w_879 ws_Co_tell rfl rfl (Nat.le_of_ble_eq_true rfl) d_Co_judge_30 (by rw [vT V rfl]; rfl) (sem_mono (F _ _ V) ?_)
    intro u11 h F
    obtain ⟨ad13, ρ10, V, hs12, F⟩ := F
    obtain ⟨rfl, F⟩ := F
    have hs12 := (St_eq hs12).symm
    subst hs12
    exact x_return hM d_Co_judge_33 rfl (y_end V hSt (F _))
set_option maxRecDepth 100000 in
set_option maxHeartbeats 4000000 in
theorem T_Co_judge_37 {G : Gc} {M : Mc} {Q : State → Prop} {ad0 : Ro → Nat} {K : (Ro → Nat) → Option Value → Rs → Prop} (hG : gok G) (hM : mok G M r_Co_judge Q (KV G [31] ad0 K)) (v4 : Int32) (ρ : Rs) (F : ((iR ρ (1, 0, 0) 1) ≤ v4 → (Y G [31] ad0 M Q 76 (fun ad => [(0, .ref (ad (3, 0, 0))), (1, .ref (ad (1, 0, 0))), (2, .ref (ad (33, 0, 0))), (4, .int 0)]) (fun ad => []) ρ)) ∧ (¬ (iR ρ (1, 0, 0) 1) ≤ v4 → (vp_in v4 (nR ρ (31, 7, 0)) ∧ (((iR ρ (31, 7, 0) (Int32.toNatClampNeg v4)) = 0 → (Y G [31] ad0 M Q 37 (fun ad => [(0, .ref (ad (3, 0, 0))), (1, .ref (ad (1, 0, 0))), (2, .ref (ad (33, 0, 0))), (4, .int (v4 + 1))]) (fun ad => []) ρ)) ∧ (¬ (iR ρ (31, 7, 0) (Int32.toNatClampNeg v4)) = 0 → (semV G r_Co_leavesFrom [] (fun ad => [.ref (ad (3, 0, 0)), .ref (ad (1, 0, 0)), .int v4]) ρ (fun ad u3 ρ2 => ∃ x5 : Int32, u3 = some (.int x5) ∧ ((x5 = 0 → (Y G [31] ad0 M Q 37 (fun ad => [(0, .ref (ad (3, 0, 0))), (1, .ref (ad (1, 0, 0))), (2, .ref (ad (33, 0, 0))), (4, .int (v4 + 1))]) (fun ad => []) ρ2)) ∧ (¬ x5 = 0 → (∀ ad, K ad none ρ2)))))))))) : Y G [31] ad0 M Q 37 (fun ad => [(0, .ref (ad (3, 0, 0))), (1, .ref (ad (1, 0, 0))), (2, .ref (ad (33, 0, 0))), (4, .int v4)]) (fun ad => []) ρ := by
  intro ad h hSt V
  show X G M Q 37 [(0, .ref (ad (3, 0, 0))), (1, .ref (ad (1, 0, 0))), (2, .ref (ad (33, 0, 0))), (4, .int v4)] [] h
  refine x_iload hM d_Co_judge_37 3 rfl ?_
  refine x_aload_n hM d_Co_judge_39 rfl 1 rfl ?_
  refine y_geti hG hM V ck_Wo 1 (Nat.le_of_ble_eq_true rfl) rfl rfl w_130 rfl d_Co_judge_40 (1, 0, 0) rfl rfl ?_
  refine x_icmp_ge (tgt := 73) hM d_Co_judge_43 (by decide) (fun q9 => ?_) (fun q9 => ?_)
  · replace F := F.1 q9
    refine x_iconst (v := 0) hM d_Co_judge_73 (by decide) ?_
    refine x_istore (lv2 := [(4, .int 0), (0, .ref (ad (3, 0, 0))), (1, .ref (ad (1, 0, 0))), (2, .ref (ad (33, 0, 0)))]) hM d_Co_judge_74 (Nat.le_of_ble_eq_true rfl) rfl ?_
    refine x_sub [1, 2, 3, 0] rfl ?_
    exact F _ _ hSt V
  · replace F := F.2 q9
    refine x_aload_n hM d_Co_judge_46 rfl 0 rfl ?_
    refine y_getr hG hM V ck_Co 7 (Nat.le_of_ble_eq_true rfl) rfl rfl w_208 rfl d_Co_judge_47 (3, 0, 0) (31, 7, 0) rfl rfl rfl ?_
    refine x_iload hM d_Co_judge_50 3 rfl ?_
    obtain ⟨c1, F⟩ := F
    refine y_zaload hG hM V d_Co_judge_52 (31, 7, 0) rfl rfl c1 ?_
    refine x_if_eq (tgt := 67) hM d_Co_judge_53 (by decide) (fun q8 => ?_) (fun q8 => ?_)
    · replace F := F.1 q8
      refine x_iinc (v := (v4 + 1)) (lv2 := [(4, .int (v4 + 1)), (0, .ref (ad (3, 0, 0))), (1, .ref (ad (1, 0, 0))), (2, .ref (ad (33, 0, 0)))]) hM d_Co_judge_67 (j := 3) rfl rfl (Nat.le_of_ble_eq_true rfl) rfl ?_
      refine x_goto (tgt := 37) hM d_Co_judge_70 (by decide) ?_
      refine x_sub [1, 2, 3, 0] rfl ?_
      exact F _ _ hSt V
    · replace F := F.2 q8
      refine x_aload_n hM d_Co_judge_56 rfl 0 rfl ?_
      refine x_aload_n hM d_Co_judge_57 rfl 1 rfl ?_
      refine x_iload hM d_Co_judge_58 3 rfl ?_
      refine x_callV hG hM (r' := r_Co_leavesFrom) (ci := 5) [.ref (ad (1, 0, 0)), .int v4] rfl rfl (Nat.le_of_ble_eq_true rfl) yk_Co_leavesFrom ⟨Nat.le_of_ble_eq_true rfl, Nat.le_of_ble_eq_true rfl⟩ w_881 w_883 ws_Co_leavesFrom rfl rfl (Nat.le_of_ble_eq_true rfl) d_Co_judge_60 (by rw [vT V rfl]; rfl) (sem_mono (F _ _ V) ?_)
      intro u3 h F
      obtain ⟨ad7, ρ2, V, hs4, F⟩ := F
      obtain ⟨x5, rfl, F⟩ := F
      have hs4 := (St_eq hs4).symm
      subst hs4
      refine x_if_eq (tgt := 67) hM d_Co_judge_63 (by decide) (fun q6 => ?_) (fun q6 => ?_)
      · replace F := F.1 q6
        refine x_iinc (v := (v4 + 1)) (lv2 := [(4, .int (v4 + 1)), (0, .ref (ad (3, 0, 0))), (1, .ref (ad (1, 0, 0))), (2, .ref (ad (33, 0, 0)))]) hM d_Co_judge_67 (j := 3) rfl rfl (Nat.le_of_ble_eq_true rfl) rfl ?_
        refine x_goto (tgt := 37) hM d_Co_judge_70 (by decide) ?_
        refine x_sub [1, 2, 3, 0] rfl ?_
        exact F _ _ hSt V
      · replace F := F.2 q6
        exact x_return hM d_Co_judge_66 rfl (y_end V hSt (F _))
set_option maxRecDepth 100000 in
set_option maxHeartbeats 4000000 in
theorem T_Co_judge_76 {G : Gc} {M : Mc} {Q : State → Prop} {ad0 : Ro → Nat} {K : (Ro → Nat) → Option Value → Rs → Prop} (hG : gok G) (hM : mok G M r_Co_judge Q (KV G [31] ad0 K)) (v4 : Int32) (ρ : Rs) (F : ((iR ρ (1, 0, 0) 1) ≤ v4 → (∀ ad, K ad none ρ)) ∧ (¬ (iR ρ (1, 0, 0) 1) ≤ v4 → (vp_in v4 (nR ρ (31, 7, 0)) ∧ (((iR ρ (31, 7, 0) (Int32.toNatClampNeg v4)) = 0 → (Y G [31] ad0 M Q 76 (fun ad => [(0, .ref (ad (3, 0, 0))), (1, .ref (ad (1, 0, 0))), (2, .ref (ad (33, 0, 0))), (4, .int (v4 + 1))]) (fun ad => []) ρ)) ∧ (¬ (iR ρ (31, 7, 0) (Int32.toNatClampNeg v4)) = 0 → (vp_in v4 (nR ρ (33, 0, 0)) ∧ (((iR ρ (33, 0, 0) (Int32.toNatClampNeg v4)) = 0 → (Y G [31] ad0 M Q 76 (fun ad => [(0, .ref (ad (3, 0, 0))), (1, .ref (ad (1, 0, 0))), (2, .ref (ad (33, 0, 0))), (4, .int (v4 + 1))]) (fun ad => []) ρ)) ∧ (¬ (iR ρ (33, 0, 0) (Int32.toNatClampNeg v4)) = 0 → (semV G r_Co_tell [] (fun ad => [.ref (ad (3, 0, 0)), .int 3, .int v4, .int (-1)]) ρ (fun ad u4 ρ3 => u4 = none ∧ (∀ ad, K ad none ρ3))))))))))) : Y G [31] ad0 M Q 76 (fun ad => [(0, .ref (ad (3, 0, 0))), (1, .ref (ad (1, 0, 0))), (2, .ref (ad (33, 0, 0))), (4, .int v4)]) (fun ad => []) ρ := by
  intro ad h hSt V
  show X G M Q 76 [(0, .ref (ad (3, 0, 0))), (1, .ref (ad (1, 0, 0))), (2, .ref (ad (33, 0, 0))), (4, .int v4)] [] h
  refine x_iload hM d_Co_judge_76 3 rfl ?_
  refine x_aload_n hM d_Co_judge_78 rfl 1 rfl ?_
  refine y_geti hG hM V ck_Wo 1 (Nat.le_of_ble_eq_true rfl) rfl rfl w_130 rfl d_Co_judge_79 (1, 0, 0) rfl rfl ?_
  refine x_icmp_ge (tgt := 117) hM d_Co_judge_82 (by decide) (fun q9 => ?_) (fun q9 => ?_)
  · replace F := F.1 q9
    exact x_return hM d_Co_judge_117 rfl (y_end V hSt (F _))
  · replace F := F.2 q9
    refine x_aload_n hM d_Co_judge_85 rfl 0 rfl ?_
    refine y_getr hG hM V ck_Co 7 (Nat.le_of_ble_eq_true rfl) rfl rfl w_208 rfl d_Co_judge_86 (3, 0, 0) (31, 7, 0) rfl rfl rfl ?_
    refine x_iload hM d_Co_judge_89 3 rfl ?_
    obtain ⟨c1, F⟩ := F
    refine y_zaload hG hM V d_Co_judge_91 (31, 7, 0) rfl rfl c1 ?_
    refine x_if_eq (tgt := 111) hM d_Co_judge_92 (by decide) (fun q8 => ?_) (fun q8 => ?_)
    · replace F := F.1 q8
      refine x_iinc (v := (v4 + 1)) (lv2 := [(4, .int (v4 + 1)), (0, .ref (ad (3, 0, 0))), (1, .ref (ad (1, 0, 0))), (2, .ref (ad (33, 0, 0)))]) hM d_Co_judge_111 (j := 3) rfl rfl (Nat.le_of_ble_eq_true rfl) rfl ?_
      refine x_goto (tgt := 76) hM d_Co_judge_114 (by decide) ?_
      refine x_sub [1, 2, 3, 0] rfl ?_
      exact F _ _ hSt V
    · replace F := F.2 q8
      refine x_aload_n hM d_Co_judge_95 rfl 2 rfl ?_
      refine x_iload hM d_Co_judge_96 3 rfl ?_
      obtain ⟨c2, F⟩ := F
      refine y_zaload hG hM V d_Co_judge_98 (33, 0, 0) rfl rfl c2 ?_
      refine x_if_eq (tgt := 111) hM d_Co_judge_99 (by decide) (fun q7 => ?_) (fun q7 => ?_)
      · replace F := F.1 q7
        refine x_iinc (v := (v4 + 1)) (lv2 := [(4, .int (v4 + 1)), (0, .ref (ad (3, 0, 0))), (1, .ref (ad (1, 0, 0))), (2, .ref (ad (33, 0, 0)))]) hM d_Co_judge_111 (j := 3) rfl rfl (Nat.le_of_ble_eq_true rfl) rfl ?_
        refine x_goto (tgt := 76) hM d_Co_judge_114 (by decide) ?_
        refine x_sub [1, 2, 3, 0] rfl ?_
        exact F _ _ hSt V
      · replace F := F.2 q7
        refine x_aload_n hM d_Co_judge_102 rfl 0 rfl ?_
        refine x_iconst (v := 3) hM d_Co_judge_103 (by decide) ?_
        refine x_iload hM d_Co_judge_104 3 rfl ?_
        refine x_iconst (v := (-1)) hM d_Co_judge_106 (by decide) ?_
        refine x_callV hG hM (r' := r_Co_tell) (ci := 5) [.int 3, .int v4, .int (-1)] rfl rfl (Nat.le_of_ble_eq_true rfl) yk_Co_tell ⟨Nat.le_of_ble_eq_true rfl, Nat.le_of_ble_eq_true rfl⟩ w_877 w_879 ws_Co_tell rfl rfl (Nat.le_of_ble_eq_true rfl) d_Co_judge_107 (by rw [vT V rfl]; rfl) (sem_mono (F _ _ V) ?_)
        intro u4 h F
        obtain ⟨ad6, ρ3, V, hs5, F⟩ := F
        obtain ⟨rfl, F⟩ := F
        have hs5 := (St_eq hs5).symm
        subst hs5
        exact x_return hM d_Co_judge_110 rfl (y_end V hSt (F _))
set_option maxRecDepth 100000 in
set_option maxHeartbeats 4000000 in
theorem T_Co_findInside_0 {G : Gc} {M : Mc} {Q : State → Prop} {ad0 : Ro → Nat} {K : (Ro → Nat) → Option Value → Rs → Prop} (hG : gok G) (hM : mok G M r_Co_findInside Q (KV G [31] ad0 K))  (ρ : Rs) (F : ∃ m2 : Nat, (iR ρ (1, 0, 0) 1) = nI m2 ∧ m2 ≤ 4096 ∧ (∀ ρ1 : Rs, ρ1 = rowR ρ (31, 7, 0) m2 → (Y G [31] ad0 M Q 17 (fun ad => [(0, .ref (ad (3, 0, 0))), (1, .ref (ad (1, 0, 0))), (2, .int 0)]) (fun ad => []) ρ1))) : Y G [31] ad0 M Q 0 (fun ad => [(0, .ref (ad (3, 0, 0))), (1, .ref (ad (1, 0, 0)))]) (fun ad => []) ρ := by
  intro ad h hSt V
  show X G M Q 0 [(0, .ref (ad (3, 0, 0))), (1, .ref (ad (1, 0, 0)))] [] h
  refine x_aload_n hM d_Co_findInside_0 rfl 0 rfl ?_
  refine x_aload_n hM d_Co_findInside_1 rfl 0 rfl ?_
  refine y_getr hG hM V ck_Co 7 (Nat.le_of_ble_eq_true rfl) rfl rfl w_208 rfl d_Co_findInside_2 (3, 0, 0) (31, 7, 0) rfl rfl rfl ?_
  refine x_aload_n hM d_Co_findInside_5 rfl 1 rfl ?_
  refine y_geti hG hM V ck_Wo 1 (Nat.le_of_ble_eq_true rfl) rfl rfl w_130 rfl d_Co_findInside_6 (1, 0, 0) rfl rfl ?_
  obtain ⟨m2, c3, c4, F⟩ := F
  obtain ⟨ρ1, eρ1⟩ : ∃ z : Rs, z = rowR ρ (31, 7, 0) m2 := ⟨_, rfl⟩
  replace F := F ρ1 eρ1
  refine y_mark hG hM V rfl ⟨Nat.le_of_ble_eq_true rfl, Nat.le_of_ble_eq_true rfl⟩ w_871 w_647 d_Co_findInside_9 d_Co_findInside_12 ck_Co (k := 7) (Nat.le_of_ble_eq_true rfl) (Or.inr ⟨_, rfl⟩) w_208 rfl rfl (Nat.le_of_ble_eq_true rfl) (3, 0, 0) (31, 7, 0) rfl rfl rfl (by decide) rfl rfl rfl c3 c4 (fun ad6 h hs5 V => ?_)
  rw [← eρ1] at V
  clear eρ1
  have ea0 : ad6 (3, 0, 0) = ad (3, 0, 0) := hs5 _ (Or.inr rfl)
  have ea1 : ad6 (1, 0, 0) = ad (1, 0, 0) := hs5 _ (Or.inr rfl)
  rw [← ea0, ← ea1]
  replace hSt := St_tr hSt (St_mono (mv' := [31]) (by decide) hs5)
  refine x_iconst (v := 0) hM d_Co_findInside_15 (by decide) ?_
  refine x_istore_n (lv2 := [(2, .int 0), (0, .ref (ad6 (3, 0, 0))), (1, .ref (ad6 (1, 0, 0)))]) hM d_Co_findInside_16 rfl (Nat.le_of_ble_eq_true rfl) rfl ?_
  refine x_sub [1, 2, 0] rfl ?_
  exact F _ _ hSt V
set_option maxRecDepth 100000 in
set_option maxHeartbeats 4000000 in
theorem T_Co_findInside_17 {G : Gc} {M : Mc} {Q : State → Prop} {ad0 : Ro → Nat} {K : (Ro → Nat) → Option Value → Rs → Prop} (hG : gok G) (hM : mok G M r_Co_findInside Q (KV G [31] ad0 K)) (v2 : Int32) (ρ : Rs) (F : ((iR ρ (1, 0, 0) 1) ≤ v2 → (∀ ad, K ad none ρ)) ∧ (¬ (iR ρ (1, 0, 0) 1) ≤ v2 → (vp_in v2 (nR ρ (30, 6, 0)) ∧ (semV G r_Co_isInside [] (fun ad => [.ref (ad (3, 0, 0)), .int (iR ρ (30, 6, 0) (Int32.toNatClampNeg v2))]) ρ (fun ad u4 ρ3 => ∃ x6 : Int32, u4 = some (.int x6) ∧ (vp_in v2 (nR ρ3 (31, 7, 0)) ∧ nb x6 ∧ (∀ ρ7 : Rs, ρ7 = pI ρ3 (31, 7, 0) (Int32.toNatClampNeg v2) x6 → (Y G [31] ad0 M Q 17 (fun ad => [(0, .ref (ad (3, 0, 0))), (1, .ref (ad (1, 0, 0))), (2, .int (v2 + 1))]) (fun ad => []) ρ7)))))))) : Y G [31] ad0 M Q 17 (fun ad => [(0, .ref (ad (3, 0, 0))), (1, .ref (ad (1, 0, 0))), (2, .int v2)]) (fun ad => []) ρ := by
  intro ad h hSt V
  show X G M Q 17 [(0, .ref (ad (3, 0, 0))), (1, .ref (ad (1, 0, 0))), (2, .int v2)] [] h
  refine x_iload_n hM d_Co_findInside_17 rfl 2 rfl ?_
  refine x_aload_n hM d_Co_findInside_18 rfl 1 rfl ?_
  refine y_geti hG hM V ck_Wo 1 (Nat.le_of_ble_eq_true rfl) rfl rfl w_130 rfl d_Co_findInside_19 (1, 0, 0) rfl rfl ?_
  refine x_icmp_ge (tgt := 47) hM d_Co_findInside_22 (by decide) (fun q11 => ?_) (fun q11 => ?_)
  · replace F := F.1 q11
    exact x_return hM d_Co_findInside_47 rfl (y_end V hSt (F _))
  · replace F := F.2 q11
    refine x_aload_n hM d_Co_findInside_25 rfl 0 rfl ?_
    refine y_getr hG hM V ck_Co 7 (Nat.le_of_ble_eq_true rfl) rfl rfl w_208 rfl d_Co_findInside_26 (3, 0, 0) (31, 7, 0) rfl rfl rfl ?_
    refine x_iload_n hM d_Co_findInside_29 rfl 2 rfl ?_
    refine x_aload_n hM d_Co_findInside_30 rfl 0 rfl ?_
    refine x_aload_n hM d_Co_findInside_31 rfl 1 rfl ?_
    refine y_getr hG hM V ck_Wo 6 (Nat.le_of_ble_eq_true rfl) rfl rfl w_153 rfl d_Co_findInside_32 (1, 0, 0) (30, 6, 0) rfl rfl rfl ?_
    refine x_iload_n hM d_Co_findInside_35 rfl 2 rfl ?_
    obtain ⟨c2, F⟩ := F
    refine y_iaload hG hM V d_Co_findInside_36 (30, 6, 0) rfl rfl c2 ?_
    refine x_callV hG hM (r' := r_Co_isInside) (ci := 5) [.int (iR ρ (30, 6, 0) (Int32.toNatClampNeg v2))] rfl rfl (Nat.le_of_ble_eq_true rfl) yk_Co_isInside ⟨Nat.le_of_ble_eq_true rfl, Nat.le_of_ble_eq_true rfl⟩ w_872 w_874 ws_Co_isInside rfl rfl (Nat.le_of_ble_eq_true rfl) d_Co_findInside_37 (by rw [vT V rfl]; rfl) (sem_mono (F _ _ V) ?_)
    intro u4 h F
    obtain ⟨ad10, ρ3, V, hs5, F⟩ := F
    obtain ⟨x6, rfl, F⟩ := F
    have hs5 := (St_eq hs5).symm
    subst hs5
    obtain ⟨c8, F⟩ := F
    obtain ⟨c9, F⟩ := F
    obtain ⟨ρ7, eρ7⟩ : ∃ z : Rs, z = pI ρ3 (31, 7, 0) (Int32.toNatClampNeg v2) x6 := ⟨_, rfl⟩
    replace F := F ρ7 eρ7
    refine y_zastore hG hM V d_Co_findInside_40 (31, 7, 0) rfl rfl c8 c9 (fun h V => ?_)
    rw [← eρ7] at V
    clear eρ7
    refine x_iinc (v := (v2 + 1)) (lv2 := [(2, .int (v2 + 1)), (0, .ref (ad (3, 0, 0))), (1, .ref (ad (1, 0, 0)))]) hM d_Co_findInside_41 (j := 2) rfl rfl (Nat.le_of_ble_eq_true rfl) rfl ?_
    refine x_goto (tgt := 17) hM d_Co_findInside_44 (by decide) ?_
    refine x_sub [1, 2, 0] rfl ?_
    exact F _ _ hSt V
set_option maxRecDepth 100000 in
set_option maxHeartbeats 4000000 in
theorem T_Co_isInside_0 {G : Gc} {M : Mc} {Q : State → Prop} {ad0 : Ro → Nat} {K : (Ro → Nat) → Option Value → Rs → Prop} (hG : gok G) (hM : mok G M r_Co_isInside Q (KV G [] ad0 K)) (v1 : Int32) (ρ : Rs) (F : Y G [] ad0 M Q 2 (fun ad => [(0, .ref (ad (3, 0, 0))), (1, .int v1), (2, .int 0)]) (fun ad => []) ρ) : Y G [] ad0 M Q 0 (fun ad => [(0, .ref (ad (3, 0, 0))), (1, .int v1)]) (fun ad => []) ρ := by
  intro ad h hSt V
  show X G M Q 0 [(0, .ref (ad (3, 0, 0))), (1, .int v1)] [] h
  refine x_iconst (v := 0) hM d_Co_isInside_0 (by decide) ?_
  refine x_istore_n (lv2 := [(2, .int 0), (0, .ref (ad (3, 0, 0))), (1, .int v1)]) hM d_Co_isInside_1 rfl (Nat.le_of_ble_eq_true rfl) rfl ?_
  refine x_sub [1, 2, 0] rfl ?_
  exact F _ _ hSt V
set_option maxRecDepth 100000 in
set_option maxHeartbeats 4000000 in
theorem T_Co_isInside_2 {G : Gc} {M : Mc} {Q : State → Prop} {ad0 : Ro → Nat} {K : (Ro → Nat) → Option Value → Rs → Prop} (hG : gok G) (hM : mok G M r_Co_isInside Q (KV G [] ad0 K)) (v1 : Int32) (v2 : Int32) (ρ : Rs) (F : ((iR ρ (3, 0, 0) 0) ≤ v2 → (∀ ad, K ad (some (.int 0)) ρ)) ∧ (¬ (iR ρ (3, 0, 0) 0) ≤ v2 → (vp_in v2 6 ∧ (semV G r_Cl_hold [] (fun ad => [.ref (ad (10, 1, (Int32.toNatClampNeg v2))), .int v1]) ρ (fun ad u3 ρ2 => ∃ x5 : Int32, u3 = some (.int x5) ∧ ((x5 = 0 → (Y G [] ad0 M Q 2 (fun ad => [(0, .ref (ad (3, 0, 0))), (1, .int v1), (2, .int (v2 + 1))]) (fun ad => []) ρ2)) ∧ (¬ x5 = 0 → (∀ ad, K ad (some (.int 1)) ρ2)))))))) : Y G [] ad0 M Q 2 (fun ad => [(0, .ref (ad (3, 0, 0))), (1, .int v1), (2, .int v2)]) (fun ad => []) ρ := by
  intro ad h hSt V
  show X G M Q 2 [(0, .ref (ad (3, 0, 0))), (1, .int v1), (2, .int v2)] [] h
  refine x_iload_n hM d_Co_isInside_2 rfl 2 rfl ?_
  refine x_aload_n hM d_Co_isInside_3 rfl 0 rfl ?_
  refine y_geti hG hM V ck_Co 0 (Nat.le_of_ble_eq_true rfl) rfl rfl w_194 rfl d_Co_isInside_4 (3, 0, 0) rfl rfl ?_
  refine x_icmp_ge (tgt := 31) hM d_Co_isInside_7 (by decide) (fun q8 => ?_) (fun q8 => ?_)
  · replace F := F.1 q8
    refine x_iconst (v := 0) hM d_Co_isInside_31 (by decide) ?_
    exact x_zreturn hM d_Co_isInside_32 rfl (Or.inl rfl) (y_end V hSt (F _))
  · replace F := F.2 q8
    refine x_aload_n hM d_Co_isInside_10 rfl 0 rfl ?_
    refine y_getr hG hM V ck_Co 1 (Nat.le_of_ble_eq_true rfl) rfl rfl w_196 rfl d_Co_isInside_11 (3, 0, 0) (31, 1, 0) rfl rfl rfl ?_
    refine x_iload_n hM d_Co_isInside_14 rfl 2 rfl ?_
    obtain ⟨c1, F⟩ := F
    refine y_parts hG hM V d_Co_isInside_15 c1 ?_
    refine x_iload_n hM d_Co_isInside_16 rfl 1 rfl ?_
    refine x_callV hG hM (r' := r_Cl_hold) (ci := 4) [.int v1] rfl rfl (Nat.le_of_ble_eq_true rfl) yk_Cl_hold ⟨Nat.le_of_ble_eq_true rfl, Nat.le_of_ble_eq_true rfl⟩ w_876 w_554 w_555 rfl rfl (Nat.le_of_ble_eq_true rfl) d_Co_isInside_17 (by rw [vT V (ok_cl (okC_pa (vp_lt c1)))]; rfl) (sem_mono (F _ _ V) ?_)
    intro u3 h F
    obtain ⟨ad7, ρ2, V, hs4, F⟩ := F
    obtain ⟨x5, rfl, F⟩ := F
    have hs4 := (St_eq hs4).symm
    subst hs4
    refine x_if_eq (tgt := 25) hM d_Co_isInside_20 (by decide) (fun q6 => ?_) (fun q6 => ?_)
    · replace F := F.1 q6
      refine x_iinc (v := (v2 + 1)) (lv2 := [(2, .int (v2 + 1)), (0, .ref (ad (3, 0, 0))), (1, .int v1)]) hM d_Co_isInside_25 (j := 2) rfl rfl (Nat.le_of_ble_eq_true rfl) rfl ?_
      refine x_goto (tgt := 2) hM d_Co_isInside_28 (by decide) ?_
      refine x_sub [1, 2, 0] rfl ?_
      exact F _ _ hSt V
    · replace F := F.2 q6
      refine x_iconst (v := 1) hM d_Co_isInside_23 (by decide) ?_
      exact x_zreturn hM d_Co_isInside_24 rfl (Or.inr rfl) (y_end V hSt (F _))
set_option maxRecDepth 100000 in
set_option maxHeartbeats 4000000 in
theorem T_Co_tell_0 {G : Gc} {M : Mc} {Q : State → Prop} {ad0 : Ro → Nat} {K : (Ro → Nat) → Option Value → Rs → Prop} (hG : gok G) (hM : mok G M r_Co_tell Q (KV G [] ad0 K)) (v1 : Int32) (v2 : Int32) (v3 : Int32) (ρ : Rs) (F : ∀ ρ1 : Rs, ρ1 = pI ρ (3, 0, 0) 2 v1 → (∀ ρ2 : Rs, ρ2 = pI ρ1 (3, 0, 0) 3 v2 → (∀ ρ3 : Rs, ρ3 = pI ρ2 (3, 0, 0) 4 v3 → (∀ ad, K ad none ρ3)))) : Y G [] ad0 M Q 0 (fun ad => [(0, .ref (ad (3, 0, 0))), (1, .int v1), (2, .int v2), (3, .int v3)]) (fun ad => []) ρ := by
  intro ad h hSt V
  show X G M Q 0 [(0, .ref (ad (3, 0, 0))), (1, .int v1), (2, .int v2), (3, .int v3)] [] h
  refine x_aload_n hM d_Co_tell_0 rfl 0 rfl ?_
  refine x_iload_n hM d_Co_tell_1 rfl 1 rfl ?_
  obtain ⟨ρ1, eρ1⟩ : ∃ z : Rs, z = pI ρ (3, 0, 0) 2 v1 := ⟨_, rfl⟩
  replace F := F ρ1 eρ1
  refine y_puti hG hM V ck_Co 2 (Nat.le_of_ble_eq_true rfl) rfl rfl w_198 rfl d_Co_tell_2 rfl (3, 0, 0) rfl rfl (fun h V => ?_)
  rw [← eρ1] at V
  clear eρ1
  refine x_aload_n hM d_Co_tell_5 rfl 0 rfl ?_
  refine x_iload_n hM d_Co_tell_6 rfl 2 rfl ?_
  obtain ⟨ρ2, eρ2⟩ : ∃ z : Rs, z = pI ρ1 (3, 0, 0) 3 v2 := ⟨_, rfl⟩
  replace F := F ρ2 eρ2
  refine y_puti hG hM V ck_Co 3 (Nat.le_of_ble_eq_true rfl) rfl rfl w_200 rfl d_Co_tell_7 rfl (3, 0, 0) rfl rfl (fun h V => ?_)
  rw [← eρ2] at V
  clear eρ2
  refine x_aload_n hM d_Co_tell_10 rfl 0 rfl ?_
  refine x_iload_n hM d_Co_tell_11 rfl 3 rfl ?_
  obtain ⟨ρ3, eρ3⟩ : ∃ z : Rs, z = pI ρ2 (3, 0, 0) 4 v3 := ⟨_, rfl⟩
  replace F := F ρ3 eρ3
  refine y_puti hG hM V ck_Co 4 (Nat.le_of_ble_eq_true rfl) rfl rfl w_202 rfl d_Co_tell_12 rfl (3, 0, 0) rfl rfl (fun h V => ?_)
  rw [← eρ3] at V
  clear eρ3
  exact x_return hM d_Co_tell_15 rfl (y_end V hSt (F _))
set_option maxRecDepth 100000 in
set_option maxHeartbeats 4000000 in
theorem T_Co_leavesFrom_0 {G : Gc} {M : Mc} {Q : State → Prop} {ad0 : Ro → Nat} {K : (Ro → Nat) → Option Value → Rs → Prop} (hG : gok G) (hM : mok G M r_Co_leavesFrom Q (KV G [] ad0 K)) (v2 : Int32) (ρ : Rs) (F : Y G [] ad0 M Q 2 (fun ad => [(0, .ref (ad (3, 0, 0))), (1, .ref (ad (1, 0, 0))), (2, .int v2), (3, .int 0)]) (fun ad => []) ρ) : Y G [] ad0 M Q 0 (fun ad => [(0, .ref (ad (3, 0, 0))), (1, .ref (ad (1, 0, 0))), (2, .int v2)]) (fun ad => []) ρ := by
  intro ad h hSt V
  show X G M Q 0 [(0, .ref (ad (3, 0, 0))), (1, .ref (ad (1, 0, 0))), (2, .int v2)] [] h
  refine x_iconst (v := 0) hM d_Co_leavesFrom_0 (by decide) ?_
  refine x_istore_n (lv2 := [(3, .int 0), (0, .ref (ad (3, 0, 0))), (1, .ref (ad (1, 0, 0))), (2, .int v2)]) hM d_Co_leavesFrom_1 rfl (Nat.le_of_ble_eq_true rfl) rfl ?_
  refine x_sub [1, 2, 3, 0] rfl ?_
  exact F _ _ hSt V
set_option maxRecDepth 100000 in
set_option maxHeartbeats 4000000 in
theorem T_Co_leavesFrom_2 {G : Gc} {M : Mc} {Q : State → Prop} {ad0 : Ro → Nat} {K : (Ro → Nat) → Option Value → Rs → Prop} (hG : gok G) (hM : mok G M r_Co_leavesFrom Q (KV G [] ad0 K)) (v2 : Int32) (v3 : Int32) (ρ : Rs) (F : ((iR ρ (1, 0, 0) 2) ≤ v3 → (∀ ad, K ad (some (.int 0)) ρ)) ∧ (¬ (iR ρ (1, 0, 0) 2) ≤ v3 → (vp_in v3 12 ∧ (Y G [] ad0 M Q 21 (fun ad => [(0, .ref (ad (3, 0, 0))), (1, .ref (ad (1, 0, 0))), (2, .int v2), (3, .int v3), (4, .ref (ad (20, (Int32.toNatClampNeg v3), 0))), (5, .int 0)]) (fun ad => []) ρ)))) : Y G [] ad0 M Q 2 (fun ad => [(0, .ref (ad (3, 0, 0))), (1, .ref (ad (1, 0, 0))), (2, .int v2), (3, .int v3)]) (fun ad => []) ρ := by
  intro ad h hSt V
  show X G M Q 2 [(0, .ref (ad (3, 0, 0))), (1, .ref (ad (1, 0, 0))), (2, .int v2), (3, .int v3)] [] h
  refine x_iload_n hM d_Co_leavesFrom_2 rfl 3 rfl ?_
  refine x_aload_n hM d_Co_leavesFrom_3 rfl 1 rfl ?_
  refine y_geti hG hM V ck_Wo 2 (Nat.le_of_ble_eq_true rfl) rfl rfl w_138 rfl d_Co_leavesFrom_4 (1, 0, 0) rfl rfl ?_
  refine x_icmp_ge (tgt := 89) hM d_Co_leavesFrom_7 (by decide) (fun q2 => ?_) (fun q2 => ?_)
  · replace F := F.1 q2
    refine x_iconst (v := 0) hM d_Co_leavesFrom_89 (by decide) ?_
    exact x_zreturn hM d_Co_leavesFrom_90 rfl (Or.inl rfl) (y_end V hSt (F _))
  · replace F := F.2 q2
    refine x_aload_n hM d_Co_leavesFrom_10 rfl 1 rfl ?_
    refine y_getr hG hM V ck_Wo 5 (Nat.le_of_ble_eq_true rfl) rfl rfl w_149 rfl d_Co_leavesFrom_11 (1, 0, 0) (30, 5, 0) rfl rfl rfl ?_
    refine x_iload_n hM d_Co_leavesFrom_14 rfl 3 rfl ?_
    obtain ⟨c1, F⟩ := F
    refine y_acts hG hM V d_Co_leavesFrom_15 c1 ?_
    refine x_astore (lv2 := [(4, .ref (ad (20, (Int32.toNatClampNeg v3), 0))), (0, .ref (ad (3, 0, 0))), (1, .ref (ad (1, 0, 0))), (2, .int v2), (3, .int v3)]) hM d_Co_leavesFrom_16 (Nat.le_of_ble_eq_true rfl) rfl ?_
    refine x_iconst (v := 0) hM d_Co_leavesFrom_18 (by decide) ?_
    refine x_istore (lv2 := [(5, .int 0), (4, .ref (ad (20, (Int32.toNatClampNeg v3), 0))), (0, .ref (ad (3, 0, 0))), (1, .ref (ad (1, 0, 0))), (2, .int v2), (3, .int v3)]) hM d_Co_leavesFrom_19 (Nat.le_of_ble_eq_true rfl) rfl ?_
    refine x_sub [2, 3, 4, 5, 1, 0] rfl ?_
    exact F _ _ hSt V
set_option maxRecDepth 100000 in
set_option maxHeartbeats 4000000 in
theorem T_Co_leavesFrom_21 {G : Gc} {M : Mc} {Q : State → Prop} {ad0 : Ro → Nat} {K : (Ro → Nat) → Option Value → Rs → Prop} (hG : gok G) (hM : mok G M r_Co_leavesFrom Q (KV G [] ad0 K)) (v2 : Int32) (v3 : Int32) (a4 : Nat) (ha4 : a4 < 12) (v5 : Int32) (ρ : Rs) (F : ((iR ρ (20, a4, 0) 2) ≤ v5 → (Y G [] ad0 M Q 2 (fun ad => [(0, .ref (ad (3, 0, 0))), (1, .ref (ad (1, 0, 0))), (2, .int v2), (3, .int (v3 + 1))]) (fun ad => []) ρ)) ∧ (¬ (iR ρ (20, a4, 0) 2) ≤ v5 → (vp_in v5 3 ∧ (vp_in v2 (nR ρ (23, a4, (Int32.toNatClampNeg v5))) ∧ (((iR ρ (23, a4, (Int32.toNatClampNeg v5)) (Int32.toNatClampNeg v2)) = (-1) → (Y G [] ad0 M Q 21 (fun ad => [(0, .ref (ad (3, 0, 0))), (1, .ref (ad (1, 0, 0))), (2, .int v2), (3, .int v3), (4, .ref (ad (20, a4, 0))), (5, .int (v5 + 1))]) (fun ad => []) ρ)) ∧ (¬ (iR ρ (23, a4, (Int32.toNatClampNeg v5)) (Int32.toNatClampNeg v2)) = (-1) → (vp_in (iR ρ (23, a4, (Int32.toNatClampNeg v5)) (Int32.toNatClampNeg v2)) (nR ρ (31, 7, 0)) ∧ (((iR ρ (31, 7, 0) (Int32.toNatClampNeg (iR ρ (23, a4, (Int32.toNatClampNeg v5)) (Int32.toNatClampNeg v2)))) = 0 → (semV G r_Co_tell [] (fun ad => [.ref (ad (3, 0, 0)), .int 2, .int v2, .int v3]) ρ (fun ad u5 ρ4 => u5 = none ∧ (∀ ρ7 : Rs, ρ7 = pI ρ4 (3, 0, 0) 5 v5 → (∀ ad, K ad (some (.int 1)) ρ7))))) ∧ (¬ (iR ρ (31, 7, 0) (Int32.toNatClampNeg (iR ρ (23, a4, (Int32.toNatClampNeg v5)) (Int32.toNatClampNeg v2)))) = 0 → (Y G [] ad0 M Q 21 (fun ad => [(0, .ref (ad (3, 0, 0))), (1, .ref (ad (1, 0, 0))), (2, .int v2), (3, .int v3), (4, .ref (ad (20, a4, 0))), (5, .int (v5 + 1))]) (fun ad => []) ρ)))))))))) : Y G [] ad0 M Q 21 (fun ad => [(0, .ref (ad (3, 0, 0))), (1, .ref (ad (1, 0, 0))), (2, .int v2), (3, .int v3), (4, .ref (ad (20, a4, 0))), (5, .int v5)]) (fun ad => []) ρ := by
  intro ad h hSt V
  show X G M Q 21 [(0, .ref (ad (3, 0, 0))), (1, .ref (ad (1, 0, 0))), (2, .int v2), (3, .int v3), (4, .ref (ad (20, a4, 0))), (5, .int v5)] [] h
  refine x_iload hM d_Co_leavesFrom_21 5 rfl ?_
  refine x_aload hM d_Co_leavesFrom_23 4 rfl ?_
  refine y_geti hG hM V ck_Ac 2 (Nat.le_of_ble_eq_true rfl) rfl rfl w_107 rfl d_Co_leavesFrom_25 (20, a4, 0) (ok_ac ha4) rfl ?_
  refine x_icmp_ge (tgt := 83) hM d_Co_leavesFrom_28 (by decide) (fun q11 => ?_) (fun q11 => ?_)
  · replace F := F.1 q11
    refine x_iinc (v := (v3 + 1)) (lv2 := [(3, .int (v3 + 1)), (0, .ref (ad (3, 0, 0))), (1, .ref (ad (1, 0, 0))), (2, .int v2), (4, .ref (ad (20, a4, 0))), (5, .int v5)]) hM d_Co_leavesFrom_83 (j := 3) rfl rfl (Nat.le_of_ble_eq_true rfl) rfl ?_
    refine x_goto (tgt := 2) hM d_Co_leavesFrom_86 (by decide) ?_
    refine x_sub [1, 2, 3, 0] rfl ?_
    exact F _ _ hSt V
  · replace F := F.2 q11
    refine x_aload hM d_Co_leavesFrom_31 4 rfl ?_
    refine y_getr hG hM V ck_Ac 1 (Nat.le_of_ble_eq_true rfl) rfl rfl w_99 rfl d_Co_leavesFrom_33 (20, a4, 0) (21, a4, 0) (ok_ac ha4) rfl rfl ?_
    refine x_iload hM d_Co_leavesFrom_36 5 rfl ?_
    obtain ⟨c1, F⟩ := F
    refine y_outs hG hM V d_Co_leavesFrom_38 ha4 c1 ?_
    refine y_getr hG hM V ck_Ou 1 (Nat.le_of_ble_eq_true rfl) rfl rfl w_80 rfl d_Co_leavesFrom_39 (22, a4, (Int32.toNatClampNeg v5)) (23, a4, (Int32.toNatClampNeg v5)) (ok_ou ha4 (vp_lt c1)) rfl rfl ?_
    refine x_iload_n hM d_Co_leavesFrom_42 rfl 2 rfl ?_
    obtain ⟨c2, F⟩ := F
    refine y_iaload hG hM V d_Co_leavesFrom_43 (23, a4, (Int32.toNatClampNeg v5)) (ok_to ha4 (vp_lt c1)) rfl c2 ?_
    refine x_istore (lv2 := [(6, .int (iR ρ (23, a4, (Int32.toNatClampNeg v5)) (Int32.toNatClampNeg v2))), (0, .ref (ad (3, 0, 0))), (1, .ref (ad (1, 0, 0))), (2, .int v2), (3, .int v3), (4, .ref (ad (20, a4, 0))), (5, .int v5)]) hM d_Co_leavesFrom_44 (Nat.le_of_ble_eq_true rfl) rfl ?_
    refine x_iload hM d_Co_leavesFrom_46 0 rfl ?_
    refine x_iconst (v := (-1)) hM d_Co_leavesFrom_48 (by decide) ?_
    refine x_icmp_eq (tgt := 77) hM d_Co_leavesFrom_49 (by decide) (fun q10 => ?_) (fun q10 => ?_)
    · replace F := F.1 q10
      refine x_iinc (v := (v5 + 1)) (lv2 := [(5, .int (v5 + 1)), (6, .int (iR ρ (23, a4, (Int32.toNatClampNeg v5)) (Int32.toNatClampNeg v2))), (0, .ref (ad (3, 0, 0))), (1, .ref (ad (1, 0, 0))), (2, .int v2), (3, .int v3), (4, .ref (ad (20, a4, 0)))]) hM d_Co_leavesFrom_77 (j := 6) rfl rfl (Nat.le_of_ble_eq_true rfl) rfl ?_
      refine x_goto (tgt := 21) hM d_Co_leavesFrom_80 (by decide) ?_
      refine x_sub [2, 3, 4, 5, 6, 0] rfl ?_
      exact F _ _ hSt V
    · replace F := F.2 q10
      refine x_aload_n hM d_Co_leavesFrom_52 rfl 1 rfl ?_
      refine y_getr hG hM V ck_Co 7 (Nat.le_of_ble_eq_true rfl) rfl rfl w_208 rfl d_Co_leavesFrom_53 (3, 0, 0) (31, 7, 0) rfl rfl rfl ?_
      refine x_iload hM d_Co_leavesFrom_56 0 rfl ?_
      obtain ⟨c3, F⟩ := F
      refine y_zaload hG hM V d_Co_leavesFrom_58 (31, 7, 0) rfl rfl c3 ?_
      refine x_if_ne (tgt := 77) hM d_Co_leavesFrom_59 (by decide) (fun q9 => ?_) (fun q9 => ?_)
      · replace F := F.2 q9
        refine x_iinc (v := (v5 + 1)) (lv2 := [(5, .int (v5 + 1)), (6, .int (iR ρ (23, a4, (Int32.toNatClampNeg v5)) (Int32.toNatClampNeg v2))), (0, .ref (ad (3, 0, 0))), (1, .ref (ad (1, 0, 0))), (2, .int v2), (3, .int v3), (4, .ref (ad (20, a4, 0)))]) hM d_Co_leavesFrom_77 (j := 6) rfl rfl (Nat.le_of_ble_eq_true rfl) rfl ?_
        refine x_goto (tgt := 21) hM d_Co_leavesFrom_80 (by decide) ?_
        refine x_sub [2, 3, 4, 5, 6, 0] rfl ?_
        exact F _ _ hSt V
      · replace F := F.1 q9
        refine x_aload_n hM d_Co_leavesFrom_62 rfl 1 rfl ?_
        refine x_iconst (v := 2) hM d_Co_leavesFrom_63 (by decide) ?_
        refine x_iload_n hM d_Co_leavesFrom_64 rfl 3 rfl ?_
        refine x_iload_n hM d_Co_leavesFrom_65 rfl 4 rfl ?_
        refine x_callV hG hM (r' := r_Co_tell) (ci := 5) [.int 2, .int v2, .int v3] rfl rfl (Nat.le_of_ble_eq_true rfl) yk_Co_tell ⟨Nat.le_of_ble_eq_true rfl, Nat.le_of_ble_eq_true rfl⟩ w_877 w_879 ws_Co_tell rfl rfl (Nat.le_of_ble_eq_true rfl) d_Co_leavesFrom_66 (by rw [vT V rfl]; rfl) (sem_mono (F _ _ V) ?_)
        intro u5 h F
        obtain ⟨ad8, ρ4, V, hs6, F⟩ := F
        obtain ⟨rfl, F⟩ := F
        have hs6 := (St_eq hs6).symm
        subst hs6
        refine x_aload_n hM d_Co_leavesFrom_69 rfl 1 rfl ?_
        refine x_iload hM d_Co_leavesFrom_70 6 rfl ?_
        obtain ⟨ρ7, eρ7⟩ : ∃ z : Rs, z = pI ρ4 (3, 0, 0) 5 v5 := ⟨_, rfl⟩
        replace F := F ρ7 eρ7
        refine y_puti hG hM V ck_Co 5 (Nat.le_of_ble_eq_true rfl) rfl rfl w_204 rfl d_Co_leavesFrom_72 rfl (3, 0, 0) rfl rfl (fun h V => ?_)
        rw [← eρ7] at V
        clear eρ7
        refine x_iconst (v := 1) hM d_Co_leavesFrom_75 (by decide) ?_
        exact x_zreturn hM d_Co_leavesFrom_76 rfl (Or.inr rfl) (y_end V hSt (F _))
