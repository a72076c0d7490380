set_option maxRecDepth 100000 in
set_option maxHeartbeats 4000000 in
theorem T_Mo_forget_0 {G : Gc} {M : Mc} {Q : State → Prop} {ad0 : Ro → Nat} {K : (Ro → Nat) → Option Value → Rs → Prop} (hG : gok G) (hM : mok G M r_Mo_forget Q (KV G [] ad0 K))  (ρ : Rs) (F : ∀ ρ1 : Rs, ρ1 = pI ρ (40, 0, 0) 12 0 → (∀ ρ2 : Rs, ρ2 = pI ρ1 (40, 0, 0) 26 0 → (∀ ad, K ad none ρ2))) : Y G [] ad0 M Q 0 (fun ad => [(0, .ref (ad (40, 0, 0)))]) (fun ad => []) ρ := by
  intro ad h hSt V
  show X G M Q 0 [(0, .ref (ad (40, 0, 0)))] [] h
  refine x_aload_n hM d_Mo_forget_0 rfl 0 rfl ?_
  refine x_iconst (v := 0) hM d_Mo_forget_1 (by decide) ?_
  obtain ⟨ρ1, eρ1⟩ : ∃ z : Rs, z = pI ρ (40, 0, 0) 12 0 := ⟨_, rfl⟩
  replace F := F ρ1 eρ1
  refine y_putz hG hM V ck_Mo 12 (Nat.le_of_ble_eq_true rfl) rfl rfl w_909 rfl d_Mo_forget_2 rfl (40, 0, 0) rfl rfl (Or.inl rfl) (fun h V => ?_)
  rw [← eρ1] at V
  clear eρ1
  refine x_aload_n hM d_Mo_forget_5 rfl 0 rfl ?_
  refine x_iconst (v := 0) hM d_Mo_forget_6 (by decide) ?_
  obtain ⟨ρ2, eρ2⟩ : ∃ z : Rs, z = pI ρ1 (40, 0, 0) 26 0 := ⟨_, rfl⟩
  replace F := F ρ2 eρ2
  refine y_putz hG hM V ck_Mo 26 (Nat.le_of_ble_eq_true rfl) rfl rfl w_923 rfl d_Mo_forget_7 rfl (40, 0, 0) rfl rfl (Or.inl rfl) (fun h V => ?_)
  rw [← eρ2] at V
  clear eρ2
  exact x_return hM d_Mo_forget_10 rfl (y_end V hSt (F _))
set_option maxRecDepth 100000 in
set_option maxHeartbeats 4000000 in
theorem T_Mo_clear_0 {G : Gc} {M : Mc} {Q : State → Prop} {ad0 : Ro → Nat} {K : (Ro → Nat) → Option Value → Rs → Prop} (hG : gok G) (hM : mok G M r_Mo_clear Q (KV G [] ad0 K))  (ρ : Rs) (F : ∀ ρ1 : Rs, ρ1 = pI ρ (40, 0, 0) 0 0 → (∀ ρ2 : Rs, ρ2 = pI ρ1 (40, 0, 0) 2 0 → (∀ ρ3 : Rs, ρ3 = pI ρ2 (40, 0, 0) 3 0 → (∀ ρ4 : Rs, ρ4 = pI ρ3 (40, 0, 0) 9 0 → (vp_in 12 19 ∧ (∀ ρ5 : Rs, ρ5 = pI ρ4 (41, 5, 0) (Int32.toNatClampNeg 12) 0 → (semV G r_Mo_forget [] (fun ad => [.ref (ad (40, 0, 0))]) ρ5 (fun ad u7 ρ6 => u7 = none ∧ (∀ ad, K ad (some (.int (iR ρ (40, 0, 0) 0))) ρ6))))))))) : Y G [] ad0 M Q 0 (fun ad => [(0, .ref (ad (40, 0, 0)))]) (fun ad => []) ρ := by
  intro ad h hSt V
  show X G M Q 0 [(0, .ref (ad (40, 0, 0)))] [] h
  refine x_aload_n hM d_Mo_clear_0 rfl 0 rfl ?_
  refine y_geti hG hM V ck_Mo 0 (Nat.le_of_ble_eq_true rfl) rfl rfl w_897 rfl d_Mo_clear_1 (40, 0, 0) rfl rfl ?_
  refine x_istore_n (lv2 := [(1, .int (iR ρ (40, 0, 0) 0)), (0, .ref (ad (40, 0, 0)))]) hM d_Mo_clear_4 rfl (Nat.le_of_ble_eq_true rfl) rfl ?_
  refine x_aload_n hM d_Mo_clear_5 rfl 1 rfl ?_
  refine x_iconst (v := 0) hM d_Mo_clear_6 (by decide) ?_
  obtain ⟨ρ1, eρ1⟩ : ∃ z : Rs, z = pI ρ (40, 0, 0) 0 0 := ⟨_, rfl⟩
  replace F := F ρ1 eρ1
  refine y_puti hG hM V ck_Mo 0 (Nat.le_of_ble_eq_true rfl) rfl rfl w_897 rfl d_Mo_clear_7 rfl (40, 0, 0) rfl rfl (fun h V => ?_)
  rw [← eρ1] at V
  clear eρ1
  refine x_aload_n hM d_Mo_clear_10 rfl 1 rfl ?_
  refine x_iconst (v := 0) hM d_Mo_clear_11 (by decide) ?_
  obtain ⟨ρ2, eρ2⟩ : ∃ z : Rs, z = pI ρ1 (40, 0, 0) 2 0 := ⟨_, rfl⟩
  replace F := F ρ2 eρ2
  refine y_puti hG hM V ck_Mo 2 (Nat.le_of_ble_eq_true rfl) rfl rfl w_899 rfl d_Mo_clear_12 rfl (40, 0, 0) rfl rfl (fun h V => ?_)
  rw [← eρ2] at V
  clear eρ2
  refine x_aload_n hM d_Mo_clear_15 rfl 1 rfl ?_
  refine x_iconst (v := 0) hM d_Mo_clear_16 (by decide) ?_
  obtain ⟨ρ3, eρ3⟩ : ∃ z : Rs, z = pI ρ2 (40, 0, 0) 3 0 := ⟨_, rfl⟩
  replace F := F ρ3 eρ3
  refine y_puti hG hM V ck_Mo 3 (Nat.le_of_ble_eq_true rfl) rfl rfl w_900 rfl d_Mo_clear_17 rfl (40, 0, 0) rfl rfl (fun h V => ?_)
  rw [← eρ3] at V
  clear eρ3
  refine x_aload_n hM d_Mo_clear_20 rfl 1 rfl ?_
  refine x_iconst (v := 0) hM d_Mo_clear_21 (by decide) ?_
  obtain ⟨ρ4, eρ4⟩ : ∃ z : Rs, z = pI ρ3 (40, 0, 0) 9 0 := ⟨_, rfl⟩
  replace F := F ρ4 eρ4
  refine y_puti hG hM V ck_Mo 9 (Nat.le_of_ble_eq_true rfl) rfl rfl w_906 rfl d_Mo_clear_22 rfl (40, 0, 0) rfl rfl (fun h V => ?_)
  rw [← eρ4] at V
  clear eρ4
  refine x_aload_n hM d_Mo_clear_25 rfl 1 rfl ?_
  refine y_getr hG hM V ck_Mo 5 (Nat.le_of_ble_eq_true rfl) rfl rfl w_902 rfl d_Mo_clear_26 (40, 0, 0) (41, 5, 0) rfl rfl rfl ?_
  refine x_bipush (v := 12) hM d_Mo_clear_29 (by decide) ?_
  refine x_iconst (v := 0) hM d_Mo_clear_31 (by decide) ?_
  obtain ⟨c10, F⟩ := F
  obtain ⟨ρ5, eρ5⟩ : ∃ z : Rs, z = pI ρ4 (41, 5, 0) (Int32.toNatClampNeg 12) 0 := ⟨_, rfl⟩
  replace F := F ρ5 eρ5
  refine y_iastore hG hM V d_Mo_clear_32 (41, 5, 0) rfl rfl (by rw [vlen V (r := (41, 5, 0)) rfl rfl]; exact c10) (fun h V => ?_)
  rw [← eρ5] at V
  clear eρ5
  refine x_aload_n hM d_Mo_clear_33 rfl 1 rfl ?_
  refine x_callV hG hM (r' := r_Mo_forget) (ci := 11) [] rfl rfl (Nat.le_of_ble_eq_true rfl) yk_Mo_forget ⟨Nat.le_of_ble_eq_true rfl, Nat.le_of_ble_eq_true rfl⟩ w_893 w_895 ws_Mo_forget rfl rfl (Nat.le_of_ble_eq_true rfl) d_Mo_clear_34 (by rw [vT V rfl]; rfl) (sem_mono (F _ _ V) ?_)
  intro u7 h F
  obtain ⟨ad9, ρ6, V, hs8, F⟩ := F
  obtain ⟨rfl, F⟩ := F
  have hs8 := (St_eq hs8).symm
  subst hs8
  refine x_iload_n hM d_Mo_clear_37 rfl 0 rfl ?_
  exact x_ireturn hM d_Mo_clear_38 rfl (y_end V hSt (F _))
set_option maxRecDepth 100000 in
set_option maxHeartbeats 4000000 in
theorem T_Mo_thing_0 {G : Gc} {M : Mc} {Q : State → Prop} {ad0 : Ro → Nat} {K : (Ro → Nat) → Option Value → Rs → Prop} (hG : gok G) (hM : mok G M r_Mo_thing Q (KV G [] ad0 K)) (v1 : Int32) (ρ : Rs) (F : semV G r_Mo_isIn [] (fun ad => [.int v1, .int 2, .int 4]) ρ (fun ad u2 ρ1 => ∃ x4 : Int32, u2 = some (.int x4) ∧ ((x4 = 0 → (∀ ad, K ad (some (.int (-2))) ρ1)) ∧ (¬ x4 = 0 → ((0 < (iR ρ1 (40, 0, 0) 3) → (∀ ad, K ad (some (.int (-2))) ρ1)) ∧ (¬ 0 < (iR ρ1 (40, 0, 0) 3) → ((0 < (iR ρ1 (40, 0, 0) 9) → (∀ ad, K ad (some (.int (-2))) ρ1)) ∧ (¬ 0 < (iR ρ1 (40, 0, 0) 9) → (vp_in 12 19 ∧ (((iR ρ1 (41, 5, 0) (Int32.toNatClampNeg 12)) ≤ 0 → (((iR ρ1 (40, 0, 0) 0) = 8 → (∀ ad, K ad (some (.int (-3))) ρ1)) ∧ (¬ (iR ρ1 (40, 0, 0) 0) = 8 → (semV G r_Mo_states [] (fun ad => [.ref (ad (40, 0, 0))]) ρ1 (fun ad u7 ρ6 => ∃ x9 : Int32, u7 = some (.int x9) ∧ (((x9 * v1) ≤ 4096 → (vp_in (iR ρ6 (40, 0, 0) 0) 8 ∧ (∀ ρ10 : Rs, ρ10 = pI ρ6 (41, 1, 0) (Int32.toNatClampNeg (iR ρ6 (40, 0, 0) 0)) v1 → (∀ ρ11 : Rs, ρ11 = pI ρ10 (40, 0, 0) 0 ((iR ρ10 (40, 0, 0) 0) + 1) → (semV G r_Mo_forget [] (fun ad => [.ref (ad (40, 0, 0))]) ρ11 (fun ad u13 ρ12 => u13 = none ∧ (∀ ad, K ad (some (.int ((iR ρ12 (40, 0, 0) 0) - 1))) ρ12))))))) ∧ (¬ (x9 * v1) ≤ 4096 → (∀ ad, K ad (some (.int (-3))) ρ6)))))))) ∧ (¬ (iR ρ1 (41, 5, 0) (Int32.toNatClampNeg 12)) ≤ 0 → (∀ ad, K ad (some (.int (-2))) ρ1)))))))))))) : Y G [] ad0 M Q 0 (fun ad => [(0, .ref (ad (40, 0, 0))), (1, .int v1)]) (fun ad => []) ρ := by
  intro ad h hSt V
  show X G M Q 0 [(0, .ref (ad (40, 0, 0))), (1, .int v1)] [] h
  refine x_iload_n hM d_Mo_thing_0 rfl 1 rfl ?_
  refine x_iconst (v := 2) hM d_Mo_thing_1 (by decide) ?_
  refine x_iconst (v := 4) hM d_Mo_thing_2 (by decide) ?_
  refine x_callS hG hM (r' := r_Mo_isIn) [.int v1, .int 2, .int 4] rfl yk_Mo_isIn ⟨Nat.le_of_ble_eq_true rfl, Nat.le_of_ble_eq_true rfl⟩ w_1017 w_1018 rfl rfl (Nat.le_of_ble_eq_true rfl) d_Mo_thing_3 (sem_mono (F _ _ V) ?_)
  intro u2 h F
  obtain ⟨ad24, ρ1, V, hs3, F⟩ := F
  obtain ⟨x4, rfl, F⟩ := F
  have hs3 := (St_eq hs3).symm
  subst hs3
  refine x_if_eq (tgt := 33) hM d_Mo_thing_6 (by decide) (fun q23 => ?_) (fun q23 => ?_)
  · replace F := F.1 q23
    refine x_bipush (v := (-2)) hM d_Mo_thing_33 (by decide) ?_
    exact x_ireturn hM d_Mo_thing_35 rfl (y_end V hSt (F _))
  · replace F := F.2 q23
    refine x_aload_n hM d_Mo_thing_9 rfl 0 rfl ?_
    refine y_geti hG hM V ck_Mo 3 (Nat.le_of_ble_eq_true rfl) rfl rfl w_900 rfl d_Mo_thing_10 (40, 0, 0) rfl rfl ?_
    refine x_if_gt (tgt := 33) hM d_Mo_thing_13 (by decide) (fun q22 => ?_) (fun q22 => ?_)
    · replace F := F.1 q22
      refine x_bipush (v := (-2)) hM d_Mo_thing_33 (by decide) ?_
      exact x_ireturn hM d_Mo_thing_35 rfl (y_end V hSt (F _))
    · replace F := F.2 q22
      refine x_aload_n hM d_Mo_thing_16 rfl 0 rfl ?_
      refine y_geti hG hM V ck_Mo 9 (Nat.le_of_ble_eq_true rfl) rfl rfl w_906 rfl d_Mo_thing_17 (40, 0, 0) rfl rfl ?_
      refine x_if_gt (tgt := 33) hM d_Mo_thing_20 (by decide) (fun q21 => ?_) (fun q21 => ?_)
      · replace F := F.1 q21
        refine x_bipush (v := (-2)) hM d_Mo_thing_33 (by decide) ?_
        exact x_ireturn hM d_Mo_thing_35 rfl (y_end V hSt (F _))
      · replace F := F.2 q21
        refine x_aload_n hM d_Mo_thing_23 rfl 0 rfl ?_
        refine y_getr hG hM V ck_Mo 5 (Nat.le_of_ble_eq_true rfl) rfl rfl w_902 rfl d_Mo_thing_24 (40, 0, 0) (41, 5, 0) rfl rfl rfl ?_
        refine x_bipush (v := 12) hM d_Mo_thing_27 (by decide) ?_
        obtain ⟨c5, F⟩ := F
        refine y_iaload hG hM V d_Mo_thing_29 (41, 5, 0) rfl rfl (by rw [vlen V (r := (41, 5, 0)) rfl rfl]; exact c5) ?_
        refine x_if_le (tgt := 36) hM d_Mo_thing_30 (by decide) (fun q20 => ?_) (fun q20 => ?_)
        · replace F := F.1 q20
          refine x_aload_n hM d_Mo_thing_36 rfl 0 rfl ?_
          refine y_geti hG hM V ck_Mo 0 (Nat.le_of_ble_eq_true rfl) rfl rfl w_897 rfl d_Mo_thing_37 (40, 0, 0) rfl rfl ?_
          refine x_bipush (v := 8) hM d_Mo_thing_40 (by decide) ?_
          refine x_icmp_eq (tgt := 57) hM d_Mo_thing_42 (by decide) (fun q19 => ?_) (fun q19 => ?_)
          · replace F := F.1 q19
            refine x_bipush (v := (-3)) hM d_Mo_thing_57 (by decide) ?_
            exact x_ireturn hM d_Mo_thing_59 rfl (y_end V hSt (F _))
          · replace F := F.2 q19
            refine x_aload_n hM d_Mo_thing_45 rfl 0 rfl ?_
            refine x_callV hG hM (r' := r_Mo_states) (ci := 11) [] rfl rfl (Nat.le_of_ble_eq_true rfl) yk_Mo_states ⟨Nat.le_of_ble_eq_true rfl, Nat.le_of_ble_eq_true rfl⟩ w_1020 w_1022 ws_Mo_states rfl rfl (Nat.le_of_ble_eq_true rfl) d_Mo_thing_46 (by rw [vT V rfl]; rfl) (sem_mono (F _ _ V) ?_)
            intro u7 h F
            obtain ⟨ad18, ρ6, V, hs8, F⟩ := F
            obtain ⟨x9, rfl, F⟩ := F
            have hs8 := (St_eq hs8).symm
            subst hs8
            refine x_iload_n hM d_Mo_thing_49 rfl 1 rfl ?_
            refine x_imul hM d_Mo_thing_50 ?_
            refine x_sipush (v := 4096) hM d_Mo_thing_51 (by decide) ?_
            refine x_icmp_le (tgt := 60) hM d_Mo_thing_54 (by decide) (fun q17 => ?_) (fun q17 => ?_)
            · replace F := F.1 q17
              refine x_aload_n hM d_Mo_thing_60 rfl 0 rfl ?_
              refine y_getr hG hM V ck_Mo 1 (Nat.le_of_ble_eq_true rfl) rfl rfl w_898 rfl d_Mo_thing_61 (40, 0, 0) (41, 1, 0) rfl rfl rfl ?_
              refine x_aload_n hM d_Mo_thing_64 rfl 0 rfl ?_
              refine y_geti hG hM V ck_Mo 0 (Nat.le_of_ble_eq_true rfl) rfl rfl w_897 rfl d_Mo_thing_65 (40, 0, 0) rfl rfl ?_
              refine x_iload_n hM d_Mo_thing_68 rfl 1 rfl ?_
              obtain ⟨c16, F⟩ := F
              obtain ⟨ρ10, eρ10⟩ : ∃ z : Rs, z = pI ρ6 (41, 1, 0) (Int32.toNatClampNeg (iR ρ6 (40, 0, 0) 0)) v1 := ⟨_, rfl⟩
              replace F := F ρ10 eρ10
              refine y_iastore hG hM V d_Mo_thing_69 (41, 1, 0) rfl rfl (by rw [vlen V (r := (41, 1, 0)) rfl rfl]; exact c16) (fun h V => ?_)
              rw [← eρ10] at V
              clear eρ10
              refine x_aload_n hM d_Mo_thing_70 rfl 0 rfl ?_
              refine x_dup hM d_Mo_thing_71 rfl ?_
              refine y_geti hG hM V ck_Mo 0 (Nat.le_of_ble_eq_true rfl) rfl rfl w_897 rfl d_Mo_thing_72 (40, 0, 0) rfl rfl ?_
              refine x_iconst (v := 1) hM d_Mo_thing_75 (by decide) ?_
              refine x_iadd hM d_Mo_thing_76 ?_
              obtain ⟨ρ11, eρ11⟩ : ∃ z : Rs, z = pI ρ10 (40, 0, 0) 0 ((iR ρ10 (40, 0, 0) 0) + 1) := ⟨_, rfl⟩
              replace F := F ρ11 eρ11
              refine y_puti hG hM V ck_Mo 0 (Nat.le_of_ble_eq_true rfl) rfl rfl w_897 rfl d_Mo_thing_77 rfl (40, 0, 0) rfl rfl (fun h V => ?_)
              rw [← eρ11] at V
              clear eρ11
              refine x_aload_n hM d_Mo_thing_80 rfl 0 rfl ?_
              refine x_callV hG hM (r' := r_Mo_forget) (ci := 11) [] rfl rfl (Nat.le_of_ble_eq_true rfl) yk_Mo_forget ⟨Nat.le_of_ble_eq_true rfl, Nat.le_of_ble_eq_true rfl⟩ w_893 w_895 ws_Mo_forget rfl rfl (Nat.le_of_ble_eq_true rfl) d_Mo_thing_81 (by rw [vT V rfl]; rfl) (sem_mono (F _ _ V) ?_)
              intro u13 h F
              obtain ⟨ad15, ρ12, V, hs14, F⟩ := F
              obtain ⟨rfl, F⟩ := F
              have hs14 := (St_eq hs14).symm
              subst hs14
              refine x_aload_n hM d_Mo_thing_84 rfl 0 rfl ?_
              refine y_geti hG hM V ck_Mo 0 (Nat.le_of_ble_eq_true rfl) rfl rfl w_897 rfl d_Mo_thing_85 (40, 0, 0) rfl rfl ?_
              refine x_iconst (v := 1) hM d_Mo_thing_88 (by decide) ?_
              refine x_isub hM d_Mo_thing_89 ?_
              exact x_ireturn hM d_Mo_thing_90 rfl (y_end V hSt (F _))
            · replace F := F.2 q17
              refine x_bipush (v := (-3)) hM d_Mo_thing_57 (by decide) ?_
              exact x_ireturn hM d_Mo_thing_59 rfl (y_end V hSt (F _))
        · replace F := F.2 q20
          refine x_bipush (v := (-2)) hM d_Mo_thing_33 (by decide) ?_
          exact x_ireturn hM d_Mo_thing_35 rfl (y_end V hSt (F _))
set_option maxRecDepth 100000 in
set_option maxHeartbeats 4000000 in
theorem T_Mo_isIn_0 {G : Gc} {M : Mc} {Q : State → Prop} {ad0 : Ro → Nat} {K : (Ro → Nat) → Option Value → Rs → Prop} (hG : gok G) (hM : mok G M r_Mo_isIn Q (KV G [] ad0 K)) (v0 : Int32) (v1 : Int32) (v2 : Int32) (ρ : Rs) (F : ∀ z1 : Int32, z1 = (if v0 < v1 then 0 else (if v2 < v0 then 0 else 1)) → (nb z1 ∧ (∀ ad, K ad (some (.int z1)) ρ))) : Y G [] ad0 M Q 0 (fun ad => [(0, .int v0), (1, .int v1), (2, .int v2)]) (fun ad => []) ρ := by
  intro ad h hSt V
  show X G M Q 0 [(0, .int v0), (1, .int v1), (2, .int v2)] [] h
  refine x_iload_n hM d_Mo_isIn_0 rfl 0 rfl ?_
  refine x_iload_n hM d_Mo_isIn_1 rfl 1 rfl ?_
  have JJ : ∀ (z1 : Int32) (ez1 : z1 = (if v0 < v1 then 0 else (if v2 < v0 then 0 else 1))), X G M Q 15 [] [.int z1] h := by
    intro z1 ez1
    replace F := F _ ez1
    exact x_zreturn hM d_Mo_isIn_15 rfl F.1 (y_end V hSt (F.2 _))
  refine x_icmp_lt (tgt := 14) hM d_Mo_isIn_2 (by decide) (fun q2 => ?_) (fun q2 => ?_)
  · refine x_iconst (v := 0) hM d_Mo_isIn_14 (by decide) ?_
    refine x_sub [] rfl ?_
    exact JJ _ (Eq.symm (if_pos q2))
  · refine x_iload_n hM d_Mo_isIn_5 rfl 0 rfl ?_
    refine x_iload_n hM d_Mo_isIn_6 rfl 2 rfl ?_
    refine x_icmp_gt (tgt := 14) hM d_Mo_isIn_7 (by decide) (fun q3 => ?_) (fun q3 => ?_)
    · refine x_iconst (v := 0) hM d_Mo_isIn_14 (by decide) ?_
      refine x_sub [] rfl ?_
      exact JJ _ (Eq.symm (Eq.trans (if_neg q2) (if_pos q3)))
    · refine x_iconst (v := 1) hM d_Mo_isIn_10 (by decide) ?_
      refine x_goto (tgt := 15) hM d_Mo_isIn_11 (by decide) ?_
      refine x_sub [] rfl ?_
      exact JJ _ (Eq.symm (Eq.trans (if_neg q2) (if_neg q3)))
set_option maxRecDepth 100000 in
set_option maxHeartbeats 4000000 in
theorem T_Mo_states_0 {G : Gc} {M : Mc} {Q : State → Prop} {ad0 : Ro → Nat} {K : (Ro → Nat) → Option Value → Rs → Prop} (hG : gok G) (hM : mok G M r_Mo_states Q (KV G [] ad0 K))  (ρ : Rs) (F : Y G [] ad0 M Q 4 (fun ad => [(0, .ref (ad (40, 0, 0))), (1, .int 1), (2, .int 0)]) (fun ad => []) ρ) : Y G [] ad0 M Q 0 (fun ad => [(0, .ref (ad (40, 0, 0)))]) (fun ad => []) ρ := by
  intro ad h hSt V
  show X G M Q 0 [(0, .ref (ad (40, 0, 0)))] [] h
  refine x_iconst (v := 1) hM d_Mo_states_0 (by decide) ?_
  refine x_istore_n (lv2 := [(1, .int 1), (0, .ref (ad (40, 0, 0)))]) hM d_Mo_states_1 rfl (Nat.le_of_ble_eq_true rfl) rfl ?_
  refine x_iconst (v := 0) hM d_Mo_states_2 (by decide) ?_
  refine x_istore_n (lv2 := [(2, .int 0), (1, .int 1), (0, .ref (ad (40, 0, 0)))]) hM d_Mo_states_3 rfl (Nat.le_of_ble_eq_true rfl) rfl ?_
  refine x_sub [2, 1, 0] rfl ?_
  exact F _ _ hSt V
set_option maxRecDepth 100000 in
set_option maxHeartbeats 4000000 in
theorem T_Mo_states_4 {G : Gc} {M : Mc} {Q : State → Prop} {ad0 : Ro → Nat} {K : (Ro → Nat) → Option Value → Rs → Prop} (hG : gok G) (hM : mok G M r_Mo_states Q (KV G [] ad0 K)) (v1 : Int32) (v2 : Int32) (ρ : Rs) (F : ((iR ρ (40, 0, 0) 0) ≤ v2 → (∀ ad, K ad (some (.int v1)) ρ)) ∧ (¬ (iR ρ (40, 0, 0) 0) ≤ v2 → (vp_in v2 8 ∧ (Y G [] ad0 M Q 4 (fun ad => [(0, .ref (ad (40, 0, 0))), (1, .int (v1 * (iR ρ (41, 1, 0) (Int32.toNatClampNeg v2)))), (2, .int (v2 + 1))]) (fun ad => []) ρ)))) : Y G [] ad0 M Q 4 (fun ad => [(0, .ref (ad (40, 0, 0))), (1, .int v1), (2, .int v2)]) (fun ad => []) ρ := by
  intro ad h hSt V
  show X G M Q 4 [(0, .ref (ad (40, 0, 0))), (1, .int v1), (2, .int v2)] [] h
  refine x_iload_n hM d_Mo_states_4 rfl 2 rfl ?_
  refine x_aload_n hM d_Mo_states_5 rfl 0 rfl ?_
  refine y_geti hG hM V ck_Mo 0 (Nat.le_of_ble_eq_true rfl) rfl rfl w_897 rfl d_Mo_states_6 (40, 0, 0) rfl rfl ?_
  refine x_icmp_ge (tgt := 27) hM d_Mo_states_9 (by decide) (fun q3 => ?_) (fun q3 => ?_)
  · replace F := F.1 q3
    refine x_iload_n hM d_Mo_states_27 rfl 1 rfl ?_
    exact x_ireturn hM d_Mo_states_28 rfl (y_end V hSt (F _))
  · replace F := F.2 q3
    refine x_iload_n hM d_Mo_states_12 rfl 1 rfl ?_
    refine x_aload_n hM d_Mo_states_13 rfl 0 rfl ?_
    refine y_getr hG hM V ck_Mo 1 (Nat.le_of_ble_eq_true rfl) rfl rfl w_898 rfl d_Mo_states_14 (40, 0, 0) (41, 1, 0) rfl rfl rfl ?_
    refine x_iload_n hM d_Mo_states_17 rfl 2 rfl ?_
    obtain ⟨c2, F⟩ := F
    refine y_iaload hG hM V d_Mo_states_18 (41, 1, 0) rfl rfl (by rw [vlen V (r := (41, 1, 0)) rfl rfl]; exact c2) ?_
    refine x_imul hM d_Mo_states_19 ?_
    refine x_istore_n (lv2 := [(1, .int (v1 * (iR ρ (41, 1, 0) (Int32.toNatClampNeg v2)))), (0, .ref (ad (40, 0, 0))), (2, .int v2)]) hM d_Mo_states_20 rfl (Nat.le_of_ble_eq_true rfl) rfl ?_
    refine x_iinc (v := (v2 + 1)) (lv2 := [(2, .int (v2 + 1)), (1, .int (v1 * (iR ρ (41, 1, 0) (Int32.toNatClampNeg v2)))), (0, .ref (ad (40, 0, 0)))]) hM d_Mo_states_21 (j := 2) rfl rfl (Nat.le_of_ble_eq_true rfl) rfl ?_
    refine x_goto (tgt := 4) hM d_Mo_states_24 (by decide) ?_
    refine x_sub [2, 1, 0] rfl ?_
    exact F _ _ hSt V
set_option maxRecDepth 100000 in
set_option maxHeartbeats 4000000 in
theorem T_Mo_start_0 {G : Gc} {M : Mc} {Q : State → Prop} {ad0 : Ro → Nat} {K : (Ro → Nat) → Option Value → Rs → Prop} (hG : gok G) (hM : mok G M r_Mo_start Q (KV G [] ad0 K)) (v1 : Int32) (ρ : Rs) (F : semV G r_Mo_isState [] (fun ad => [.ref (ad (40, 0, 0)), .int v1]) ρ (fun ad u2 ρ1 => ∃ x4 : Int32, u2 = some (.int x4) ∧ ((x4 = 0 → (∀ ad, K ad (some (.int (-2))) ρ1)) ∧ (¬ x4 = 0 → (∀ ρ5 : Rs, ρ5 = pI ρ1 (40, 0, 0) 2 v1 → (semV G r_Mo_forget [] (fun ad => [.ref (ad (40, 0, 0))]) ρ5 (fun ad u7 ρ6 => u7 = none ∧ (∀ ad, K ad (some (.int (iR ρ1 (40, 0, 0) 2))) ρ6)))))))) : Y G [] ad0 M Q 0 (fun ad => [(0, .ref (ad (40, 0, 0))), (1, .int v1)]) (fun ad => []) ρ := by
  intro ad h hSt V
  show X G M Q 0 [(0, .ref (ad (40, 0, 0))), (1, .int v1)] [] h
  refine x_aload_n hM d_Mo_start_0 rfl 0 rfl ?_
  refine x_iload_n hM d_Mo_start_1 rfl 1 rfl ?_
  refine x_callV hG hM (r' := r_Mo_isState) (ci := 11) [.int v1] rfl rfl (Nat.le_of_ble_eq_true rfl) yk_Mo_isState ⟨Nat.le_of_ble_eq_true rfl, Nat.le_of_ble_eq_true rfl⟩ w_1028 w_1030 ws_Mo_isState rfl rfl (Nat.le_of_ble_eq_true rfl) d_Mo_start_2 (by rw [vT V rfl]; rfl) (sem_mono (F _ _ V) ?_)
  intro u2 h F
  obtain ⟨ad11, ρ1, V, hs3, F⟩ := F
  obtain ⟨x4, rfl, F⟩ := F
  have hs3 := (St_eq hs3).symm
  subst hs3
  refine x_if_ne (tgt := 11) hM d_Mo_start_5 (by decide) (fun q10 => ?_) (fun q10 => ?_)
  · replace F := F.2 q10
    refine x_aload_n hM d_Mo_start_11 rfl 0 rfl ?_
    refine y_geti hG hM V ck_Mo 2 (Nat.le_of_ble_eq_true rfl) rfl rfl w_899 rfl d_Mo_start_12 (40, 0, 0) rfl rfl ?_
    refine x_istore_n (lv2 := [(2, .int (iR ρ1 (40, 0, 0) 2)), (0, .ref (ad (40, 0, 0))), (1, .int v1)]) hM d_Mo_start_15 rfl (Nat.le_of_ble_eq_true rfl) rfl ?_
    refine x_aload_n hM d_Mo_start_16 rfl 1 rfl ?_
    refine x_iload_n hM d_Mo_start_17 rfl 2 rfl ?_
    obtain ⟨ρ5, eρ5⟩ : ∃ z : Rs, z = pI ρ1 (40, 0, 0) 2 v1 := ⟨_, rfl⟩
    replace F := F ρ5 eρ5
    refine y_puti hG hM V ck_Mo 2 (Nat.le_of_ble_eq_true rfl) rfl rfl w_899 rfl d_Mo_start_18 rfl (40, 0, 0) rfl rfl (fun h V => ?_)
    rw [← eρ5] at V
    clear eρ5
    refine x_aload_n hM d_Mo_start_21 rfl 1 rfl ?_
    refine x_callV hG hM (r' := r_Mo_forget) (ci := 11) [] rfl rfl (Nat.le_of_ble_eq_true rfl) yk_Mo_forget ⟨Nat.le_of_ble_eq_true rfl, Nat.le_of_ble_eq_true rfl⟩ w_893 w_895 ws_Mo_forget rfl rfl (Nat.le_of_ble_eq_true rfl) d_Mo_start_22 (by rw [vT V rfl]; rfl) (sem_mono (F _ _ V) ?_)
    intro u7 h F
    obtain ⟨ad9, ρ6, V, hs8, F⟩ := F
    obtain ⟨rfl, F⟩ := F
    have hs8 := (St_eq hs8).symm
    subst hs8
    refine x_iload_n hM d_Mo_start_25 rfl 0 rfl ?_
    exact x_ireturn hM d_Mo_start_26 rfl (y_end V hSt (F _))
  · replace F := F.1 q10
    refine x_bipush (v := (-2)) hM d_Mo_start_8 (by decide) ?_
    exact x_ireturn hM d_Mo_start_10 rfl (y_end V hSt (F _))
set_option maxRecDepth 100000 in
set_option maxHeartbeats 4000000 in
theorem T_Mo_isState_0 {G : Gc} {M : Mc} {Q : State → Prop} {ad0 : Ro → Nat} {K : (Ro → Nat) → Option Value → Rs → Prop} (hG : gok G) (hM : mok G M r_Mo_isState Q (KV G [] ad0 K)) (v1 : Int32) (ρ : Rs) (F : semV G r_Mo_states [] (fun ad => [.ref (ad (40, 0, 0))]) ρ (fun ad u2 ρ1 => ∃ x4 : Int32, u2 = some (.int x4) ∧ (semV G r_Mo_isIn [] (fun ad => [.int v1, .int 0, .int (x4 - 1)]) ρ1 (fun ad u6 ρ5 => ∃ x8 : Int32, u6 = some (.int x8) ∧ (nb x8 ∧ (∀ ad, K ad (some (.int x8)) ρ5)))))) : Y G [] ad0 M Q 0 (fun ad => [(0, .ref (ad (40, 0, 0))), (1, .int v1)]) (fun ad => []) ρ := by
  intro ad h hSt V
  show X G M Q 0 [(0, .ref (ad (40, 0, 0))), (1, .int v1)] [] h
  refine x_iload_n hM d_Mo_isState_0 rfl 1 rfl ?_
  refine x_iconst (v := 0) hM d_Mo_isState_1 (by decide) ?_
  refine x_aload_n hM d_Mo_isState_2 rfl 0 rfl ?_
  refine x_callV hG hM (r' := r_Mo_states) (ci := 11) [] rfl rfl (Nat.le_of_ble_eq_true rfl) yk_Mo_states ⟨Nat.le_of_ble_eq_true rfl, Nat.le_of_ble_eq_true rfl⟩ w_1020 w_1022 ws_Mo_states rfl rfl (Nat.le_of_ble_eq_true rfl) d_Mo_isState_3 (by rw [vT V rfl]; rfl) (sem_mono (F _ _ V) ?_)
  intro u2 h F
  obtain ⟨ad10, ρ1, V, hs3, F⟩ := F
  obtain ⟨x4, rfl, F⟩ := F
  have hs3 := (St_eq hs3).symm
  subst hs3
  refine x_iconst (v := 1) hM d_Mo_isState_6 (by decide) ?_
  refine x_isub hM d_Mo_isState_7 ?_
  refine x_callS hG hM (r' := r_Mo_isIn) [.int v1, .int 0, .int (x4 - 1)] rfl yk_Mo_isIn ⟨Nat.le_of_ble_eq_true rfl, Nat.le_of_ble_eq_true rfl⟩ w_1017 w_1018 rfl rfl (Nat.le_of_ble_eq_true rfl) d_Mo_isState_8 (sem_mono (F _ _ V) ?_)
  intro u6 h F
  obtain ⟨ad9, ρ5, V, hs7, F⟩ := F
  obtain ⟨x8, rfl, F⟩ := F
  have hs7 := (St_eq hs7).symm
  subst hs7
  exact x_zreturn hM d_Mo_isState_11 rfl F.1 (y_end V hSt (F.2 _))
set_option maxRecDepth 100000 in
set_option maxHeartbeats 4000000 in
theorem T_Mo_act_0 {G : Gc} {M : Mc} {Q : State → Prop} {ad0 : Ro → Nat} {K : (Ro → Nat) → Option Value → Rs → Prop} (hG : gok G) (hM : mok G M r_Mo_act Q (KV G [] ad0 K))  (ρ : Rs) (F : ((iR ρ (40, 0, 0) 3) = 12 → (∀ ad, K ad (some (.int (-3))) ρ)) ∧ (¬ (iR ρ (40, 0, 0) 3) = 12 → (vp_in (iR ρ (40, 0, 0) 3) 12 ∧ (∀ ρ1 : Rs, ρ1 = pI ρ (41, 4, 0) (Int32.toNatClampNeg (iR ρ (40, 0, 0) 3)) 1 → (vp_in (iR ρ1 (40, 0, 0) 3) 19 ∧ (∀ ρ2 : Rs, ρ2 = pI ρ1 (41, 5, 0) (Int32.toNatClampNeg (iR ρ1 (40, 0, 0) 3)) 0 → (vp_in (3 * (iR ρ2 (40, 0, 0) 3)) 36 ∧ (∀ ρ3 : Rs, ρ3 = pI ρ2 (41, 7, 0) (Int32.toNatClampNeg (3 * (iR ρ2 (40, 0, 0) 3))) 0 → (∀ ρ4 : Rs, ρ4 = pI ρ3 (40, 0, 0) 3 ((iR ρ3 (40, 0, 0) 3) + 1) → (semV G r_Mo_forget [] (fun ad => [.ref (ad (40, 0, 0))]) ρ4 (fun ad u6 ρ5 => u6 = none ∧ (∀ ad, K ad (some (.int ((iR ρ5 (40, 0, 0) 3) - 1))) ρ5)))))))))))) : Y G [] ad0 M Q 0 (fun ad => [(0, .ref (ad (40, 0, 0)))]) (fun ad => []) ρ := by
  intro ad h hSt V
  show X G M Q 0 [(0, .ref (ad (40, 0, 0)))] [] h
  refine x_aload_n hM d_Mo_act_0 rfl 0 rfl ?_
  refine y_geti hG hM V ck_Mo 3 (Nat.le_of_ble_eq_true rfl) rfl rfl w_900 rfl d_Mo_act_1 (40, 0, 0) rfl rfl ?_
  refine x_bipush (v := 12) hM d_Mo_act_4 (by decide) ?_
  refine x_icmp_ne (tgt := 12) hM d_Mo_act_6 (by decide) (fun q12 => ?_) (fun q12 => ?_)
  · replace F := F.2 q12
    refine x_aload_n hM d_Mo_act_12 rfl 0 rfl ?_
    refine y_getr hG hM V ck_Mo 4 (Nat.le_of_ble_eq_true rfl) rfl rfl w_901 rfl d_Mo_act_13 (40, 0, 0) (41, 4, 0) rfl rfl rfl ?_
    refine x_aload_n hM d_Mo_act_16 rfl 0 rfl ?_
    refine y_geti hG hM V ck_Mo 3 (Nat.le_of_ble_eq_true rfl) rfl rfl w_900 rfl d_Mo_act_17 (40, 0, 0) rfl rfl ?_
    refine x_iconst (v := 1) hM d_Mo_act_20 (by decide) ?_
    obtain ⟨c11, F⟩ := F
    obtain ⟨ρ1, eρ1⟩ : ∃ z : Rs, z = pI ρ (41, 4, 0) (Int32.toNatClampNeg (iR ρ (40, 0, 0) 3)) 1 := ⟨_, rfl⟩
    replace F := F ρ1 eρ1
    refine y_iastore hG hM V d_Mo_act_21 (41, 4, 0) rfl rfl (by rw [vlen V (r := (41, 4, 0)) rfl rfl]; exact c11) (fun h V => ?_)
    rw [← eρ1] at V
    clear eρ1
    refine x_aload_n hM d_Mo_act_22 rfl 0 rfl ?_
    refine y_getr hG hM V ck_Mo 5 (Nat.le_of_ble_eq_true rfl) rfl rfl w_902 rfl d_Mo_act_23 (40, 0, 0) (41, 5, 0) rfl rfl rfl ?_
    refine x_aload_n hM d_Mo_act_26 rfl 0 rfl ?_
    refine y_geti hG hM V ck_Mo 3 (Nat.le_of_ble_eq_true rfl) rfl rfl w_900 rfl d_Mo_act_27 (40, 0, 0) rfl rfl ?_
    refine x_iconst (v := 0) hM d_Mo_act_30 (by decide) ?_
    obtain ⟨c10, F⟩ := F
    obtain ⟨ρ2, eρ2⟩ : ∃ z : Rs, z = pI ρ1 (41, 5, 0) (Int32.toNatClampNeg (iR ρ1 (40, 0, 0) 3)) 0 := ⟨_, rfl⟩
    replace F := F ρ2 eρ2
    refine y_iastore hG hM V d_Mo_act_31 (41, 5, 0) rfl rfl (by rw [vlen V (r := (41, 5, 0)) rfl rfl]; exact c10) (fun h V => ?_)
    rw [← eρ2] at V
    clear eρ2
    refine x_aload_n hM d_Mo_act_32 rfl 0 rfl ?_
    refine y_getr hG hM V ck_Mo 7 (Nat.le_of_ble_eq_true rfl) rfl rfl w_904 rfl d_Mo_act_33 (40, 0, 0) (41, 7, 0) rfl rfl rfl ?_
    refine x_iconst (v := 3) hM d_Mo_act_36 (by decide) ?_
    refine x_aload_n hM d_Mo_act_37 rfl 0 rfl ?_
    refine y_geti hG hM V ck_Mo 3 (Nat.le_of_ble_eq_true rfl) rfl rfl w_900 rfl d_Mo_act_38 (40, 0, 0) rfl rfl ?_
    refine x_imul hM d_Mo_act_41 ?_
    refine x_iconst (v := 0) hM d_Mo_act_42 (by decide) ?_
    obtain ⟨c9, F⟩ := F
    obtain ⟨ρ3, eρ3⟩ : ∃ z : Rs, z = pI ρ2 (41, 7, 0) (Int32.toNatClampNeg (3 * (iR ρ2 (40, 0, 0) 3))) 0 := ⟨_, rfl⟩
    replace F := F ρ3 eρ3
    refine y_iastore hG hM V d_Mo_act_43 (41, 7, 0) rfl rfl (by rw [vlen V (r := (41, 7, 0)) rfl rfl]; exact c9) (fun h V => ?_)
    rw [← eρ3] at V
    clear eρ3
    refine x_aload_n hM d_Mo_act_44 rfl 0 rfl ?_
    refine x_dup hM d_Mo_act_45 rfl ?_
    refine y_geti hG hM V ck_Mo 3 (Nat.le_of_ble_eq_true rfl) rfl rfl w_900 rfl d_Mo_act_46 (40, 0, 0) rfl rfl ?_
    refine x_iconst (v := 1) hM d_Mo_act_49 (by decide) ?_
    refine x_iadd hM d_Mo_act_50 ?_
    obtain ⟨ρ4, eρ4⟩ : ∃ z : Rs, z = pI ρ3 (40, 0, 0) 3 ((iR ρ3 (40, 0, 0) 3) + 1) := ⟨_, rfl⟩
    replace F := F ρ4 eρ4
    refine y_puti hG hM V ck_Mo 3 (Nat.le_of_ble_eq_true rfl) rfl rfl w_900 rfl d_Mo_act_51 rfl (40, 0, 0) rfl rfl (fun h V => ?_)
    rw [← eρ4] at V
    clear eρ4
    refine x_aload_n hM d_Mo_act_54 rfl 0 rfl ?_
    refine x_callV hG hM (r' := r_Mo_forget) (ci := 11) [] rfl rfl (Nat.le_of_ble_eq_true rfl) yk_Mo_forget ⟨Nat.le_of_ble_eq_true rfl, Nat.le_of_ble_eq_true rfl⟩ w_893 w_895 ws_Mo_forget rfl rfl (Nat.le_of_ble_eq_true rfl) d_Mo_act_55 (by rw [vT V rfl]; rfl) (sem_mono (F _ _ V) ?_)
    intro u6 h F
    obtain ⟨ad8, ρ5, V, hs7, F⟩ := F
    obtain ⟨rfl, F⟩ := F
    have hs7 := (St_eq hs7).symm
    subst hs7
    refine x_aload_n hM d_Mo_act_58 rfl 0 rfl ?_
    refine y_geti hG hM V ck_Mo 3 (Nat.le_of_ble_eq_true rfl) rfl rfl w_900 rfl d_Mo_act_59 (40, 0, 0) rfl rfl ?_
    refine x_iconst (v := 1) hM d_Mo_act_62 (by decide) ?_
    refine x_isub hM d_Mo_act_63 ?_
    exact x_ireturn hM d_Mo_act_64 rfl (y_end V hSt (F _))
  · replace F := F.1 q12
    refine x_bipush (v := (-3)) hM d_Mo_act_9 (by decide) ?_
    exact x_ireturn hM d_Mo_act_11 rfl (y_end V hSt (F _))
set_option maxRecDepth 100000 in
set_option maxHeartbeats 4000000 in
theorem T_Mo_outcome_0 {G : Gc} {M : Mc} {Q : State → Prop} {ad0 : Ro → Nat} {K : (Ro → Nat) → Option Value → Rs → Prop} (hG : gok G) (hM : mok G M r_Mo_outcome Q (KV G [] ad0 K)) (v1 : Int32) (ρ : Rs) (F : semV G r_Mo_isAct [] (fun ad => [.ref (ad (40, 0, 0)), .int v1]) ρ (fun ad u2 ρ1 => ∃ x4 : Int32, u2 = some (.int x4) ∧ ((x4 = 0 → (∀ ad, K ad (some (.int (-2))) ρ1)) ∧ (¬ x4 = 0 → (vp_in v1 12 ∧ (((iR ρ1 (41, 4, 0) (Int32.toNatClampNeg v1)) = 3 → (∀ ad, K ad (some (.int (-3))) ρ1)) ∧ (¬ (iR ρ1 (41, 4, 0) (Int32.toNatClampNeg v1)) = 3 → (vp_in v1 12 ∧ (vp_in ((3 * v1) + (iR ρ1 (41, 4, 0) (Int32.toNatClampNeg v1))) 36 ∧ (∀ ρ7 : Rs, ρ7 = pI ρ1 (41, 7, 0) (Int32.toNatClampNeg ((3 * v1) + (iR ρ1 (41, 4, 0) (Int32.toNatClampNeg v1)))) 0 → (vp_in v1 12 ∧ (vp_in v1 12 ∧ (∀ ρ9 : Rs, ρ9 = pI ρ7 (41, 4, 0) (Int32.toNatClampNeg v1) ((iR ρ7 (41, 4, 0) (Int32.toNatClampNeg v1)) + 1) → (semV G r_Mo_forget [] (fun ad => [.ref (ad (40, 0, 0))]) ρ9 (fun ad u11 ρ10 => u11 = none ∧ (vp_in v1 12 ∧ (∀ ad, K ad (some (.int ((iR ρ10 (41, 4, 0) (Int32.toNatClampNeg v1)) - 1))) ρ10))))))))))))))))) : Y G [] ad0 M Q 0 (fun ad => [(0, .ref (ad (40, 0, 0))), (1, .int v1)]) (fun ad => []) ρ := by
  intro ad h hSt V
  show X G M Q 0 [(0, .ref (ad (40, 0, 0))), (1, .int v1)] [] h
  refine x_aload_n hM d_Mo_outcome_0 rfl 0 rfl ?_
  refine x_iload_n hM d_Mo_outcome_1 rfl 1 rfl ?_
  refine x_callV hG hM (r' := r_Mo_isAct) (ci := 11) [.int v1] rfl rfl (Nat.le_of_ble_eq_true rfl) yk_Mo_isAct ⟨Nat.le_of_ble_eq_true rfl, Nat.le_of_ble_eq_true rfl⟩ w_1040 w_1042 ws_Mo_isAct rfl rfl (Nat.le_of_ble_eq_true rfl) d_Mo_outcome_2 (by rw [vT V rfl]; rfl) (sem_mono (F _ _ V) ?_)
  intro u2 h F
  obtain ⟨ad19, ρ1, V, hs3, F⟩ := F
  obtain ⟨x4, rfl, F⟩ := F
  have hs3 := (St_eq hs3).symm
  subst hs3
  refine x_if_ne (tgt := 11) hM d_Mo_outcome_5 (by decide) (fun q18 => ?_) (fun q18 => ?_)
  · replace F := F.2 q18
    refine x_aload_n hM d_Mo_outcome_11 rfl 0 rfl ?_
    refine y_getr hG hM V ck_Mo 4 (Nat.le_of_ble_eq_true rfl) rfl rfl w_901 rfl d_Mo_outcome_12 (40, 0, 0) (41, 4, 0) rfl rfl rfl ?_
    refine x_iload_n hM d_Mo_outcome_15 rfl 1 rfl ?_
    obtain ⟨c5, F⟩ := F
    refine y_iaload hG hM V d_Mo_outcome_16 (41, 4, 0) rfl rfl (by rw [vlen V (r := (41, 4, 0)) rfl rfl]; exact c5) ?_
    refine x_iconst (v := 3) hM d_Mo_outcome_17 (by decide) ?_
    refine x_icmp_ne (tgt := 24) hM d_Mo_outcome_18 (by decide) (fun q17 => ?_) (fun q17 => ?_)
    · replace F := F.2 q17
      refine x_aload_n hM d_Mo_outcome_24 rfl 0 rfl ?_
      refine y_getr hG hM V ck_Mo 7 (Nat.le_of_ble_eq_true rfl) rfl rfl w_904 rfl d_Mo_outcome_25 (40, 0, 0) (41, 7, 0) rfl rfl rfl ?_
      refine x_iconst (v := 3) hM d_Mo_outcome_28 (by decide) ?_
      refine x_iload_n hM d_Mo_outcome_29 rfl 1 rfl ?_
      refine x_imul hM d_Mo_outcome_30 ?_
      refine x_aload_n hM d_Mo_outcome_31 rfl 0 rfl ?_
      refine y_getr hG hM V ck_Mo 4 (Nat.le_of_ble_eq_true rfl) rfl rfl w_901 rfl d_Mo_outcome_32 (40, 0, 0) (41, 4, 0) rfl rfl rfl ?_
      refine x_iload_n hM d_Mo_outcome_35 rfl 1 rfl ?_
      obtain ⟨c6, F⟩ := F
      refine y_iaload hG hM V d_Mo_outcome_36 (41, 4, 0) rfl rfl (by rw [vlen V (r := (41, 4, 0)) rfl rfl]; exact c6) ?_
      refine x_iadd hM d_Mo_outcome_37 ?_
      refine x_iconst (v := 0) hM d_Mo_outcome_38 (by decide) ?_
      obtain ⟨c16, F⟩ := F
      obtain ⟨ρ7, eρ7⟩ : ∃ z : Rs, z = pI ρ1 (41, 7, 0) (Int32.toNatClampNeg ((3 * v1) + (iR ρ1 (41, 4, 0) (Int32.toNatClampNeg v1)))) 0 := ⟨_, rfl⟩
      replace F := F ρ7 eρ7
      refine y_iastore hG hM V d_Mo_outcome_39 (41, 7, 0) rfl rfl (by rw [vlen V (r := (41, 7, 0)) rfl rfl]; exact c16) (fun h V => ?_)
      rw [← eρ7] at V
      clear eρ7
      refine x_aload_n hM d_Mo_outcome_40 rfl 0 rfl ?_
      refine y_getr hG hM V ck_Mo 4 (Nat.le_of_ble_eq_true rfl) rfl rfl w_901 rfl d_Mo_outcome_41 (40, 0, 0) (41, 4, 0) rfl rfl rfl ?_
      refine x_iload_n hM d_Mo_outcome_44 rfl 1 rfl ?_
      refine x_dup2 hM d_Mo_outcome_45 rfl rfl ?_
      obtain ⟨c8, F⟩ := F
      refine y_iaload hG hM V d_Mo_outcome_46 (41, 4, 0) rfl rfl (by rw [vlen V (r := (41, 4, 0)) rfl rfl]; exact c8) ?_
      refine x_iconst (v := 1) hM d_Mo_outcome_47 (by decide) ?_
      refine x_iadd hM d_Mo_outcome_48 ?_
      obtain ⟨c15, F⟩ := F
      obtain ⟨ρ9, eρ9⟩ : ∃ z : Rs, z = pI ρ7 (41, 4, 0) (Int32.toNatClampNeg v1) ((iR ρ7 (41, 4, 0) (Int32.toNatClampNeg v1)) + 1) := ⟨_, rfl⟩
      replace F := F ρ9 eρ9
      refine y_iastore hG hM V d_Mo_outcome_49 (41, 4, 0) rfl rfl (by rw [vlen V (r := (41, 4, 0)) rfl rfl]; exact c15) (fun h V => ?_)
      rw [← eρ9] at V
      clear eρ9
      refine x_aload_n hM d_Mo_outcome_50 rfl 0 rfl ?_
      refine x_callV hG hM (r' := r_Mo_forget) (ci := 11) [] rfl rfl (Nat.le_of_ble_eq_true rfl) yk_Mo_forget ⟨Nat.le_of_ble_eq_true rfl, Nat.le_of_ble_eq_true rfl⟩ w_893 w_895 ws_Mo_forget rfl rfl (Nat.le_of_ble_eq_true rfl) d_Mo_outcome_51 (by rw [vT V rfl]; rfl) (sem_mono (F _ _ V) ?_)
      intro u11 h F
      obtain ⟨ad14, ρ10, V, hs12, F⟩ := F
      obtain ⟨rfl, F⟩ := F
      have hs12 := (St_eq hs12).symm
      subst hs12
      refine x_aload_n hM d_Mo_outcome_54 rfl 0 rfl ?_
      refine y_getr hG hM V ck_Mo 4 (Nat.le_of_ble_eq_true rfl) rfl rfl w_901 rfl d_Mo_outcome_55 (40, 0, 0) (41, 4, 0) rfl rfl rfl ?_
      refine x_iload_n hM d_Mo_outcome_58 rfl 1 rfl ?_
      obtain ⟨c13, F⟩ := F
      refine y_iaload hG hM V d_Mo_outcome_59 (41, 4, 0) rfl rfl (by rw [vlen V (r := (41, 4, 0)) rfl rfl]; exact c13) ?_
      refine x_iconst (v := 1) hM d_Mo_outcome_60 (by decide) ?_
      refine x_isub hM d_Mo_outcome_61 ?_
      exact x_ireturn hM d_Mo_outcome_62 rfl (y_end V hSt (F _))
    · replace F := F.1 q17
      refine x_bipush (v := (-3)) hM d_Mo_outcome_21 (by decide) ?_
      exact x_ireturn hM d_Mo_outcome_23 rfl (y_end V hSt (F _))
  · replace F := F.1 q18
    refine x_bipush (v := (-2)) hM d_Mo_outcome_8 (by decide) ?_
    exact x_ireturn hM d_Mo_outcome_10 rfl (y_end V hSt (F _))
set_option maxRecDepth 100000 in
set_option maxHeartbeats 4000000 in
theorem T_Mo_isAct_0 {G : Gc} {M : Mc} {Q : State → Prop} {ad0 : Ro → Nat} {K : (Ro → Nat) → Option Value → Rs → Prop} (hG : gok G) (hM : mok G M r_Mo_isAct Q (KV G [] ad0 K)) (v1 : Int32) (ρ : Rs) (F : semV G r_Mo_isIn [] (fun ad => [.int v1, .int 0, .int ((iR ρ (40, 0, 0) 3) - 1)]) ρ (fun ad u2 ρ1 => ∃ x4 : Int32, u2 = some (.int x4) ∧ (nb x4 ∧ (∀ ad, K ad (some (.int x4)) ρ1)))) : Y G [] ad0 M Q 0 (fun ad => [(0, .ref (ad (40, 0, 0))), (1, .int v1)]) (fun ad => []) ρ := by
  intro ad h hSt V
  show X G M Q 0 [(0, .ref (ad (40, 0, 0))), (1, .int v1)] [] h
  refine x_iload_n hM d_Mo_isAct_0 rfl 1 rfl ?_
  refine x_iconst (v := 0) hM d_Mo_isAct_1 (by decide) ?_
  refine x_aload_n hM d_Mo_isAct_2 rfl 0 rfl ?_
  refine y_geti hG hM V ck_Mo 3 (Nat.le_of_ble_eq_true rfl) rfl rfl w_900 rfl d_Mo_isAct_3 (40, 0, 0) rfl rfl ?_
  refine x_iconst (v := 1) hM d_Mo_isAct_6 (by decide) ?_
  refine x_isub hM d_Mo_isAct_7 ?_
  refine x_callS hG hM (r' := r_Mo_isIn) [.int v1, .int 0, .int ((iR ρ (40, 0, 0) 3) - 1)] rfl yk_Mo_isIn ⟨Nat.le_of_ble_eq_true rfl, Nat.le_of_ble_eq_true rfl⟩ w_1017 w_1018 rfl rfl (Nat.le_of_ble_eq_true rfl) d_Mo_isAct_8 (sem_mono (F _ _ V) ?_)
  intro u2 h F
  obtain ⟨ad5, ρ1, V, hs3, F⟩ := F
  obtain ⟨x4, rfl, F⟩ := F
  have hs3 := (St_eq hs3).symm
  subst hs3
  exact x_zreturn hM d_Mo_isAct_11 rfl F.1 (y_end V hSt (F.2 _))
set_option maxRecDepth 100000 in
set_option maxHeartbeats 4000000 in
theorem T_Mo_when_0 {G : Gc} {M : Mc} {Q : State → Prop} {ad0 : Ro → Nat} {K : (Ro → Nat) → Option Value → Rs → Prop} (hG : gok G) (hM : mok G M r_Mo_when Q (KV G [] ad0 K)) (v1 : Int32) (v2 : Int32) (v3 : Int32) (v4 : Int32) (ρ : Rs) (F : semV G r_Mo_isAct [] (fun ad => [.ref (ad (40, 0, 0)), .int v1]) ρ (fun ad u2 ρ1 => ∃ x4 : Int32, u2 = some (.int x4) ∧ ((x4 = 0 → (∀ ad, K ad (some (.int (-2))) ρ1)) ∧ (¬ x4 = 0 → (semV G r_Mo_isCondition [] (fun ad => [.ref (ad (40, 0, 0)), .int v2, .int v3, .int v4]) ρ1 (fun ad u6 ρ5 => ∃ x8 : Int32, u6 = some (.int x8) ∧ ((x8 = 0 → (∀ ad, K ad (some (.int (-2))) ρ5)) ∧ (¬ x8 = 0 → (semV G r_Mo_more [] (fun ad => [.ref (ad (40, 0, 0)), .int v1, .int v2, .int v3, .int v4]) ρ5 (fun ad u10 ρ9 => ∃ x12 : Int32, u10 = some (.int x12) ∧ (∀ ad, K ad (some (.int x12)) ρ9))))))))))) : Y G [] ad0 M Q 0 (fun ad => [(0, .ref (ad (40, 0, 0))), (1, .int v1), (2, .int v2), (3, .int v3), (4, .int v4)]) (fun ad => []) ρ := by
  intro ad h hSt V
  show X G M Q 0 [(0, .ref (ad (40, 0, 0))), (1, .int v1), (2, .int v2), (3, .int v3), (4, .int v4)] [] h
  refine x_aload_n hM d_Mo_when_0 rfl 0 rfl ?_
  refine x_iload_n hM d_Mo_when_1 rfl 1 rfl ?_
  refine x_callV hG hM (r' := r_Mo_isAct) (ci := 11) [.int v1] rfl rfl (Nat.le_of_ble_eq_true rfl) yk_Mo_isAct ⟨Nat.le_of_ble_eq_true rfl, Nat.le_of_ble_eq_true rfl⟩ w_1040 w_1042 ws_Mo_isAct rfl rfl (Nat.le_of_ble_eq_true rfl) d_Mo_when_2 (by rw [vT V rfl]; rfl) (sem_mono (F _ _ V) ?_)
  intro u2 h F
  obtain ⟨ad17, ρ1, V, hs3, F⟩ := F
  obtain ⟨x4, rfl, F⟩ := F
  have hs3 := (St_eq hs3).symm
  subst hs3
  refine x_if_eq (tgt := 31) hM d_Mo_when_5 (by decide) (fun q16 => ?_) (fun q16 => ?_)
  · replace F := F.1 q16
    refine x_bipush (v := (-2)) hM d_Mo_when_31 (by decide) ?_
    exact x_ireturn hM d_Mo_when_33 rfl (y_end V hSt (F _))
  · replace F := F.2 q16
    refine x_aload_n hM d_Mo_when_8 rfl 0 rfl ?_
    refine x_iload_n hM d_Mo_when_9 rfl 2 rfl ?_
    refine x_iload_n hM d_Mo_when_10 rfl 3 rfl ?_
    refine x_iload hM d_Mo_when_11 4 rfl ?_
    refine x_callV hG hM (r' := r_Mo_isCondition) (ci := 11) [.int v2, .int v3, .int v4] rfl rfl (Nat.le_of_ble_eq_true rfl) yk_Mo_isCondition ⟨Nat.le_of_ble_eq_true rfl, Nat.le_of_ble_eq_true rfl⟩ w_1048 w_1050 ws_Mo_isCondition rfl rfl (Nat.le_of_ble_eq_true rfl) d_Mo_when_13 (by rw [vT V rfl]; rfl) (sem_mono (F _ _ V) ?_)
    intro u6 h F
    obtain ⟨ad15, ρ5, V, hs7, F⟩ := F
    obtain ⟨x8, rfl, F⟩ := F
    have hs7 := (St_eq hs7).symm
    subst hs7
    refine x_if_eq (tgt := 31) hM d_Mo_when_16 (by decide) (fun q14 => ?_) (fun q14 => ?_)
    · replace F := F.1 q14
      refine x_bipush (v := (-2)) hM d_Mo_when_31 (by decide) ?_
      exact x_ireturn hM d_Mo_when_33 rfl (y_end V hSt (F _))
    · replace F := F.2 q14
      refine x_aload_n hM d_Mo_when_19 rfl 0 rfl ?_
      refine x_iload_n hM d_Mo_when_20 rfl 1 rfl ?_
      refine x_iload_n hM d_Mo_when_21 rfl 2 rfl ?_
      refine x_iload_n hM d_Mo_when_22 rfl 3 rfl ?_
      refine x_iload hM d_Mo_when_23 4 rfl ?_
      refine x_callV hG hM (r' := r_Mo_more) (ci := 11) [.int v1, .int v2, .int v3, .int v4] rfl rfl (Nat.le_of_ble_eq_true rfl) yk_Mo_more ⟨Nat.le_of_ble_eq_true rfl, Nat.le_of_ble_eq_true rfl⟩ w_1056 w_1058 ws_Mo_more rfl rfl (Nat.le_of_ble_eq_true rfl) d_Mo_when_25 (by rw [vT V rfl]; rfl) (sem_mono (F _ _ V) ?_)
      intro u10 h F
      obtain ⟨ad13, ρ9, V, hs11, F⟩ := F
      obtain ⟨x12, rfl, F⟩ := F
      have hs11 := (St_eq hs11).symm
      subst hs11
      refine x_goto (tgt := 33) hM d_Mo_when_28 (by decide) ?_
      exact x_ireturn hM d_Mo_when_33 rfl (y_end V hSt (F _))
set_option maxRecDepth 100000 in
set_option maxHeartbeats 4000000 in
theorem T_Mo_isCondition_0 {G : Gc} {M : Mc} {Q : State → Prop} {ad0 : Ro → Nat} {K : (Ro → Nat) → Option Value → Rs → Prop} (hG : gok G) (hM : mok G M r_Mo_isCondition Q (KV G [] ad0 K)) (v1 : Int32) (v2 : Int32) (v3 : Int32) (ρ : Rs) (F : semV G r_Mo_isThing [] (fun ad => [.ref (ad (40, 0, 0)), .int v1]) ρ (fun ad u2 ρ1 => ∃ x4 : Int32, u2 = some (.int x4) ∧ ((x4 = 0 → (∀ ad, K ad (some (.int 0)) ρ1)) ∧ (¬ x4 = 0 → (semV G r_Mo_isIn [] (fun ad => [.int v2, .int 0, .int 3]) ρ1 (fun ad u6 ρ5 => ∃ x8 : Int32, u6 = some (.int x8) ∧ ((x8 = 0 → (∀ ad, K ad (some (.int 0)) ρ5)) ∧ (¬ x8 = 0 → ((v2 = 2 → (semV G r_Mo_isThing [] (fun ad => [.ref (ad (40, 0, 0)), .int v3]) ρ5 (fun ad u17 ρ16 => ∃ x19 : Int32, u17 = some (.int x19) ∧ (∀ z20 : Int32, z20 = (if x19 = 0 then 0 else 1) → (nb z20 ∧ (∀ ad, K ad (some (.int z20)) ρ16)))))) ∧ (¬ v2 = 2 → (semV G r_Mo_isIn [] (fun ad => [.int v3, .int 0, .int 3]) ρ5 (fun ad u10 ρ9 => ∃ x12 : Int32, u10 = some (.int x12) ∧ (∀ z13 : Int32, z13 = (if x12 = 0 then 0 else 1) → (nb z13 ∧ (∀ ad, K ad (some (.int z13)) ρ9))))))))))))))) : Y G [] ad0 M Q 0 (fun ad => [(0, .ref (ad (40, 0, 0))), (1, .int v1), (2, .int v2), (3, .int v3)]) (fun ad => []) ρ := by
  intro ad h hSt V
  show X G M Q 0 [(0, .ref (ad (40, 0, 0))), (1, .int v1), (2, .int v2), (3, .int v3)] [] h
  refine x_aload_n hM d_Mo_isCondition_0 rfl 0 rfl ?_
  refine x_iload_n hM d_Mo_isCondition_1 rfl 1 rfl ?_
  refine x_callV hG hM (r' := r_Mo_isThing) (ci := 11) [.int v1] rfl rfl (Nat.le_of_ble_eq_true rfl) yk_Mo_isThing ⟨Nat.le_of_ble_eq_true rfl, Nat.le_of_ble_eq_true rfl⟩ w_1052 w_1054 ws_Mo_isThing rfl rfl (Nat.le_of_ble_eq_true rfl) d_Mo_isCondition_2 (by rw [vT V rfl]; rfl) (sem_mono (F _ _ V) ?_)
  intro u2 h F
  obtain ⟨ad27, ρ1, V, hs3, F⟩ := F
  obtain ⟨x4, rfl, F⟩ := F
  have hs3 := (St_eq hs3).symm
  subst hs3
  refine x_if_eq (tgt := 46) hM d_Mo_isCondition_5 (by decide) (fun q26 => ?_) (fun q26 => ?_)
  · replace F := F.1 q26
    refine x_iconst (v := 0) hM d_Mo_isCondition_46 (by decide) ?_
    exact x_zreturn hM d_Mo_isCondition_47 rfl (Or.inl rfl) (y_end V hSt (F _))
  · replace F := F.2 q26
    refine x_iload_n hM d_Mo_isCondition_8 rfl 2 rfl ?_
    refine x_iconst (v := 0) hM d_Mo_isCondition_9 (by decide) ?_
    refine x_iconst (v := 3) hM d_Mo_isCondition_10 (by decide) ?_
    refine x_callS hG hM (r' := r_Mo_isIn) [.int v2, .int 0, .int 3] rfl yk_Mo_isIn ⟨Nat.le_of_ble_eq_true rfl, Nat.le_of_ble_eq_true rfl⟩ w_1017 w_1018 rfl rfl (Nat.le_of_ble_eq_true rfl) d_Mo_isCondition_11 (sem_mono (F _ _ V) ?_)
    intro u6 h F
    obtain ⟨ad25, ρ5, V, hs7, F⟩ := F
    obtain ⟨x8, rfl, F⟩ := F
    have hs7 := (St_eq hs7).symm
    subst hs7
    refine x_if_eq (tgt := 46) hM d_Mo_isCondition_14 (by decide) (fun q24 => ?_) (fun q24 => ?_)
    · replace F := F.1 q24
      refine x_iconst (v := 0) hM d_Mo_isCondition_46 (by decide) ?_
      exact x_zreturn hM d_Mo_isCondition_47 rfl (Or.inl rfl) (y_end V hSt (F _))
    · replace F := F.2 q24
      refine x_iload_n hM d_Mo_isCondition_17 rfl 2 rfl ?_
      refine x_iconst (v := 2) hM d_Mo_isCondition_18 (by decide) ?_
      refine x_icmp_ne (tgt := 33) hM d_Mo_isCondition_19 (by decide) (fun q23 => ?_) (fun q23 => ?_)
      · replace F := F.2 q23
        refine x_iload_n hM d_Mo_isCondition_33 rfl 3 rfl ?_
        refine x_iconst (v := 0) hM d_Mo_isCondition_34 (by decide) ?_
        refine x_iconst (v := 3) hM d_Mo_isCondition_35 (by decide) ?_
        refine x_callS hG hM (r' := r_Mo_isIn) [.int v3, .int 0, .int 3] rfl yk_Mo_isIn ⟨Nat.le_of_ble_eq_true rfl, Nat.le_of_ble_eq_true rfl⟩ w_1017 w_1018 rfl rfl (Nat.le_of_ble_eq_true rfl) d_Mo_isCondition_36 (sem_mono (F _ _ V) ?_)
        intro u10 h F
        obtain ⟨ad15, ρ9, V, hs11, F⟩ := F
        obtain ⟨x12, rfl, F⟩ := F
        have hs11 := (St_eq hs11).symm
        subst hs11
        have JJ : ∀ (z13 : Int32) (ez13 : z13 = (if x12 = 0 then 0 else 1)), X G M Q 47 [] [.int z13] h := by
          intro z13 ez13
          replace F := F _ ez13
          exact x_zreturn hM d_Mo_isCondition_47 rfl F.1 (y_end V hSt (F.2 _))
        refine x_if_eq (tgt := 46) hM d_Mo_isCondition_39 (by decide) (fun q14 => ?_) (fun q14 => ?_)
        · refine x_iconst (v := 0) hM d_Mo_isCondition_46 (by decide) ?_
          refine x_sub [] rfl ?_
          exact JJ _ (Eq.symm (if_pos q14))
        · refine x_iconst (v := 1) hM d_Mo_isCondition_42 (by decide) ?_
          refine x_goto (tgt := 47) hM d_Mo_isCondition_43 (by decide) ?_
          refine x_sub [] rfl ?_
          exact JJ _ (Eq.symm (if_neg q14))
      · replace F := F.1 q23
        refine x_aload_n hM d_Mo_isCondition_22 rfl 0 rfl ?_
        refine x_iload_n hM d_Mo_isCondition_23 rfl 3 rfl ?_
        refine x_callV hG hM (r' := r_Mo_isThing) (ci := 11) [.int v3] rfl rfl (Nat.le_of_ble_eq_true rfl) yk_Mo_isThing ⟨Nat.le_of_ble_eq_true rfl, Nat.le_of_ble_eq_true rfl⟩ w_1052 w_1054 ws_Mo_isThing rfl rfl (Nat.le_of_ble_eq_true rfl) d_Mo_isCondition_24 (by rw [vT V rfl]; rfl) (sem_mono (F _ _ V) ?_)
        intro u17 h F
        obtain ⟨ad22, ρ16, V, hs18, F⟩ := F
        obtain ⟨x19, rfl, F⟩ := F
        have hs18 := (St_eq hs18).symm
        subst hs18
        have JJ : ∀ (z20 : Int32) (ez20 : z20 = (if x19 = 0 then 0 else 1)), X G M Q 47 [] [.int z20] h := by
          intro z20 ez20
          replace F := F _ ez20
          exact x_zreturn hM d_Mo_isCondition_47 rfl F.1 (y_end V hSt (F.2 _))
        refine x_if_eq (tgt := 46) hM d_Mo_isCondition_27 (by decide) (fun q21 => ?_) (fun q21 => ?_)
        · refine x_iconst (v := 0) hM d_Mo_isCondition_46 (by decide) ?_
          refine x_sub [] rfl ?_
          exact JJ _ (Eq.symm (if_pos q21))
        · refine x_goto (tgt := 42) hM d_Mo_isCondition_30 (by decide) ?_
          refine x_iconst (v := 1) hM d_Mo_isCondition_42 (by decide) ?_
          refine x_goto (tgt := 47) hM d_Mo_isCondition_43 (by decide) ?_
          refine x_sub [] rfl ?_
          exact JJ _ (Eq.symm (if_neg q21))
set_option maxRecDepth 100000 in
set_option maxHeartbeats 4000000 in
theorem T_Mo_isThing_0 {G : Gc} {M : Mc} {Q : State → Prop} {ad0 : Ro → Nat} {K : (Ro → Nat) → Option Value → Rs → Prop} (hG : gok G) (hM : mok G M r_Mo_isThing Q (KV G [] ad0 K)) (v1 : Int32) (ρ : Rs) (F : semV G r_Mo_isIn [] (fun ad => [.int v1, .int 0, .int ((iR ρ (40, 0, 0) 0) - 1)]) ρ (fun ad u2 ρ1 => ∃ x4 : Int32, u2 = some (.int x4) ∧ (nb x4 ∧ (∀ ad, K ad (some (.int x4)) ρ1)))) : Y G [] ad0 M Q 0 (fun ad => [(0, .ref (ad (40, 0, 0))), (1, .int v1)]) (fun ad => []) ρ := by
  intro ad h hSt V
  show X G M Q 0 [(0, .ref (ad (40, 0, 0))), (1, .int v1)] [] h
  refine x_iload_n hM d_Mo_isThing_0 rfl 1 rfl ?_
  refine x_iconst (v := 0) hM d_Mo_isThing_1 (by decide) ?_
  refine x_aload_n hM d_Mo_isThing_2 rfl 0 rfl ?_
  refine y_geti hG hM V ck_Mo 0 (Nat.le_of_ble_eq_true rfl) rfl rfl w_897 rfl d_Mo_isThing_3 (40, 0, 0) rfl rfl ?_
  refine x_iconst (v := 1) hM d_Mo_isThing_6 (by decide) ?_
  refine x_isub hM d_Mo_isThing_7 ?_
  refine x_callS hG hM (r' := r_Mo_isIn) [.int v1, .int 0, .int ((iR ρ (40, 0, 0) 0) - 1)] rfl yk_Mo_isIn ⟨Nat.le_of_ble_eq_true rfl, Nat.le_of_ble_eq_true rfl⟩ w_1017 w_1018 rfl rfl (Nat.le_of_ble_eq_true rfl) d_Mo_isThing_8 (sem_mono (F _ _ V) ?_)
  intro u2 h F
  obtain ⟨ad5, ρ1, V, hs3, F⟩ := F
  obtain ⟨x4, rfl, F⟩ := F
  have hs3 := (St_eq hs3).symm
  subst hs3
  exact x_zreturn hM d_Mo_isThing_11 rfl F.1 (y_end V hSt (F.2 _))
set_option maxRecDepth 100000 in
set_option maxHeartbeats 4000000 in
theorem T_Mo_more_0 {G : Gc} {M : Mc} {Q : State → Prop} {ad0 : Ro → Nat} {K : (Ro → Nat) → Option Value → Rs → Prop} (hG : gok G) (hM : mok G M r_Mo_more Q (KV G [] ad0 K)) (v1 : Int32) (v2 : Int32) (v3 : Int32) (v4 : Int32) (ρ : Rs) (F : vp_in v1 19 ∧ (((iR ρ (41, 5, 0) (Int32.toNatClampNeg v1)) = 4 → (∀ ad, K ad (some (.int (-3))) ρ)) ∧ (¬ (iR ρ (41, 5, 0) (Int32.toNatClampNeg v1)) = 4 → (vp_in v1 19 ∧ (vp_in ((12 * v1) + (3 * (iR ρ (41, 5, 0) (Int32.toNatClampNeg v1)))) 228 ∧ (∀ ρ3 : Rs, ρ3 = pI ρ (41, 6, 0) (Int32.toNatClampNeg ((12 * v1) + (3 * (iR ρ (41, 5, 0) (Int32.toNatClampNeg v1))))) v2 → (vp_in (((12 * v1) + (3 * (iR ρ (41, 5, 0) (Int32.toNatClampNeg v1)))) + 1) 228 ∧ (∀ ρ4 : Rs, ρ4 = pI ρ3 (41, 6, 0) (Int32.toNatClampNeg (((12 * v1) + (3 * (iR ρ (41, 5, 0) (Int32.toNatClampNeg v1)))) + 1)) v3 → (vp_in (((12 * v1) + (3 * (iR ρ (41, 5, 0) (Int32.toNatClampNeg v1)))) + 2) 228 ∧ (∀ ρ5 : Rs, ρ5 = pI ρ4 (41, 6, 0) (Int32.toNatClampNeg (((12 * v1) + (3 * (iR ρ (41, 5, 0) (Int32.toNatClampNeg v1)))) + 2)) v4 → (vp_in v1 19 ∧ (vp_in v1 19 ∧ (∀ ρ7 : Rs, ρ7 = pI ρ5 (41, 5, 0) (Int32.toNatClampNeg v1) ((iR ρ5 (41, 5, 0) (Int32.toNatClampNeg v1)) + 1) → (semV G r_Mo_forget [] (fun ad => [.ref (ad (40, 0, 0))]) ρ7 (fun ad u9 ρ8 => u9 = none ∧ (vp_in v1 19 ∧ (∀ ad, K ad (some (.int (iR ρ8 (41, 5, 0) (Int32.toNatClampNeg v1)))) ρ8))))))))))))))))) : Y G [] ad0 M Q 0 (fun ad => [(0, .ref (ad (40, 0, 0))), (1, .int v1), (2, .int v2), (3, .int v3), (4, .int v4)]) (fun ad => []) ρ := by
  intro ad h hSt V
  show X G M Q 0 [(0, .ref (ad (40, 0, 0))), (1, .int v1), (2, .int v2), (3, .int v3), (4, .int v4)] [] h
  refine x_aload_n hM d_Mo_more_0 rfl 0 rfl ?_
  refine y_getr hG hM V ck_Mo 5 (Nat.le_of_ble_eq_true rfl) rfl rfl w_902 rfl d_Mo_more_1 (40, 0, 0) (41, 5, 0) rfl rfl rfl ?_
  refine x_iload_n hM d_Mo_more_4 rfl 1 rfl ?_
  obtain ⟨c1, F⟩ := F
  refine y_iaload hG hM V d_Mo_more_5 (41, 5, 0) rfl rfl (by rw [vlen V (r := (41, 5, 0)) rfl rfl]; exact c1) ?_
  refine x_iconst (v := 4) hM d_Mo_more_6 (by decide) ?_
  refine x_icmp_ne (tgt := 13) hM d_Mo_more_7 (by decide) (fun q17 => ?_) (fun q17 => ?_)
  · replace F := F.2 q17
    refine x_bipush (v := 12) hM d_Mo_more_13 (by decide) ?_
    refine x_iload_n hM d_Mo_more_15 rfl 1 rfl ?_
    refine x_imul hM d_Mo_more_16 ?_
    refine x_iconst (v := 3) hM d_Mo_more_17 (by decide) ?_
    refine x_aload_n hM d_Mo_more_18 rfl 0 rfl ?_
    refine y_getr hG hM V ck_Mo 5 (Nat.le_of_ble_eq_true rfl) rfl rfl w_902 rfl d_Mo_more_19 (40, 0, 0) (41, 5, 0) rfl rfl rfl ?_
    refine x_iload_n hM d_Mo_more_22 rfl 1 rfl ?_
    obtain ⟨c2, F⟩ := F
    refine y_iaload hG hM V d_Mo_more_23 (41, 5, 0) rfl rfl (by rw [vlen V (r := (41, 5, 0)) rfl rfl]; exact c2) ?_
    refine x_imul hM d_Mo_more_24 ?_
    refine x_iadd hM d_Mo_more_25 ?_
    refine x_istore (lv2 := [(5, .int ((12 * v1) + (3 * (iR ρ (41, 5, 0) (Int32.toNatClampNeg v1))))), (0, .ref (ad (40, 0, 0))), (1, .int v1), (2, .int v2), (3, .int v3), (4, .int v4)]) hM d_Mo_more_26 (Nat.le_of_ble_eq_true rfl) rfl ?_
    refine x_aload_n hM d_Mo_more_28 rfl 1 rfl ?_
    refine y_getr hG hM V ck_Mo 6 (Nat.le_of_ble_eq_true rfl) rfl rfl w_903 rfl d_Mo_more_29 (40, 0, 0) (41, 6, 0) rfl rfl rfl ?_
    refine x_iload hM d_Mo_more_32 0 rfl ?_
    refine x_iload_n hM d_Mo_more_34 rfl 3 rfl ?_
    obtain ⟨c16, F⟩ := F
    obtain ⟨ρ3, eρ3⟩ : ∃ z : Rs, z = pI ρ (41, 6, 0) (Int32.toNatClampNeg ((12 * v1) + (3 * (iR ρ (41, 5, 0) (Int32.toNatClampNeg v1))))) v2 := ⟨_, rfl⟩
    replace F := F ρ3 eρ3
    refine y_iastore hG hM V d_Mo_more_35 (41, 6, 0) rfl rfl (by rw [vlen V (r := (41, 6, 0)) rfl rfl]; exact c16) (fun h V => ?_)
    rw [← eρ3] at V
    clear eρ3
    refine x_aload_n hM d_Mo_more_36 rfl 1 rfl ?_
    refine y_getr hG hM V ck_Mo 6 (Nat.le_of_ble_eq_true rfl) rfl rfl w_903 rfl d_Mo_more_37 (40, 0, 0) (41, 6, 0) rfl rfl rfl ?_
    refine x_iload hM d_Mo_more_40 0 rfl ?_
    refine x_iconst (v := 1) hM d_Mo_more_42 (by decide) ?_
    refine x_iadd hM d_Mo_more_43 ?_
    refine x_iload_n hM d_Mo_more_44 rfl 4 rfl ?_
    obtain ⟨c15, F⟩ := F
    obtain ⟨ρ4, eρ4⟩ : ∃ z : Rs, z = pI ρ3 (41, 6, 0) (Int32.toNatClampNeg (((12 * v1) + (3 * (iR ρ (41, 5, 0) (Int32.toNatClampNeg v1)))) + 1)) v3 := ⟨_, rfl⟩
    replace F := F ρ4 eρ4
    refine y_iastore hG hM V d_Mo_more_45 (41, 6, 0) rfl rfl (by rw [vlen V (r := (41, 6, 0)) rfl rfl]; exact c15) (fun h V => ?_)
    rw [← eρ4] at V
    clear eρ4
    refine x_aload_n hM d_Mo_more_46 rfl 1 rfl ?_
    refine y_getr hG hM V ck_Mo 6 (Nat.le_of_ble_eq_true rfl) rfl rfl w_903 rfl d_Mo_more_47 (40, 0, 0) (41, 6, 0) rfl rfl rfl ?_
    refine x_iload hM d_Mo_more_50 0 rfl ?_
    refine x_iconst (v := 2) hM d_Mo_more_52 (by decide) ?_
    refine x_iadd hM d_Mo_more_53 ?_
    refine x_iload hM d_Mo_more_54 5 rfl ?_
    obtain ⟨c14, F⟩ := F
    obtain ⟨ρ5, eρ5⟩ : ∃ z : Rs, z = pI ρ4 (41, 6, 0) (Int32.toNatClampNeg (((12 * v1) + (3 * (iR ρ (41, 5, 0) (Int32.toNatClampNeg v1)))) + 2)) v4 := ⟨_, rfl⟩
    replace F := F ρ5 eρ5
    refine y_iastore hG hM V d_Mo_more_56 (41, 6, 0) rfl rfl (by rw [vlen V (r := (41, 6, 0)) rfl rfl]; exact c14) (fun h V => ?_)
    rw [← eρ5] at V
    clear eρ5
    refine x_aload_n hM d_Mo_more_57 rfl 1 rfl ?_
    refine y_getr hG hM V ck_Mo 5 (Nat.le_of_ble_eq_true rfl) rfl rfl w_902 rfl d_Mo_more_58 (40, 0, 0) (41, 5, 0) rfl rfl rfl ?_
    refine x_iload_n hM d_Mo_more_61 rfl 2 rfl ?_
    refine x_dup2 hM d_Mo_more_62 rfl rfl ?_
    obtain ⟨c6, F⟩ := F
    refine y_iaload hG hM V d_Mo_more_63 (41, 5, 0) rfl rfl (by rw [vlen V (r := (41, 5, 0)) rfl rfl]; exact c6) ?_
    refine x_iconst (v := 1) hM d_Mo_more_64 (by decide) ?_
    refine x_iadd hM d_Mo_more_65 ?_
    obtain ⟨c13, F⟩ := F
    obtain ⟨ρ7, eρ7⟩ : ∃ z : Rs, z = pI ρ5 (41, 5, 0) (Int32.toNatClampNeg v1) ((iR ρ5 (41, 5, 0) (Int32.toNatClampNeg v1)) + 1) := ⟨_, rfl⟩
    replace F := F ρ7 eρ7
    refine y_iastore hG hM V d_Mo_more_66 (41, 5, 0) rfl rfl (by rw [vlen V (r := (41, 5, 0)) rfl rfl]; exact c13) (fun h V => ?_)
    rw [← eρ7] at V
    clear eρ7
    refine x_aload_n hM d_Mo_more_67 rfl 1 rfl ?_
    refine x_callV hG hM (r' := r_Mo_forget) (ci := 11) [] rfl rfl (Nat.le_of_ble_eq_true rfl) yk_Mo_forget ⟨Nat.le_of_ble_eq_true rfl, Nat.le_of_ble_eq_true rfl⟩ w_893 w_895 ws_Mo_forget rfl rfl (Nat.le_of_ble_eq_true rfl) d_Mo_more_68 (by rw [vT V rfl]; rfl) (sem_mono (F _ _ V) ?_)
    intro u9 h F
    obtain ⟨ad12, ρ8, V, hs10, F⟩ := F
    obtain ⟨rfl, F⟩ := F
    have hs10 := (St_eq hs10).symm
    subst hs10
    refine x_aload_n hM d_Mo_more_71 rfl 1 rfl ?_
    refine y_getr hG hM V ck_Mo 5 (Nat.le_of_ble_eq_true rfl) rfl rfl w_902 rfl d_Mo_more_72 (40, 0, 0) (41, 5, 0) rfl rfl rfl ?_
    refine x_iload_n hM d_Mo_more_75 rfl 2 rfl ?_
    obtain ⟨c11, F⟩ := F
    refine y_iaload hG hM V d_Mo_more_76 (41, 5, 0) rfl rfl (by rw [vlen V (r := (41, 5, 0)) rfl rfl]; exact c11) ?_
    exact x_ireturn hM d_Mo_more_77 rfl (y_end V hSt (F _))
  · replace F := F.1 q17
    refine x_bipush (v := (-3)) hM d_Mo_more_10 (by decide) ?_
    exact x_ireturn hM d_Mo_more_12 rfl (y_end V hSt (F _))
set_option maxRecDepth 100000 in
set_option maxHeartbeats 4000000 in
theorem T_Mo_aim_0 {G : Gc} {M : Mc} {Q : State → Prop} {ad0 : Ro → Nat} {K : (Ro → Nat) → Option Value → Rs → Prop} (hG : gok G) (hM : mok G M r_Mo_aim Q (KV G [] ad0 K)) (v1 : Int32) (v2 : Int32) (v3 : Int32) (ρ : Rs) (F : semV G r_Mo_isCondition [] (fun ad => [.ref (ad (40, 0, 0)), .int v1, .int v2, .int v3]) ρ (fun ad u2 ρ1 => ∃ x4 : Int32, u2 = some (.int x4) ∧ ((x4 = 0 → (∀ ad, K ad (some (.int (-2))) ρ1)) ∧ (¬ x4 = 0 → (semV G r_Mo_more [] (fun ad => [.ref (ad (40, 0, 0)), .int 12, .int v1, .int v2, .int v3]) ρ1 (fun ad u6 ρ5 => ∃ x8 : Int32, u6 = some (.int x8) ∧ (∀ ad, K ad (some (.int x8)) ρ5))))))) : Y G [] ad0 M Q 0 (fun ad => [(0, .ref (ad (40, 0, 0))), (1, .int v1), (2, .int v2), (3, .int v3)]) (fun ad => []) ρ := by
  intro ad h hSt V
  show X G M Q 0 [(0, .ref (ad (40, 0, 0))), (1, .int v1), (2, .int v2), (3, .int v3)] [] h
  refine x_aload_n hM d_Mo_aim_0 rfl 0 rfl ?_
  refine x_iload_n hM d_Mo_aim_1 rfl 1 rfl ?_
  refine x_iload_n hM d_Mo_aim_2 rfl 2 rfl ?_
  refine x_iload_n hM d_Mo_aim_3 rfl 3 rfl ?_
  refine x_callV hG hM (r' := r_Mo_isCondition) (ci := 11) [.int v1, .int v2, .int v3] rfl rfl (Nat.le_of_ble_eq_true rfl) yk_Mo_isCondition ⟨Nat.le_of_ble_eq_true rfl, Nat.le_of_ble_eq_true rfl⟩ w_1048 w_1050 ws_Mo_isCondition rfl rfl (Nat.le_of_ble_eq_true rfl) d_Mo_aim_4 (by rw [vT V rfl]; rfl) (sem_mono (F _ _ V) ?_)
  intro u2 h F
  obtain ⟨ad11, ρ1, V, hs3, F⟩ := F
  obtain ⟨x4, rfl, F⟩ := F
  have hs3 := (St_eq hs3).symm
  subst hs3
  refine x_if_eq (tgt := 22) hM d_Mo_aim_7 (by decide) (fun q10 => ?_) (fun q10 => ?_)
  · replace F := F.1 q10
    refine x_bipush (v := (-2)) hM d_Mo_aim_22 (by decide) ?_
    exact x_ireturn hM d_Mo_aim_24 rfl (y_end V hSt (F _))
  · replace F := F.2 q10
    refine x_aload_n hM d_Mo_aim_10 rfl 0 rfl ?_
    refine x_bipush (v := 12) hM d_Mo_aim_11 (by decide) ?_
    refine x_iload_n hM d_Mo_aim_13 rfl 1 rfl ?_
    refine x_iload_n hM d_Mo_aim_14 rfl 2 rfl ?_
    refine x_iload_n hM d_Mo_aim_15 rfl 3 rfl ?_
    refine x_callV hG hM (r' := r_Mo_more) (ci := 11) [.int 12, .int v1, .int v2, .int v3] rfl rfl (Nat.le_of_ble_eq_true rfl) yk_Mo_more ⟨Nat.le_of_ble_eq_true rfl, Nat.le_of_ble_eq_true rfl⟩ w_1056 w_1058 ws_Mo_more rfl rfl (Nat.le_of_ble_eq_true rfl) d_Mo_aim_16 (by rw [vT V rfl]; rfl) (sem_mono (F _ _ V) ?_)
    intro u6 h F
    obtain ⟨ad9, ρ5, V, hs7, F⟩ := F
    obtain ⟨x8, rfl, F⟩ := F
    have hs7 := (St_eq hs7).symm
    subst hs7
    refine x_goto (tgt := 24) hM d_Mo_aim_19 (by decide) ?_
    exact x_ireturn hM d_Mo_aim_24 rfl (y_end V hSt (F _))
set_option maxRecDepth 100000 in
set_option maxHeartbeats 4000000 in
theorem T_Mo_aimless_0 {G : Gc} {M : Mc} {Q : State → Prop} {ad0 : Ro → Nat} {K : (Ro → Nat) → Option Value → Rs → Prop} (hG : gok G) (hM : mok G M r_Mo_aimless Q (KV G [] ad0 K))  (ρ : Rs) (F : vp_in 12 19 ∧ (vp_in 12 19 ∧ (∀ ρ2 : Rs, ρ2 = pI ρ (41, 5, 0) (Int32.toNatClampNeg 12) 0 → (semV G r_Mo_forget [] (fun ad => [.ref (ad (40, 0, 0))]) ρ2 (fun ad u4 ρ3 => u4 = none ∧ (∀ ad, K ad (some (.int (iR ρ (41, 5, 0) (Int32.toNatClampNeg 12)))) ρ3)))))) : Y G [] ad0 M Q 0 (fun ad => [(0, .ref (ad (40, 0, 0)))]) (fun ad => []) ρ := by
  intro ad h hSt V
  show X G M Q 0 [(0, .ref (ad (40, 0, 0)))] [] h
  refine x_aload_n hM d_Mo_aimless_0 rfl 0 rfl ?_
  refine y_getr hG hM V ck_Mo 5 (Nat.le_of_ble_eq_true rfl) rfl rfl w_902 rfl d_Mo_aimless_1 (40, 0, 0) (41, 5, 0) rfl rfl rfl ?_
  refine x_bipush (v := 12) hM d_Mo_aimless_4 (by decide) ?_
  obtain ⟨c1, F⟩ := F
  refine y_iaload hG hM V d_Mo_aimless_6 (41, 5, 0) rfl rfl (by rw [vlen V (r := (41, 5, 0)) rfl rfl]; exact c1) ?_
  refine x_istore_n (lv2 := [(1, .int (iR ρ (41, 5, 0) (Int32.toNatClampNeg 12))), (0, .ref (ad (40, 0, 0)))]) hM d_Mo_aimless_7 rfl (Nat.le_of_ble_eq_true rfl) rfl ?_
  refine x_aload_n hM d_Mo_aimless_8 rfl 1 rfl ?_
  refine y_getr hG hM V ck_Mo 5 (Nat.le_of_ble_eq_true rfl) rfl rfl w_902 rfl d_Mo_aimless_9 (40, 0, 0) (41, 5, 0) rfl rfl rfl ?_
  refine x_bipush (v := 12) hM d_Mo_aimless_12 (by decide) ?_
  refine x_iconst (v := 0) hM d_Mo_aimless_14 (by decide) ?_
  obtain ⟨c7, F⟩ := F
  obtain ⟨ρ2, eρ2⟩ : ∃ z : Rs, z = pI ρ (41, 5, 0) (Int32.toNatClampNeg 12) 0 := ⟨_, rfl⟩
  replace F := F ρ2 eρ2
  refine y_iastore hG hM V d_Mo_aimless_15 (41, 5, 0) rfl rfl (by rw [vlen V (r := (41, 5, 0)) rfl rfl]; exact c7) (fun h V => ?_)
  rw [← eρ2] at V
  clear eρ2
  refine x_aload_n hM d_Mo_aimless_16 rfl 1 rfl ?_
  refine x_callV hG hM (r' := r_Mo_forget) (ci := 11) [] rfl rfl (Nat.le_of_ble_eq_true rfl) yk_Mo_forget ⟨Nat.le_of_ble_eq_true rfl, Nat.le_of_ble_eq_true rfl⟩ w_893 w_895 ws_Mo_forget rfl rfl (Nat.le_of_ble_eq_true rfl) d_Mo_aimless_17 (by rw [vT V rfl]; rfl) (sem_mono (F _ _ V) ?_)
  intro u4 h F
  obtain ⟨ad6, ρ3, V, hs5, F⟩ := F
  obtain ⟨rfl, F⟩ := F
  have hs5 := (St_eq hs5).symm
  subst hs5
  refine x_iload_n hM d_Mo_aimless_20 rfl 0 rfl ?_
  exact x_ireturn hM d_Mo_aimless_21 rfl (y_end V hSt (F _))
