set_option maxRecDepth 100000 in
set_option maxHeartbeats 4000000 in
theorem T_Wo_forget_0 {G : Gc} {M : Mc} {Q : State → Prop} {ad0 : Ro → Nat} {K : (Ro → Nat) → Option Value → Rs → Prop} (hG : gok G) (hM : mok G M r_Wo_forget Q (KV G [] ad0 K))  (ρ : Rs) (F : ∀ ρ1 : Rs, ρ1 = pI ρ (1, 0, 0) 0 0 → (∀ ρ2 : Rs, ρ2 = pI ρ1 (1, 0, 0) 1 1 → (∀ ρ3 : Rs, ρ3 = pI ρ2 (1, 0, 0) 2 0 → (∀ ρ4 : Rs, ρ4 = pI ρ3 (1, 0, 0) 8 0 → (∀ ρ5 : Rs, ρ5 = pI ρ4 (1, 0, 0) 9 0 → (∀ ad, K ad none ρ5)))))) : Y G [] ad0 M Q 0 (fun ad => [(0, .ref (ad (1, 0, 0)))]) (fun ad => []) ρ := by
  intro ad h hSt V
  show X G M Q 0 [(0, .ref (ad (1, 0, 0)))] [] h
  refine x_aload_n hM d_Wo_forget_0 rfl 0 rfl ?_
  refine x_iconst (v := 0) hM d_Wo_forget_1 (by decide) ?_
  obtain ⟨ρ1, eρ1⟩ : ∃ z : Rs, z = pI ρ (1, 0, 0) 0 0 := ⟨_, rfl⟩
  replace F := F ρ1 eρ1
  refine y_puti hG hM V ck_Wo 0 (Nat.le_of_ble_eq_true rfl) rfl rfl w_123 rfl d_Wo_forget_2 rfl (1, 0, 0) rfl rfl (fun h V => ?_)
  rw [← eρ1] at V
  clear eρ1
  refine x_aload_n hM d_Wo_forget_5 rfl 0 rfl ?_
  refine x_iconst (v := 1) hM d_Wo_forget_6 (by decide) ?_
  obtain ⟨ρ2, eρ2⟩ : ∃ z : Rs, z = pI ρ1 (1, 0, 0) 1 1 := ⟨_, rfl⟩
  replace F := F ρ2 eρ2
  refine y_puti hG hM V ck_Wo 1 (Nat.le_of_ble_eq_true rfl) rfl rfl w_125 rfl d_Wo_forget_7 rfl (1, 0, 0) rfl rfl (fun h V => ?_)
  rw [← eρ2] at V
  clear eρ2
  refine x_aload_n hM d_Wo_forget_10 rfl 0 rfl ?_
  refine x_iconst (v := 0) hM d_Wo_forget_11 (by decide) ?_
  obtain ⟨ρ3, eρ3⟩ : ∃ z : Rs, z = pI ρ2 (1, 0, 0) 2 0 := ⟨_, rfl⟩
  replace F := F ρ3 eρ3
  refine y_puti hG hM V ck_Wo 2 (Nat.le_of_ble_eq_true rfl) rfl rfl w_133 rfl d_Wo_forget_12 rfl (1, 0, 0) rfl rfl (fun h V => ?_)
  rw [← eρ3] at V
  clear eρ3
  refine x_aload_n hM d_Wo_forget_15 rfl 0 rfl ?_
  refine x_iconst (v := 0) hM d_Wo_forget_16 (by decide) ?_
  obtain ⟨ρ4, eρ4⟩ : ∃ z : Rs, z = pI ρ3 (1, 0, 0) 8 0 := ⟨_, rfl⟩
  replace F := F ρ4 eρ4
  refine y_putz hG hM V ck_Wo 8 (Nat.le_of_ble_eq_true rfl) rfl rfl w_159 rfl d_Wo_forget_17 rfl (1, 0, 0) rfl rfl (Or.inl rfl) (fun h V => ?_)
  rw [← eρ4] at V
  clear eρ4
  refine x_aload_n hM d_Wo_forget_20 rfl 0 rfl ?_
  refine x_iconst (v := 0) hM d_Wo_forget_21 (by decide) ?_
  obtain ⟨ρ5, eρ5⟩ : ∃ z : Rs, z = pI ρ4 (1, 0, 0) 9 0 := ⟨_, rfl⟩
  replace F := F ρ5 eρ5
  refine y_putz hG hM V ck_Wo 9 (Nat.le_of_ble_eq_true rfl) rfl rfl w_160 rfl d_Wo_forget_22 rfl (1, 0, 0) rfl rfl (Or.inl rfl) (fun h V => ?_)
  rw [← eρ5] at V
  clear eρ5
  exact x_return hM d_Wo_forget_25 rfl (y_end V hSt (F _))
set_option maxRecDepth 100000 in
set_option maxHeartbeats 4000000 in
theorem T_Wo_addThing_0 {G : Gc} {M : Mc} {Q : State → Prop} {ad0 : Ro → Nat} {K : (Ro → Nat) → Option Value → Rs → Prop} (hG : gok G) (hM : mok G M r_Wo_addThing Q (KV G [] ad0 K)) (v1 : Int32) (ρ : Rs) (F : (8 ≤ (iR ρ (1, 0, 0) 0) → (∀ ad, K ad (some (.int (-3))) ρ)) ∧ (¬ 8 ≤ (iR ρ (1, 0, 0) 0) → ((((iR ρ (1, 0, 0) 1) * v1) ≤ 4096 → (vp_in (iR ρ (1, 0, 0) 0) 8 ∧ (∀ ρ1 : Rs, ρ1 = pI ρ (30, 3, 0) (Int32.toNatClampNeg (iR ρ (1, 0, 0) 0)) v1 → (vp_in (iR ρ1 (1, 0, 0) 0) 8 ∧ (∀ ρ2 : Rs, ρ2 = pI ρ1 (30, 4, 0) (Int32.toNatClampNeg (iR ρ1 (1, 0, 0) 0)) (iR ρ1 (1, 0, 0) 1) → (∀ ρ3 : Rs, ρ3 = pI ρ2 (1, 0, 0) 1 ((iR ρ2 (1, 0, 0) 1) * v1) → (∀ ρ4 : Rs, ρ4 = pI ρ3 (1, 0, 0) 0 ((iR ρ3 (1, 0, 0) 0) + 1) → (∀ ρ5 : Rs, ρ5 = pI ρ4 (1, 0, 0) 8 0 → (∀ ρ6 : Rs, ρ6 = pI ρ5 (1, 0, 0) 9 0 → (∀ ad, K ad (some (.int ((iR ρ6 (1, 0, 0) 0) - 1))) ρ6)))))))))) ∧ (¬ ((iR ρ (1, 0, 0) 1) * v1) ≤ 4096 → (∀ ad, K ad (some (.int (-3))) ρ))))) : Y G [] ad0 M Q 0 (fun ad => [(0, .ref (ad (1, 0, 0))), (1, .int v1)]) (fun ad => []) ρ := by
  intro ad h hSt V
  show X G M Q 0 [(0, .ref (ad (1, 0, 0))), (1, .int v1)] [] h
  refine x_aload_n hM d_Wo_addThing_0 rfl 0 rfl ?_
  refine y_geti hG hM V ck_Wo 0 (Nat.le_of_ble_eq_true rfl) rfl rfl w_123 rfl d_Wo_addThing_1 (1, 0, 0) rfl rfl ?_
  refine x_bipush (v := 8) hM d_Wo_addThing_4 (by decide) ?_
  refine x_icmp_ge (tgt := 21) hM d_Wo_addThing_6 (by decide) (fun q10 => ?_) (fun q10 => ?_)
  · replace F := F.1 q10
    refine x_bipush (v := (-3)) hM d_Wo_addThing_21 (by decide) ?_
    exact x_ireturn hM d_Wo_addThing_23 rfl (y_end V hSt (F _))
  · replace F := F.2 q10
    refine x_aload_n hM d_Wo_addThing_9 rfl 0 rfl ?_
    refine y_geti hG hM V ck_Wo 1 (Nat.le_of_ble_eq_true rfl) rfl rfl w_125 rfl d_Wo_addThing_10 (1, 0, 0) rfl rfl ?_
    refine x_iload_n hM d_Wo_addThing_13 rfl 1 rfl ?_
    refine x_imul hM d_Wo_addThing_14 ?_
    refine x_sipush (v := 4096) hM d_Wo_addThing_15 (by decide) ?_
    refine x_icmp_le (tgt := 24) hM d_Wo_addThing_18 (by decide) (fun q9 => ?_) (fun q9 => ?_)
    · replace F := F.1 q9
      refine x_aload_n hM d_Wo_addThing_24 rfl 0 rfl ?_
      refine y_getr hG hM V ck_Wo 3 (Nat.le_of_ble_eq_true rfl) rfl rfl w_140 rfl d_Wo_addThing_25 (1, 0, 0) (30, 3, 0) rfl rfl rfl ?_
      refine x_aload_n hM d_Wo_addThing_28 rfl 0 rfl ?_
      refine y_geti hG hM V ck_Wo 0 (Nat.le_of_ble_eq_true rfl) rfl rfl w_123 rfl d_Wo_addThing_29 (1, 0, 0) rfl rfl ?_
      refine x_iload_n hM d_Wo_addThing_32 rfl 1 rfl ?_
      obtain ⟨c8, F⟩ := F
      obtain ⟨ρ1, eρ1⟩ : ∃ z : Rs, z = pI ρ (30, 3, 0) (Int32.toNatClampNeg (iR ρ (1, 0, 0) 0)) v1 := ⟨_, rfl⟩
      replace F := F ρ1 eρ1
      refine y_iastore hG hM V d_Wo_addThing_33 (30, 3, 0) rfl rfl (by rw [vlen V (r := (30, 3, 0)) rfl rfl]; exact c8) (fun h V => ?_)
      rw [← eρ1] at V
      clear eρ1
      refine x_aload_n hM d_Wo_addThing_34 rfl 0 rfl ?_
      refine y_getr hG hM V ck_Wo 4 (Nat.le_of_ble_eq_true rfl) rfl rfl w_142 rfl d_Wo_addThing_35 (1, 0, 0) (30, 4, 0) rfl rfl rfl ?_
      refine x_aload_n hM d_Wo_addThing_38 rfl 0 rfl ?_
      refine y_geti hG hM V ck_Wo 0 (Nat.le_of_ble_eq_true rfl) rfl rfl w_123 rfl d_Wo_addThing_39 (1, 0, 0) rfl rfl ?_
      refine x_aload_n hM d_Wo_addThing_42 rfl 0 rfl ?_
      refine y_geti hG hM V ck_Wo 1 (Nat.le_of_ble_eq_true rfl) rfl rfl w_125 rfl d_Wo_addThing_43 (1, 0, 0) rfl rfl ?_
      obtain ⟨c7, F⟩ := F
      obtain ⟨ρ2, eρ2⟩ : ∃ z : Rs, z = pI ρ1 (30, 4, 0) (Int32.toNatClampNeg (iR ρ1 (1, 0, 0) 0)) (iR ρ1 (1, 0, 0) 1) := ⟨_, rfl⟩
      replace F := F ρ2 eρ2
      refine y_iastore hG hM V d_Wo_addThing_46 (30, 4, 0) rfl rfl (by rw [vlen V (r := (30, 4, 0)) rfl rfl]; exact c7) (fun h V => ?_)
      rw [← eρ2] at V
      clear eρ2
      refine x_aload_n hM d_Wo_addThing_47 rfl 0 rfl ?_
      refine x_dup hM d_Wo_addThing_48 rfl ?_
      refine y_geti hG hM V ck_Wo 1 (Nat.le_of_ble_eq_true rfl) rfl rfl w_125 rfl d_Wo_addThing_49 (1, 0, 0) rfl rfl ?_
      refine x_iload_n hM d_Wo_addThing_52 rfl 1 rfl ?_
      refine x_imul hM d_Wo_addThing_53 ?_
      obtain ⟨ρ3, eρ3⟩ : ∃ z : Rs, z = pI ρ2 (1, 0, 0) 1 ((iR ρ2 (1, 0, 0) 1) * v1) := ⟨_, rfl⟩
      replace F := F ρ3 eρ3
      refine y_puti hG hM V ck_Wo 1 (Nat.le_of_ble_eq_true rfl) rfl rfl w_125 rfl d_Wo_addThing_54 rfl (1, 0, 0) rfl rfl (fun h V => ?_)
      rw [← eρ3] at V
      clear eρ3
      refine x_aload_n hM d_Wo_addThing_57 rfl 0 rfl ?_
      refine x_dup hM d_Wo_addThing_58 rfl ?_
      refine y_geti hG hM V ck_Wo 0 (Nat.le_of_ble_eq_true rfl) rfl rfl w_123 rfl d_Wo_addThing_59 (1, 0, 0) rfl rfl ?_
      refine x_iconst (v := 1) hM d_Wo_addThing_62 (by decide) ?_
      refine x_iadd hM d_Wo_addThing_63 ?_
      obtain ⟨ρ4, eρ4⟩ : ∃ z : Rs, z = pI ρ3 (1, 0, 0) 0 ((iR ρ3 (1, 0, 0) 0) + 1) := ⟨_, rfl⟩
      replace F := F ρ4 eρ4
      refine y_puti hG hM V ck_Wo 0 (Nat.le_of_ble_eq_true rfl) rfl rfl w_123 rfl d_Wo_addThing_64 rfl (1, 0, 0) rfl rfl (fun h V => ?_)
      rw [← eρ4] at V
      clear eρ4
      refine x_aload_n hM d_Wo_addThing_67 rfl 0 rfl ?_
      refine x_iconst (v := 0) hM d_Wo_addThing_68 (by decide) ?_
      obtain ⟨ρ5, eρ5⟩ : ∃ z : Rs, z = pI ρ4 (1, 0, 0) 8 0 := ⟨_, rfl⟩
      replace F := F ρ5 eρ5
      refine y_putz hG hM V ck_Wo 8 (Nat.le_of_ble_eq_true rfl) rfl rfl w_159 rfl d_Wo_addThing_69 rfl (1, 0, 0) rfl rfl (Or.inl rfl) (fun h V => ?_)
      rw [← eρ5] at V
      clear eρ5
      refine x_aload_n hM d_Wo_addThing_72 rfl 0 rfl ?_
      refine x_iconst (v := 0) hM d_Wo_addThing_73 (by decide) ?_
      obtain ⟨ρ6, eρ6⟩ : ∃ z : Rs, z = pI ρ5 (1, 0, 0) 9 0 := ⟨_, rfl⟩
      replace F := F ρ6 eρ6
      refine y_putz hG hM V ck_Wo 9 (Nat.le_of_ble_eq_true rfl) rfl rfl w_160 rfl d_Wo_addThing_74 rfl (1, 0, 0) rfl rfl (Or.inl rfl) (fun h V => ?_)
      rw [← eρ6] at V
      clear eρ6
      refine x_aload_n hM d_Wo_addThing_77 rfl 0 rfl ?_
      refine y_geti hG hM V ck_Wo 0 (Nat.le_of_ble_eq_true rfl) rfl rfl w_123 rfl d_Wo_addThing_78 (1, 0, 0) rfl rfl ?_
      refine x_iconst (v := 1) hM d_Wo_addThing_81 (by decide) ?_
      refine x_isub hM d_Wo_addThing_82 ?_
      exact x_ireturn hM d_Wo_addThing_83 rfl (y_end V hSt (F _))
    · replace F := F.2 q9
      refine x_bipush (v := (-3)) hM d_Wo_addThing_21 (by decide) ?_
      exact x_ireturn hM d_Wo_addThing_23 rfl (y_end V hSt (F _))
set_option maxRecDepth 100000 in
set_option maxHeartbeats 4000000 in
theorem T_Wo_isState_0 {G : Gc} {M : Mc} {Q : State → Prop} {ad0 : Ro → Nat} {K : (Ro → Nat) → Option Value → Rs → Prop} (hG : gok G) (hM : mok G M r_Wo_isState Q (KV G [] ad0 K)) (v1 : Int32) (ρ : Rs) (F : ∀ z1 : Int32, z1 = (if v1 < 0 then 0 else (if (iR ρ (1, 0, 0) 1) ≤ v1 then 0 else 1)) → (nb z1 ∧ (∀ ad, K ad (some (.int z1)) ρ))) : Y G [] ad0 M Q 0 (fun ad => [(0, .ref (ad (1, 0, 0))), (1, .int v1)]) (fun ad => []) ρ := by
  intro ad h hSt V
  show X G M Q 0 [(0, .ref (ad (1, 0, 0))), (1, .int v1)] [] h
  refine x_iload_n hM d_Wo_isState_0 rfl 1 rfl ?_
  have JJ : ∀ (z1 : Int32) (ez1 : z1 = (if v1 < 0 then 0 else (if (iR ρ (1, 0, 0) 1) ≤ v1 then 0 else 1))), X G M Q 17 [] [.int z1] h := by
    intro z1 ez1
    replace F := F _ ez1
    exact x_zreturn hM d_Wo_isState_17 rfl F.1 (y_end V hSt (F.2 _))
  refine x_if_lt (tgt := 16) hM d_Wo_isState_1 (by decide) (fun q2 => ?_) (fun q2 => ?_)
  · refine x_iconst (v := 0) hM d_Wo_isState_16 (by decide) ?_
    refine x_sub [] rfl ?_
    exact JJ _ (Eq.symm (if_pos q2))
  · refine x_iload_n hM d_Wo_isState_4 rfl 1 rfl ?_
    refine x_aload_n hM d_Wo_isState_5 rfl 0 rfl ?_
    refine y_geti hG hM V ck_Wo 1 (Nat.le_of_ble_eq_true rfl) rfl rfl w_125 rfl d_Wo_isState_6 (1, 0, 0) rfl rfl ?_
    refine x_icmp_ge (tgt := 16) hM d_Wo_isState_9 (by decide) (fun q3 => ?_) (fun q3 => ?_)
    · refine x_iconst (v := 0) hM d_Wo_isState_16 (by decide) ?_
      refine x_sub [] rfl ?_
      exact JJ _ (Eq.symm (Eq.trans (if_neg q2) (if_pos q3)))
    · refine x_iconst (v := 1) hM d_Wo_isState_12 (by decide) ?_
      refine x_goto (tgt := 17) hM d_Wo_isState_13 (by decide) ?_
      refine x_sub [] rfl ?_
      exact JJ _ (Eq.symm (Eq.trans (if_neg q2) (if_neg q3)))
set_option maxRecDepth 100000 in
set_option maxHeartbeats 4000000 in
theorem T_Wo_addAct_0 {G : Gc} {M : Mc} {Q : State → Prop} {ad0 : Ro → Nat} {K : (Ro → Nat) → Option Value → Rs → Prop} (hG : gok G) (hM : mok G M r_Wo_addAct Q (KV G [] ad0 K))  (ρ : Rs) (F : ((iR ρ (1, 0, 0) 2) < 12 → (vp_in (iR ρ (1, 0, 0) 2) 12 ∧ (semV G r_Ac_beginAnew [] (fun ad => [.ref (ad (20, (Int32.toNatClampNeg (iR ρ (1, 0, 0) 2)), 0))]) ρ (fun ad u3 ρ2 => u3 = none ∧ (∀ ρ5 : Rs, ρ5 = pI ρ2 (1, 0, 0) 2 ((iR ρ2 (1, 0, 0) 2) + 1) → (∀ ρ6 : Rs, ρ6 = pI ρ5 (1, 0, 0) 9 0 → (∀ ad, K ad (some (.int ((iR ρ6 (1, 0, 0) 2) - 1))) ρ6))))))) ∧ (¬ (iR ρ (1, 0, 0) 2) < 12 → (∀ ad, K ad (some (.int (-3))) ρ))) : Y G [] ad0 M Q 0 (fun ad => [(0, .ref (ad (1, 0, 0)))]) (fun ad => []) ρ := by
  intro ad h hSt V
  show X G M Q 0 [(0, .ref (ad (1, 0, 0)))] [] h
  refine x_aload_n hM d_Wo_addAct_0 rfl 0 rfl ?_
  refine y_geti hG hM V ck_Wo 2 (Nat.le_of_ble_eq_true rfl) rfl rfl w_133 rfl d_Wo_addAct_1 (1, 0, 0) rfl rfl ?_
  refine x_bipush (v := 12) hM d_Wo_addAct_4 (by decide) ?_
  refine x_icmp_lt (tgt := 12) hM d_Wo_addAct_6 (by decide) (fun q8 => ?_) (fun q8 => ?_)
  · replace F := F.1 q8
    refine x_aload_n hM d_Wo_addAct_12 rfl 0 rfl ?_
    refine y_getr hG hM V ck_Wo 5 (Nat.le_of_ble_eq_true rfl) rfl rfl w_143 rfl d_Wo_addAct_13 (1, 0, 0) (30, 5, 0) rfl rfl rfl ?_
    refine x_aload_n hM d_Wo_addAct_16 rfl 0 rfl ?_
    refine y_geti hG hM V ck_Wo 2 (Nat.le_of_ble_eq_true rfl) rfl rfl w_133 rfl d_Wo_addAct_17 (1, 0, 0) rfl rfl ?_
    obtain ⟨c1, F⟩ := F
    refine y_acts hG hM V d_Wo_addAct_20 c1 ?_
    refine x_callV hG hM (r' := r_Ac_beginAnew) (ci := 2) [] rfl rfl (Nat.le_of_ble_eq_true rfl) yk_Ac_beginAnew ⟨Nat.le_of_ble_eq_true rfl, Nat.le_of_ble_eq_true rfl⟩ w_476 w_477 w_478 rfl rfl (Nat.le_of_ble_eq_true rfl) d_Wo_addAct_21 (by rw [vT V (ok_ac (vp_lt c1))]; rfl) (sem_mono (F _ _ V) ?_)
    intro u3 h F
    obtain ⟨ad7, ρ2, V, hs4, F⟩ := F
    obtain ⟨rfl, F⟩ := F
    have hs4 := (St_eq hs4).symm
    subst hs4
    refine x_aload_n hM d_Wo_addAct_24 rfl 0 rfl ?_
    refine x_dup hM d_Wo_addAct_25 rfl ?_
    refine y_geti hG hM V ck_Wo 2 (Nat.le_of_ble_eq_true rfl) rfl rfl w_133 rfl d_Wo_addAct_26 (1, 0, 0) rfl rfl ?_
    refine x_iconst (v := 1) hM d_Wo_addAct_29 (by decide) ?_
    refine x_iadd hM d_Wo_addAct_30 ?_
    obtain ⟨ρ5, eρ5⟩ : ∃ z : Rs, z = pI ρ2 (1, 0, 0) 2 ((iR ρ2 (1, 0, 0) 2) + 1) := ⟨_, rfl⟩
    replace F := F ρ5 eρ5
    refine y_puti hG hM V ck_Wo 2 (Nat.le_of_ble_eq_true rfl) rfl rfl w_133 rfl d_Wo_addAct_31 rfl (1, 0, 0) rfl rfl (fun h V => ?_)
    rw [← eρ5] at V
    clear eρ5
    refine x_aload_n hM d_Wo_addAct_34 rfl 0 rfl ?_
    refine x_iconst (v := 0) hM d_Wo_addAct_35 (by decide) ?_
    obtain ⟨ρ6, eρ6⟩ : ∃ z : Rs, z = pI ρ5 (1, 0, 0) 9 0 := ⟨_, rfl⟩
    replace F := F ρ6 eρ6
    refine y_putz hG hM V ck_Wo 9 (Nat.le_of_ble_eq_true rfl) rfl rfl w_160 rfl d_Wo_addAct_36 rfl (1, 0, 0) rfl rfl (Or.inl rfl) (fun h V => ?_)
    rw [← eρ6] at V
    clear eρ6
    refine x_aload_n hM d_Wo_addAct_39 rfl 0 rfl ?_
    refine y_geti hG hM V ck_Wo 2 (Nat.le_of_ble_eq_true rfl) rfl rfl w_133 rfl d_Wo_addAct_40 (1, 0, 0) rfl rfl ?_
    refine x_iconst (v := 1) hM d_Wo_addAct_43 (by decide) ?_
    refine x_isub hM d_Wo_addAct_44 ?_
    exact x_ireturn hM d_Wo_addAct_45 rfl (y_end V hSt (F _))
  · replace F := F.2 q8
    refine x_bipush (v := (-3)) hM d_Wo_addAct_9 (by decide) ?_
    exact x_ireturn hM d_Wo_addAct_11 rfl (y_end V hSt (F _))
set_option maxRecDepth 100000 in
set_option maxHeartbeats 4000000 in
theorem T_Wo_isAct_0 {G : Gc} {M : Mc} {Q : State → Prop} {ad0 : Ro → Nat} {K : (Ro → Nat) → Option Value → Rs → Prop} (hG : gok G) (hM : mok G M r_Wo_isAct Q (KV G [] ad0 K)) (v1 : Int32) (ρ : Rs) (F : ∀ z1 : Int32, z1 = (if v1 < 0 then 0 else (if (iR ρ (1, 0, 0) 2) ≤ v1 then 0 else 1)) → (nb z1 ∧ (∀ ad, K ad (some (.int z1)) ρ))) : Y G [] ad0 M Q 0 (fun ad => [(0, .ref (ad (1, 0, 0))), (1, .int v1)]) (fun ad => []) ρ := by
  intro ad h hSt V
  show X G M Q 0 [(0, .ref (ad (1, 0, 0))), (1, .int v1)] [] h
  refine x_iload_n hM d_Wo_isAct_0 rfl 1 rfl ?_
  have JJ : ∀ (z1 : Int32) (ez1 : z1 = (if v1 < 0 then 0 else (if (iR ρ (1, 0, 0) 2) ≤ v1 then 0 else 1))), X G M Q 17 [] [.int z1] h := by
    intro z1 ez1
    replace F := F _ ez1
    exact x_zreturn hM d_Wo_isAct_17 rfl F.1 (y_end V hSt (F.2 _))
  refine x_if_lt (tgt := 16) hM d_Wo_isAct_1 (by decide) (fun q2 => ?_) (fun q2 => ?_)
  · refine x_iconst (v := 0) hM d_Wo_isAct_16 (by decide) ?_
    refine x_sub [] rfl ?_
    exact JJ _ (Eq.symm (if_pos q2))
  · refine x_iload_n hM d_Wo_isAct_4 rfl 1 rfl ?_
    refine x_aload_n hM d_Wo_isAct_5 rfl 0 rfl ?_
    refine y_geti hG hM V ck_Wo 2 (Nat.le_of_ble_eq_true rfl) rfl rfl w_133 rfl d_Wo_isAct_6 (1, 0, 0) rfl rfl ?_
    refine x_icmp_ge (tgt := 16) hM d_Wo_isAct_9 (by decide) (fun q3 => ?_) (fun q3 => ?_)
    · refine x_iconst (v := 0) hM d_Wo_isAct_16 (by decide) ?_
      refine x_sub [] rfl ?_
      exact JJ _ (Eq.symm (Eq.trans (if_neg q2) (if_pos q3)))
    · refine x_iconst (v := 1) hM d_Wo_isAct_12 (by decide) ?_
      refine x_goto (tgt := 17) hM d_Wo_isAct_13 (by decide) ?_
      refine x_sub [] rfl ?_
      exact JJ _ (Eq.symm (Eq.trans (if_neg q2) (if_neg q3)))
set_option maxRecDepth 100000 in
set_option maxHeartbeats 4000000 in
theorem T_Wo_isCondition_0 {G : Gc} {M : Mc} {Q : State → Prop} {ad0 : Ro → Nat} {K : (Ro → Nat) → Option Value → Rs → Prop} (hG : gok G) (hM : mok G M r_Wo_isCondition Q (KV G [] ad0 K)) (v1 : Int32) (v2 : Int32) (v3 : Int32) (ρ : Rs) (F : semV G r_Wo_isThing [] (fun ad => [.ref (ad (1, 0, 0)), .int v1]) ρ (fun ad u2 ρ1 => ∃ x4 : Int32, u2 = some (.int x4) ∧ ((x4 = 0 → (∀ ad, K ad (some (.int 0)) ρ1)) ∧ (¬ x4 = 0 → ((v2 < 0 → (∀ ad, K ad (some (.int 0)) ρ1)) ∧ (¬ v2 < 0 → ((v2 ≤ 3 → ((v2 = 2 → (semV G r_Wo_isThing [] (fun ad => [.ref (ad (1, 0, 0)), .int v3]) ρ1 (fun ad u9 ρ8 => ∃ x11 : Int32, u9 = some (.int x11) ∧ (nb x11 ∧ (∀ ad, K ad (some (.int x11)) ρ8))))) ∧ (¬ v2 = 2 → (∀ z5 : Int32, z5 = (if v3 < 0 then 0 else (if 4 ≤ v3 then 0 else 1)) → (nb z5 ∧ (∀ ad, K ad (some (.int z5)) ρ1)))))) ∧ (¬ v2 ≤ 3 → (∀ ad, K ad (some (.int 0)) ρ1))))))))) : Y G [] ad0 M Q 0 (fun ad => [(0, .ref (ad (1, 0, 0))), (1, .int v1), (2, .int v2), (3, .int v3)]) (fun ad => []) ρ := by
  intro ad h hSt V
  show X G M Q 0 [(0, .ref (ad (1, 0, 0))), (1, .int v1), (2, .int v2), (3, .int v3)] [] h
  refine x_aload_n hM d_Wo_isCondition_0 rfl 0 rfl ?_
  refine x_iload_n hM d_Wo_isCondition_1 rfl 1 rfl ?_
  refine x_callV hG hM (r' := r_Wo_isThing) (ci := 1) [.int v1] rfl rfl (Nat.le_of_ble_eq_true rfl) yk_Wo_isThing ⟨Nat.le_of_ble_eq_true rfl, Nat.le_of_ble_eq_true rfl⟩ w_504 w_505 w_506 rfl rfl (Nat.le_of_ble_eq_true rfl) d_Wo_isCondition_2 (by rw [vT V rfl]; rfl) (sem_mono (F _ _ V) ?_)
  intro u2 h F
  obtain ⟨ad17, ρ1, V, hs3, F⟩ := F
  obtain ⟨x4, rfl, F⟩ := F
  have hs3 := (St_eq hs3).symm
  subst hs3
  refine x_if_eq (tgt := 17) hM d_Wo_isCondition_5 (by decide) (fun q16 => ?_) (fun q16 => ?_)
  · replace F := F.1 q16
    refine x_iconst (v := 0) hM d_Wo_isCondition_17 (by decide) ?_
    exact x_zreturn hM d_Wo_isCondition_18 rfl (Or.inl rfl) (y_end V hSt (F _))
  · replace F := F.2 q16
    refine x_iload_n hM d_Wo_isCondition_8 rfl 2 rfl ?_
    refine x_if_lt (tgt := 17) hM d_Wo_isCondition_9 (by decide) (fun q15 => ?_) (fun q15 => ?_)
    · replace F := F.1 q15
      refine x_iconst (v := 0) hM d_Wo_isCondition_17 (by decide) ?_
      exact x_zreturn hM d_Wo_isCondition_18 rfl (Or.inl rfl) (y_end V hSt (F _))
    · replace F := F.2 q15
      refine x_iload_n hM d_Wo_isCondition_12 rfl 2 rfl ?_
      refine x_iconst (v := 3) hM d_Wo_isCondition_13 (by decide) ?_
      refine x_icmp_le (tgt := 19) hM d_Wo_isCondition_14 (by decide) (fun q14 => ?_) (fun q14 => ?_)
      · replace F := F.1 q14
        refine x_iload_n hM d_Wo_isCondition_19 rfl 2 rfl ?_
        refine x_iconst (v := 2) hM d_Wo_isCondition_20 (by decide) ?_
        refine x_icmp_ne (tgt := 32) hM d_Wo_isCondition_21 (by decide) (fun q13 => ?_) (fun q13 => ?_)
        · replace F := F.2 q13
          refine x_iload_n hM d_Wo_isCondition_32 rfl 3 rfl ?_
          have JJ : ∀ (z5 : Int32) (ez5 : z5 = (if v3 < 0 then 0 else (if 4 ≤ v3 then 0 else 1))), X G M Q 46 [] [.int z5] h := by
            intro z5 ez5
            replace F := F _ ez5
            exact x_zreturn hM d_Wo_isCondition_46 rfl F.1 (y_end V hSt (F.2 _))
          refine x_if_lt (tgt := 45) hM d_Wo_isCondition_33 (by decide) (fun q6 => ?_) (fun q6 => ?_)
          · refine x_iconst (v := 0) hM d_Wo_isCondition_45 (by decide) ?_
            refine x_sub [] rfl ?_
            exact JJ _ (Eq.symm (if_pos q6))
          · refine x_iload_n hM d_Wo_isCondition_36 rfl 3 rfl ?_
            refine x_iconst (v := 4) hM d_Wo_isCondition_37 (by decide) ?_
            refine x_icmp_ge (tgt := 45) hM d_Wo_isCondition_38 (by decide) (fun q7 => ?_) (fun q7 => ?_)
            · refine x_iconst (v := 0) hM d_Wo_isCondition_45 (by decide) ?_
              refine x_sub [] rfl ?_
              exact JJ _ (Eq.symm (Eq.trans (if_neg q6) (if_pos q7)))
            · refine x_iconst (v := 1) hM d_Wo_isCondition_41 (by decide) ?_
              refine x_goto (tgt := 46) hM d_Wo_isCondition_42 (by decide) ?_
              refine x_sub [] rfl ?_
              exact JJ _ (Eq.symm (Eq.trans (if_neg q6) (if_neg q7)))
        · replace F := F.1 q13
          refine x_aload_n hM d_Wo_isCondition_24 rfl 0 rfl ?_
          refine x_iload_n hM d_Wo_isCondition_25 rfl 3 rfl ?_
          refine x_callV hG hM (r' := r_Wo_isThing) (ci := 1) [.int v3] rfl rfl (Nat.le_of_ble_eq_true rfl) yk_Wo_isThing ⟨Nat.le_of_ble_eq_true rfl, Nat.le_of_ble_eq_true rfl⟩ w_504 w_505 w_506 rfl rfl (Nat.le_of_ble_eq_true rfl) d_Wo_isCondition_26 (by rw [vT V rfl]; rfl) (sem_mono (F _ _ V) ?_)
          intro u9 h F
          obtain ⟨ad12, ρ8, V, hs10, F⟩ := F
          obtain ⟨x11, rfl, F⟩ := F
          have hs10 := (St_eq hs10).symm
          subst hs10
          refine x_goto (tgt := 46) hM d_Wo_isCondition_29 (by decide) ?_
          exact x_zreturn hM d_Wo_isCondition_46 rfl F.1 (y_end V hSt (F.2 _))
      · replace F := F.2 q14
        refine x_iconst (v := 0) hM d_Wo_isCondition_17 (by decide) ?_
        exact x_zreturn hM d_Wo_isCondition_18 rfl (Or.inl rfl) (y_end V hSt (F _))
set_option maxRecDepth 100000 in
set_option maxHeartbeats 4000000 in
theorem T_Wo_isThing_0 {G : Gc} {M : Mc} {Q : State → Prop} {ad0 : Ro → Nat} {K : (Ro → Nat) → Option Value → Rs → Prop} (hG : gok G) (hM : mok G M r_Wo_isThing Q (KV G [] ad0 K)) (v1 : Int32) (ρ : Rs) (F : ∀ z1 : Int32, z1 = (if v1 < 0 then 0 else (if (iR ρ (1, 0, 0) 0) ≤ v1 then 0 else 1)) → (nb z1 ∧ (∀ ad, K ad (some (.int z1)) ρ))) : Y G [] ad0 M Q 0 (fun ad => [(0, .ref (ad (1, 0, 0))), (1, .int v1)]) (fun ad => []) ρ := by
  intro ad h hSt V
  show X G M Q 0 [(0, .ref (ad (1, 0, 0))), (1, .int v1)] [] h
  refine x_iload_n hM d_Wo_isThing_0 rfl 1 rfl ?_
  have JJ : ∀ (z1 : Int32) (ez1 : z1 = (if v1 < 0 then 0 else (if (iR ρ (1, 0, 0) 0) ≤ v1 then 0 else 1))), X G M Q 17 [] [.int z1] h := by
    intro z1 ez1
    replace F := F _ ez1
    exact x_zreturn hM d_Wo_isThing_17 rfl F.1 (y_end V hSt (F.2 _))
  refine x_if_lt (tgt := 16) hM d_Wo_isThing_1 (by decide) (fun q2 => ?_) (fun q2 => ?_)
  · refine x_iconst (v := 0) hM d_Wo_isThing_16 (by decide) ?_
    refine x_sub [] rfl ?_
    exact JJ _ (Eq.symm (if_pos q2))
  · refine x_iload_n hM d_Wo_isThing_4 rfl 1 rfl ?_
    refine x_aload_n hM d_Wo_isThing_5 rfl 0 rfl ?_
    refine y_geti hG hM V ck_Wo 0 (Nat.le_of_ble_eq_true rfl) rfl rfl w_123 rfl d_Wo_isThing_6 (1, 0, 0) rfl rfl ?_
    refine x_icmp_ge (tgt := 16) hM d_Wo_isThing_9 (by decide) (fun q3 => ?_) (fun q3 => ?_)
    · refine x_iconst (v := 0) hM d_Wo_isThing_16 (by decide) ?_
      refine x_sub [] rfl ?_
      exact JJ _ (Eq.symm (Eq.trans (if_neg q2) (if_pos q3)))
    · refine x_iconst (v := 1) hM d_Wo_isThing_12 (by decide) ?_
      refine x_goto (tgt := 17) hM d_Wo_isThing_13 (by decide) ?_
      refine x_sub [] rfl ?_
      exact JJ _ (Eq.symm (Eq.trans (if_neg q2) (if_neg q3)))
set_option maxRecDepth 100000 in
set_option maxHeartbeats 4000000 in
theorem T_Wo_isOutcome_0 {G : Gc} {M : Mc} {Q : State → Prop} {ad0 : Ro → Nat} {K : (Ro → Nat) → Option Value → Rs → Prop} (hG : gok G) (hM : mok G M r_Wo_isOutcome Q (KV G [] ad0 K)) (v1 : Int32) (v2 : Int32) (ρ : Rs) (F : semV G r_Wo_isAct [] (fun ad => [.ref (ad (1, 0, 0)), .int v1]) ρ (fun ad u2 ρ1 => ∃ x4 : Int32, u2 = some (.int x4) ∧ ((¬ x4 = 0 → (¬ v2 < 0 → vp_in v1 12)) ∧ (∀ z6 : Int32, z6 = (if x4 = 0 then 0 else (if v2 < 0 then 0 else (if (iR ρ1 (20, (Int32.toNatClampNeg v1), 0) 2) ≤ v2 then 0 else 1))) → (nb z6 ∧ (∀ ad, K ad (some (.int z6)) ρ1)))))) : Y G [] ad0 M Q 0 (fun ad => [(0, .ref (ad (1, 0, 0))), (1, .int v1), (2, .int v2)]) (fun ad => []) ρ := by
  intro ad h hSt V
  show X G M Q 0 [(0, .ref (ad (1, 0, 0))), (1, .int v1), (2, .int v2)] [] h
  refine x_aload_n hM d_Wo_isOutcome_0 rfl 0 rfl ?_
  refine x_iload_n hM d_Wo_isOutcome_1 rfl 1 rfl ?_
  refine x_callV hG hM (r' := r_Wo_isAct) (ci := 1) [.int v1] rfl rfl (Nat.le_of_ble_eq_true rfl) yk_Wo_isAct ⟨Nat.le_of_ble_eq_true rfl, Nat.le_of_ble_eq_true rfl⟩ w_520 w_485 w_486 rfl rfl (Nat.le_of_ble_eq_true rfl) d_Wo_isOutcome_2 (by rw [vT V rfl]; rfl) (sem_mono (F _ _ V) ?_)
  intro u2 h F
  obtain ⟨ad10, ρ1, V, hs3, F⟩ := F
  obtain ⟨x4, rfl, F⟩ := F
  have hs3 := (St_eq hs3).symm
  subst hs3
  obtain ⟨S, F⟩ := F
  have JJ : ∀ (z6 : Int32) (ez6 : z6 = (if x4 = 0 then 0 else (if v2 < 0 then 0 else (if (iR ρ1 (20, (Int32.toNatClampNeg v1), 0) 2) ≤ v2 then 0 else 1)))), X G M Q 30 [] [.int z6] h := by
    intro z6 ez6
    replace F := F _ ez6
    exact x_zreturn hM d_Wo_isOutcome_30 rfl F.1 (y_end V hSt (F.2 _))
  refine x_if_eq (tgt := 29) hM d_Wo_isOutcome_5 (by decide) (fun q7 => ?_) (fun q7 => ?_)
  · refine x_iconst (v := 0) hM d_Wo_isOutcome_29 (by decide) ?_
    refine x_sub [] rfl ?_
    exact JJ _ (Eq.symm (if_pos q7))
  · replace S := S q7
    refine x_iload_n hM d_Wo_isOutcome_8 rfl 2 rfl ?_
    refine x_if_lt (tgt := 29) hM d_Wo_isOutcome_9 (by decide) (fun q8 => ?_) (fun q8 => ?_)
    · refine x_iconst (v := 0) hM d_Wo_isOutcome_29 (by decide) ?_
      refine x_sub [] rfl ?_
      exact JJ _ (Eq.symm (Eq.trans (if_neg q7) (if_pos q8)))
    · replace S := S q8
      refine x_iload_n hM d_Wo_isOutcome_12 rfl 2 rfl ?_
      refine x_aload_n hM d_Wo_isOutcome_13 rfl 0 rfl ?_
      refine y_getr hG hM V ck_Wo 5 (Nat.le_of_ble_eq_true rfl) rfl rfl w_143 rfl d_Wo_isOutcome_14 (1, 0, 0) (30, 5, 0) rfl rfl rfl ?_
      refine x_iload_n hM d_Wo_isOutcome_17 rfl 1 rfl ?_
      have c5 := S
      refine y_acts hG hM V d_Wo_isOutcome_18 c5 ?_
      refine y_geti hG hM V ck_Ac 2 (Nat.le_of_ble_eq_true rfl) rfl rfl w_109 rfl d_Wo_isOutcome_19 (20, (Int32.toNatClampNeg v1), 0) (ok_ac (vp_lt c5)) rfl ?_
      refine x_icmp_ge (tgt := 29) hM d_Wo_isOutcome_22 (by decide) (fun q9 => ?_) (fun q9 => ?_)
      · refine x_iconst (v := 0) hM d_Wo_isOutcome_29 (by decide) ?_
        refine x_sub [] rfl ?_
        exact JJ _ (Eq.symm (Eq.trans (if_neg q7) (Eq.trans (if_neg q8) (if_pos q9))))
      · refine x_iconst (v := 1) hM d_Wo_isOutcome_25 (by decide) ?_
        refine x_goto (tgt := 30) hM d_Wo_isOutcome_26 (by decide) ?_
        refine x_sub [] rfl ?_
        exact JJ _ (Eq.symm (Eq.trans (if_neg q7) (Eq.trans (if_neg q8) (if_neg q9))))
set_option maxRecDepth 100000 in
set_option maxHeartbeats 4000000 in
theorem T_Wo_isEffect_0 {G : Gc} {M : Mc} {Q : State → Prop} {ad0 : Ro → Nat} {K : (Ro → Nat) → Option Value → Rs → Prop} (hG : gok G) (hM : mok G M r_Wo_isEffect Q (KV G [] ad0 K)) (v1 : Int32) (v2 : Int32) (v3 : Int32) (ρ : Rs) (F : semV G r_Wo_isThing [] (fun ad => [.ref (ad (1, 0, 0)), .int v1]) ρ (fun ad u2 ρ1 => ∃ x4 : Int32, u2 = some (.int x4) ∧ ((x4 = 0 → (∀ ad, K ad (some (.int 0)) ρ1)) ∧ (¬ x4 = 0 → ((v2 < 0 → (∀ ad, K ad (some (.int 0)) ρ1)) ∧ (¬ v2 < 0 → ((v2 ≤ 2 → ((v2 = 1 → (semV G r_Wo_isThing [] (fun ad => [.ref (ad (1, 0, 0)), .int v3]) ρ1 (fun ad u12 ρ11 => ∃ x14 : Int32, u12 = some (.int x14) ∧ (nb x14 ∧ (∀ ad, K ad (some (.int x14)) ρ11))))) ∧ (¬ v2 = 1 → ((¬ v3 < 0 → (v2 = 0 → vp_in v1 8)) ∧ (∀ z6 : Int32, z6 = (if v3 < 0 then 0 else (if v2 = 0 then (if (iR ρ1 (30, 3, 0) (Int32.toNatClampNeg v1)) ≤ v3 then 0 else 1) else (if 4 ≤ v3 then 0 else 1))) → (nb z6 ∧ (∀ ad, K ad (some (.int z6)) ρ1))))))) ∧ (¬ v2 ≤ 2 → (∀ ad, K ad (some (.int 0)) ρ1))))))))) : Y G [] ad0 M Q 0 (fun ad => [(0, .ref (ad (1, 0, 0))), (1, .int v1), (2, .int v2), (3, .int v3)]) (fun ad => []) ρ := by
  intro ad h hSt V
  show X G M Q 0 [(0, .ref (ad (1, 0, 0))), (1, .int v1), (2, .int v2), (3, .int v3)] [] h
  refine x_aload_n hM d_Wo_isEffect_0 rfl 0 rfl ?_
  refine x_iload_n hM d_Wo_isEffect_1 rfl 1 rfl ?_
  refine x_callV hG hM (r' := r_Wo_isThing) (ci := 1) [.int v1] rfl rfl (Nat.le_of_ble_eq_true rfl) yk_Wo_isThing ⟨Nat.le_of_ble_eq_true rfl, Nat.le_of_ble_eq_true rfl⟩ w_504 w_505 w_506 rfl rfl (Nat.le_of_ble_eq_true rfl) d_Wo_isEffect_2 (by rw [vT V rfl]; rfl) (sem_mono (F _ _ V) ?_)
  intro u2 h F
  obtain ⟨ad20, ρ1, V, hs3, F⟩ := F
  obtain ⟨x4, rfl, F⟩ := F
  have hs3 := (St_eq hs3).symm
  subst hs3
  refine x_if_eq (tgt := 17) hM d_Wo_isEffect_5 (by decide) (fun q19 => ?_) (fun q19 => ?_)
  · replace F := F.1 q19
    refine x_iconst (v := 0) hM d_Wo_isEffect_17 (by decide) ?_
    exact x_zreturn hM d_Wo_isEffect_18 rfl (Or.inl rfl) (y_end V hSt (F _))
  · replace F := F.2 q19
    refine x_iload_n hM d_Wo_isEffect_8 rfl 2 rfl ?_
    refine x_if_lt (tgt := 17) hM d_Wo_isEffect_9 (by decide) (fun q18 => ?_) (fun q18 => ?_)
    · replace F := F.1 q18
      refine x_iconst (v := 0) hM d_Wo_isEffect_17 (by decide) ?_
      exact x_zreturn hM d_Wo_isEffect_18 rfl (Or.inl rfl) (y_end V hSt (F _))
    · replace F := F.2 q18
      refine x_iload_n hM d_Wo_isEffect_12 rfl 2 rfl ?_
      refine x_iconst (v := 2) hM d_Wo_isEffect_13 (by decide) ?_
      refine x_icmp_le (tgt := 19) hM d_Wo_isEffect_14 (by decide) (fun q17 => ?_) (fun q17 => ?_)
      · replace F := F.1 q17
        refine x_iload_n hM d_Wo_isEffect_19 rfl 2 rfl ?_
        refine x_iconst (v := 1) hM d_Wo_isEffect_20 (by decide) ?_
        refine x_icmp_ne (tgt := 30) hM d_Wo_isEffect_21 (by decide) (fun q16 => ?_) (fun q16 => ?_)
        · replace F := F.2 q16
          refine x_iload_n hM d_Wo_isEffect_30 rfl 3 rfl ?_
          obtain ⟨S, F⟩ := F
          have JJ : ∀ (z6 : Int32) (ez6 : z6 = (if v3 < 0 then 0 else (if v2 = 0 then (if (iR ρ1 (30, 3, 0) (Int32.toNatClampNeg v1)) ≤ v3 then 0 else 1) else (if 4 ≤ v3 then 0 else 1)))), X G M Q 57 [] [.int z6] h := by
            intro z6 ez6
            replace F := F _ ez6
            exact x_zreturn hM d_Wo_isEffect_57 rfl F.1 (y_end V hSt (F.2 _))
          refine x_if_lt (tgt := 56) hM d_Wo_isEffect_31 (by decide) (fun q7 => ?_) (fun q7 => ?_)
          · refine x_iconst (v := 0) hM d_Wo_isEffect_56 (by decide) ?_
            refine x_sub [] rfl ?_
            exact JJ _ (Eq.symm (if_pos q7))
          · replace S := S q7
            refine x_iload_n hM d_Wo_isEffect_34 rfl 3 rfl ?_
            refine x_iload_n hM d_Wo_isEffect_35 rfl 2 rfl ?_
            refine x_if_ne (tgt := 48) hM d_Wo_isEffect_36 (by decide) (fun q8 => ?_) (fun q8 => ?_)
            · refine x_iconst (v := 4) hM d_Wo_isEffect_48 (by decide) ?_
              refine x_icmp_ge (tgt := 56) hM d_Wo_isEffect_49 (by decide) (fun q9 => ?_) (fun q9 => ?_)
              · refine x_iconst (v := 0) hM d_Wo_isEffect_56 (by decide) ?_
                refine x_sub [] rfl ?_
                exact JJ _ (Eq.symm (Eq.trans (if_neg q7) (Eq.trans (if_neg q8) (if_pos q9))))
              · refine x_iconst (v := 1) hM d_Wo_isEffect_52 (by decide) ?_
                refine x_goto (tgt := 57) hM d_Wo_isEffect_53 (by decide) ?_
                refine x_sub [] rfl ?_
                exact JJ _ (Eq.symm (Eq.trans (if_neg q7) (Eq.trans (if_neg q8) (if_neg q9))))
            · replace S := S q8
              refine x_aload_n hM d_Wo_isEffect_39 rfl 0 rfl ?_
              refine y_getr hG hM V ck_Wo 3 (Nat.le_of_ble_eq_true rfl) rfl rfl w_140 rfl d_Wo_isEffect_40 (1, 0, 0) (30, 3, 0) rfl rfl rfl ?_
              refine x_iload_n hM d_Wo_isEffect_43 rfl 1 rfl ?_
              have c5 := S
              refine y_iaload hG hM V d_Wo_isEffect_44 (30, 3, 0) rfl rfl (by rw [vlen V (r := (30, 3, 0)) rfl rfl]; exact c5) ?_
              refine x_goto (tgt := 49) hM d_Wo_isEffect_45 (by decide) ?_
              refine x_icmp_ge (tgt := 56) hM d_Wo_isEffect_49 (by decide) (fun q10 => ?_) (fun q10 => ?_)
              · refine x_iconst (v := 0) hM d_Wo_isEffect_56 (by decide) ?_
                refine x_sub [] rfl ?_
                exact JJ _ (Eq.symm (Eq.trans (if_neg q7) (Eq.trans (if_pos q8) (if_pos q10))))
              · refine x_iconst (v := 1) hM d_Wo_isEffect_52 (by decide) ?_
                refine x_goto (tgt := 57) hM d_Wo_isEffect_53 (by decide) ?_
                refine x_sub [] rfl ?_
                exact JJ _ (Eq.symm (Eq.trans (if_neg q7) (Eq.trans (if_pos q8) (if_neg q10))))
        · replace F := F.1 q16
          refine x_aload_n hM d_Wo_isEffect_24 rfl 0 rfl ?_
          refine x_iload_n hM d_Wo_isEffect_25 rfl 3 rfl ?_
          refine x_callV hG hM (r' := r_Wo_isThing) (ci := 1) [.int v3] rfl rfl (Nat.le_of_ble_eq_true rfl) yk_Wo_isThing ⟨Nat.le_of_ble_eq_true rfl, Nat.le_of_ble_eq_true rfl⟩ w_504 w_505 w_506 rfl rfl (Nat.le_of_ble_eq_true rfl) d_Wo_isEffect_26 (by rw [vT V rfl]; rfl) (sem_mono (F _ _ V) ?_)
          intro u12 h F
          obtain ⟨ad15, ρ11, V, hs13, F⟩ := F
          obtain ⟨x14, rfl, F⟩ := F
          have hs13 := (St_eq hs13).symm
          subst hs13
          exact x_zreturn hM d_Wo_isEffect_29 rfl F.1 (y_end V hSt (F.2 _))
      · replace F := F.2 q17
        refine x_iconst (v := 0) hM d_Wo_isEffect_17 (by decide) ?_
        exact x_zreturn hM d_Wo_isEffect_18 rfl (Or.inl rfl) (y_end V hSt (F _))
set_option maxRecDepth 100000 in
set_option maxHeartbeats 4000000 in
theorem T_Wo_dropAct_0 {G : Gc} {M : Mc} {Q : State → Prop} {ad0 : Ro → Nat} {K : (Ro → Nat) → Option Value → Rs → Prop} (hG : gok G) (hM : mok G M r_Wo_dropAct Q (KV G [] ad0 K))  (ρ : Rs) (F : ∀ ρ1 : Rs, ρ1 = pI ρ (1, 0, 0) 2 ((iR ρ (1, 0, 0) 2) - 1) → (∀ ρ2 : Rs, ρ2 = pI ρ1 (1, 0, 0) 9 0 → (∀ ad, K ad none ρ2))) : Y G [] ad0 M Q 0 (fun ad => [(0, .ref (ad (1, 0, 0)))]) (fun ad => []) ρ := by
  intro ad h hSt V
  show X G M Q 0 [(0, .ref (ad (1, 0, 0)))] [] h
  refine x_aload_n hM d_Wo_dropAct_0 rfl 0 rfl ?_
  refine x_dup hM d_Wo_dropAct_1 rfl ?_
  refine y_geti hG hM V ck_Wo 2 (Nat.le_of_ble_eq_true rfl) rfl rfl w_133 rfl d_Wo_dropAct_2 (1, 0, 0) rfl rfl ?_
  refine x_iconst (v := 1) hM d_Wo_dropAct_5 (by decide) ?_
  refine x_isub hM d_Wo_dropAct_6 ?_
  obtain ⟨ρ1, eρ1⟩ : ∃ z : Rs, z = pI ρ (1, 0, 0) 2 ((iR ρ (1, 0, 0) 2) - 1) := ⟨_, rfl⟩
  replace F := F ρ1 eρ1
  refine y_puti hG hM V ck_Wo 2 (Nat.le_of_ble_eq_true rfl) rfl rfl w_133 rfl d_Wo_dropAct_7 rfl (1, 0, 0) rfl rfl (fun h V => ?_)
  rw [← eρ1] at V
  clear eρ1
  refine x_aload_n hM d_Wo_dropAct_10 rfl 0 rfl ?_
  refine x_iconst (v := 0) hM d_Wo_dropAct_11 (by decide) ?_
  obtain ⟨ρ2, eρ2⟩ : ∃ z : Rs, z = pI ρ1 (1, 0, 0) 9 0 := ⟨_, rfl⟩
  replace F := F ρ2 eρ2
  refine y_putz hG hM V ck_Wo 9 (Nat.le_of_ble_eq_true rfl) rfl rfl w_160 rfl d_Wo_dropAct_12 rfl (1, 0, 0) rfl rfl (Or.inl rfl) (fun h V => ?_)
  rw [← eρ2] at V
  clear eρ2
  exact x_return hM d_Wo_dropAct_15 rfl (y_end V hSt (F _))
set_option maxRecDepth 100000 in
set_option maxHeartbeats 4000000 in
theorem T_Wo_pack_0 {G : Gc} {M : Mc} {Q : State → Prop} {ad0 : Ro → Nat} {K : (Ro → Nat) → Option Value → Rs → Prop} (hG : gok G) (hM : mok G M r_Wo_pack Q (KV G [] ad0 K)) (v1 : Int32) (ρ : Rs) (F : Y G [] ad0 M Q 7 (fun ad => [(0, .ref (ad (1, 0, 0))), (2, .int v1), (3, .int 0), (4, .int 0)]) (fun ad => []) ρ) : Y G [] ad0 M Q 0 (fun ad => [(0, .ref (ad (1, 0, 0))), (1, .int v1)]) (fun ad => []) ρ := by
  intro ad h hSt V
  show X G M Q 0 [(0, .ref (ad (1, 0, 0))), (1, .int v1)] [] h
  refine x_iload_n hM d_Wo_pack_0 rfl 1 rfl ?_
  refine x_istore_n (lv2 := [(2, .int v1), (0, .ref (ad (1, 0, 0))), (1, .int v1)]) hM d_Wo_pack_1 rfl (Nat.le_of_ble_eq_true rfl) rfl ?_
  refine x_iconst (v := 0) hM d_Wo_pack_2 (by decide) ?_
  refine x_istore_n (lv2 := [(3, .int 0), (2, .int v1), (0, .ref (ad (1, 0, 0))), (1, .int v1)]) hM d_Wo_pack_3 rfl (Nat.le_of_ble_eq_true rfl) rfl ?_
  refine x_iconst (v := 0) hM d_Wo_pack_4 (by decide) ?_
  refine x_istore (lv2 := [(4, .int 0), (3, .int 0), (2, .int v1), (0, .ref (ad (1, 0, 0))), (1, .int v1)]) hM d_Wo_pack_5 (Nat.le_of_ble_eq_true rfl) rfl ?_
  refine x_sub [3, 2, 1, 0] rfl ?_
  exact F _ _ hSt V
set_option maxRecDepth 100000 in
set_option maxHeartbeats 4000000 in
theorem T_Wo_pack_7 {G : Gc} {M : Mc} {Q : State → Prop} {ad0 : Ro → Nat} {K : (Ro → Nat) → Option Value → Rs → Prop} (hG : gok G) (hM : mok G M r_Wo_pack Q (KV G [] ad0 K)) (v2 : Int32) (v3 : Int32) (v4 : Int32) (ρ : Rs) (F : ((iR ρ (1, 0, 0) 0) ≤ v4 → (∀ ad, K ad (some (.int v3)) ρ)) ∧ (¬ (iR ρ (1, 0, 0) 0) ≤ v4 → (vp_in v4 8 ∧ ((¬ (iR ρ (30, 3, 0) (Int32.toNatClampNeg v4)) ≤ 0 → (¬ (iR ρ (30, 3, 0) (Int32.toNatClampNeg v4)) = 0 ∧ ¬ (iR ρ (30, 3, 0) (Int32.toNatClampNeg v4)) = 0)) ∧ (∀ z3 : Int32, z3 = (if (iR ρ (30, 3, 0) (Int32.toNatClampNeg v4)) ≤ 0 then v2 else (v2 / (iR ρ (30, 3, 0) (Int32.toNatClampNeg v4)))) → (∀ z4 : Int32, z4 = (if (iR ρ (30, 3, 0) (Int32.toNatClampNeg v4)) ≤ 0 then v3 else (v3 ||| ((v2 - v2 / (iR ρ (30, 3, 0) (Int32.toNatClampNeg v4)) * (iR ρ (30, 3, 0) (Int32.toNatClampNeg v4))) <<< ((2 * v4) &&& 31)))) → (Y G [] ad0 M Q 7 (fun ad => [(0, .ref (ad (1, 0, 0))), (2, .int z3), (3, .int z4), (4, .int (v4 + 1))]) (fun ad => []) ρ))))))) : Y G [] ad0 M Q 7 (fun ad => [(0, .ref (ad (1, 0, 0))), (2, .int v2), (3, .int v3), (4, .int v4)]) (fun ad => []) ρ := by
  intro ad h hSt V
  show X G M Q 7 [(0, .ref (ad (1, 0, 0))), (2, .int v2), (3, .int v3), (4, .int v4)] [] h
  refine x_iload hM d_Wo_pack_7 3 rfl ?_
  refine x_aload_n hM d_Wo_pack_9 rfl 0 rfl ?_
  refine y_geti hG hM V ck_Wo 0 (Nat.le_of_ble_eq_true rfl) rfl rfl w_123 rfl d_Wo_pack_10 (1, 0, 0) rfl rfl ?_
  refine x_icmp_ge (tgt := 53) hM d_Wo_pack_13 (by decide) (fun q8 => ?_) (fun q8 => ?_)
  · replace F := F.1 q8
    refine x_iload_n hM d_Wo_pack_53 rfl 2 rfl ?_
    exact x_ireturn hM d_Wo_pack_54 rfl (y_end V hSt (F _))
  · replace F := F.2 q8
    refine x_aload_n hM d_Wo_pack_16 rfl 0 rfl ?_
    refine y_getr hG hM V ck_Wo 3 (Nat.le_of_ble_eq_true rfl) rfl rfl w_140 rfl d_Wo_pack_17 (1, 0, 0) (30, 3, 0) rfl rfl rfl ?_
    refine x_iload hM d_Wo_pack_20 3 rfl ?_
    obtain ⟨c2, F⟩ := F
    refine y_iaload hG hM V d_Wo_pack_22 (30, 3, 0) rfl rfl (by rw [vlen V (r := (30, 3, 0)) rfl rfl]; exact c2) ?_
    refine x_istore (lv2 := [(5, .int (iR ρ (30, 3, 0) (Int32.toNatClampNeg v4))), (0, .ref (ad (1, 0, 0))), (2, .int v2), (3, .int v3), (4, .int v4)]) hM d_Wo_pack_23 (Nat.le_of_ble_eq_true rfl) rfl ?_
    refine x_iload hM d_Wo_pack_25 0 rfl ?_
    obtain ⟨S, F⟩ := F
    have JJ : ∀ (z3 : Int32) (ez3 : z3 = (if (iR ρ (30, 3, 0) (Int32.toNatClampNeg v4)) ≤ 0 then v2 else (v2 / (iR ρ (30, 3, 0) (Int32.toNatClampNeg v4))))) (z4 : Int32) (ez4 : z4 = (if (iR ρ (30, 3, 0) (Int32.toNatClampNeg v4)) ≤ 0 then v3 else (v3 ||| ((v2 - v2 / (iR ρ (30, 3, 0) (Int32.toNatClampNeg v4)) * (iR ρ (30, 3, 0) (Int32.toNatClampNeg v4))) <<< ((2 * v4) &&& 31))))), X G M Q 47 [(0, .ref (ad (1, 0, 0))), (2, .int z3), (3, .int z4), (4, .int v4)] [] h := by
      intro z3 ez3 z4 ez4
      replace F := F _ ez3 _ ez4
      refine x_iinc (v := (v4 + 1)) (lv2 := [(4, .int (v4 + 1)), (0, .ref (ad (1, 0, 0))), (2, .int z3), (3, .int z4)]) hM d_Wo_pack_47 (j := 3) rfl rfl (Nat.le_of_ble_eq_true rfl) rfl ?_
      refine x_goto (tgt := 7) hM d_Wo_pack_50 (by decide) ?_
      refine x_sub [1, 2, 3, 0] rfl ?_
      exact F _ _ hSt V
    refine x_if_le (tgt := 47) hM d_Wo_pack_27 (by decide) (fun q5 => ?_) (fun q5 => ?_)
    · refine x_sub [1, 2, 3, 4] rfl ?_
      exact JJ _ (Eq.symm (if_pos q5)) _ (Eq.symm (if_pos q5))
    · replace S := S q5
      refine x_iload_n hM d_Wo_pack_30 rfl 3 rfl ?_
      refine x_iload_n hM d_Wo_pack_31 rfl 2 rfl ?_
      refine x_iload hM d_Wo_pack_32 0 rfl ?_
      obtain ⟨c6, S⟩ := S
      refine x_irem hM d_Wo_pack_34 c6 ?_
      refine x_iconst (v := 2) hM d_Wo_pack_35 (by decide) ?_
      refine x_iload hM d_Wo_pack_36 4 rfl ?_
      refine x_imul hM d_Wo_pack_38 ?_
      refine x_ishl hM d_Wo_pack_39 ?_
      refine x_ior hM d_Wo_pack_40 ?_
      refine x_istore_n (lv2 := [(3, .int (v3 ||| ((v2 - v2 / (iR ρ (30, 3, 0) (Int32.toNatClampNeg v4)) * (iR ρ (30, 3, 0) (Int32.toNatClampNeg v4))) <<< ((2 * v4) &&& 31)))), (5, .int (iR ρ (30, 3, 0) (Int32.toNatClampNeg v4))), (0, .ref (ad (1, 0, 0))), (2, .int v2), (4, .int v4)]) hM d_Wo_pack_41 rfl (Nat.le_of_ble_eq_true rfl) rfl ?_
      refine x_iload_n hM d_Wo_pack_42 rfl 3 rfl ?_
      refine x_iload hM d_Wo_pack_43 1 rfl ?_
      have c7 := S
      refine x_idiv hM d_Wo_pack_45 c7 ?_
      refine x_istore_n (lv2 := [(2, .int (v2 / (iR ρ (30, 3, 0) (Int32.toNatClampNeg v4)))), (3, .int (v3 ||| ((v2 - v2 / (iR ρ (30, 3, 0) (Int32.toNatClampNeg v4)) * (iR ρ (30, 3, 0) (Int32.toNatClampNeg v4))) <<< ((2 * v4) &&& 31)))), (5, .int (iR ρ (30, 3, 0) (Int32.toNatClampNeg v4))), (0, .ref (ad (1, 0, 0))), (4, .int v4)]) hM d_Wo_pack_46 rfl (Nat.le_of_ble_eq_true rfl) rfl ?_
      refine x_sub [3, 0, 1, 4] rfl ?_
      exact JJ _ (Eq.symm (if_neg q5)) _ (Eq.symm (if_neg q5))
set_option maxRecDepth 100000 in
set_option maxHeartbeats 4000000 in
theorem T_Wo_after_0 {G : Gc} {M : Mc} {Q : State → Prop} {ad0 : Ro → Nat} {K : (Ro → Nat) → Option Value → Rs → Prop} (hG : gok G) (hM : mok G M r_Wo_after Q (KV G [] ad0 K)) (i1 j1 : Nat) (hc1 : okC i1 j1) (v2 : Int32) (v3 : Int32) (ρ : Rs) (F : Y G [] ad0 M Q 6 (fun ad => [(0, .ref (ad (1, 0, 0))), (1, .ref (ad (10, i1, j1))), (3, .int v3), (4, .int v2), (5, .int 0)]) (fun ad => []) ρ) : Y G [] ad0 M Q 0 (fun ad => [(0, .ref (ad (1, 0, 0))), (1, .ref (ad (10, i1, j1))), (2, .int v2), (3, .int v3)]) (fun ad => []) ρ := by
  intro ad h hSt V
  show X G M Q 0 [(0, .ref (ad (1, 0, 0))), (1, .ref (ad (10, i1, j1))), (2, .int v2), (3, .int v3)] [] h
  refine x_iload_n hM d_Wo_after_0 rfl 2 rfl ?_
  refine x_istore (lv2 := [(4, .int v2), (0, .ref (ad (1, 0, 0))), (1, .ref (ad (10, i1, j1))), (2, .int v2), (3, .int v3)]) hM d_Wo_after_1 (Nat.le_of_ble_eq_true rfl) rfl ?_
  refine x_iconst (v := 0) hM d_Wo_after_3 (by decide) ?_
  refine x_istore (lv2 := [(5, .int 0), (4, .int v2), (0, .ref (ad (1, 0, 0))), (1, .ref (ad (10, i1, j1))), (2, .int v2), (3, .int v3)]) hM d_Wo_after_4 (Nat.le_of_ble_eq_true rfl) rfl ?_
  refine x_sub [2, 3, 5, 1, 0] rfl ?_
  exact F _ _ hSt V
set_option maxRecDepth 100000 in
set_option maxHeartbeats 4000000 in
theorem T_Wo_after_6 {G : Gc} {M : Mc} {Q : State → Prop} {ad0 : Ro → Nat} {K : (Ro → Nat) → Option Value → Rs → Prop} (hG : gok G) (hM : mok G M r_Wo_after Q (KV G [] ad0 K)) (i1 j1 : Nat) (hc1 : okC i1 j1) (v3 : Int32) (v4 : Int32) (v5 : Int32) (ρ : Rs) (F : ((iR ρ (10, i1, j1) 0) ≤ v5 → (∀ ad, K ad (some (.int v4)) ρ)) ∧ (¬ (iR ρ (10, i1, j1) 0) ≤ v5 → (semV G r_Cl_isLastOfItsThing [] (fun ad => [.ref (ad (10, i1, j1)), .int v5]) ρ (fun ad u2 ρ1 => ∃ x4 : Int32, u2 = some (.int x4) ∧ ((x4 = 0 → (Y G [] ad0 M Q 6 (fun ad => [(0, .ref (ad (1, 0, 0))), (1, .ref (ad (10, i1, j1))), (3, .int v3), (4, .int v4), (5, .int (v5 + 1))]) (fun ad => []) ρ1)) ∧ (¬ x4 = 0 → (vp_in v5 4 ∧ (vp_in (iR ρ1 (11, i1, j1) (Int32.toNatClampNeg v5)) 8 ∧ (semV G r_Wo_newValue [] (fun ad => [.ref (ad (1, 0, 0)), .ref (ad (10, i1, j1)), .int v5, .int v3]) ρ1 (fun ad u10 ρ9 => ∃ x12 : Int32, u10 = some (.int x12) ∧ (semV G r_WP_valueIn [] (fun ad => [.int v3, .int (iR ρ1 (11, i1, j1) (Int32.toNatClampNeg v5))]) ρ9 (fun ad u14 ρ13 => ∃ x16 : Int32, u14 = some (.int x16) ∧ (Y G [] ad0 M Q 6 (fun ad => [(0, .ref (ad (1, 0, 0))), (1, .ref (ad (10, i1, j1))), (3, .int v3), (4, .int (v4 + ((iR ρ1 (30, 4, 0) (Int32.toNatClampNeg (iR ρ1 (11, i1, j1) (Int32.toNatClampNeg v5)))) * (x12 - x16)))), (5, .int (v5 + 1))]) (fun ad => []) ρ13))))))))))))) : Y G [] ad0 M Q 6 (fun ad => [(0, .ref (ad (1, 0, 0))), (1, .ref (ad (10, i1, j1))), (3, .int v3), (4, .int v4), (5, .int v5)]) (fun ad => []) ρ := by
  intro ad h hSt V
  show X G M Q 6 [(0, .ref (ad (1, 0, 0))), (1, .ref (ad (10, i1, j1))), (3, .int v3), (4, .int v4), (5, .int v5)] [] h
  refine x_iload hM d_Wo_after_6 4 rfl ?_
  refine x_aload_n hM d_Wo_after_8 rfl 1 rfl ?_
  refine y_geti hG hM V ck_Cl 0 (Nat.le_of_ble_eq_true rfl) rfl rfl w_47 rfl d_Wo_after_9 (10, i1, j1) (ok_cl hc1) rfl ?_
  refine x_icmp_ge (tgt := 67) hM d_Wo_after_12 (by decide) (fun q21 => ?_) (fun q21 => ?_)
  · replace F := F.1 q21
    refine x_iload hM d_Wo_after_67 3 rfl ?_
    exact x_ireturn hM d_Wo_after_69 rfl (y_end V hSt (F _))
  · replace F := F.2 q21
    refine x_aload_n hM d_Wo_after_15 rfl 1 rfl ?_
    refine x_iload hM d_Wo_after_16 4 rfl ?_
    refine x_callV hG hM (r' := r_Cl_isLastOfItsThing) (ci := 4) [.int v5] rfl rfl (Nat.le_of_ble_eq_true rfl) yk_Cl_isLastOfItsThing ⟨Nat.le_of_ble_eq_true rfl, Nat.le_of_ble_eq_true rfl⟩ w_564 w_565 w_566 rfl rfl (Nat.le_of_ble_eq_true rfl) d_Wo_after_18 (by rw [vT V (ok_cl hc1)]; rfl) (sem_mono (F _ _ V) ?_)
    intro u2 h F
    obtain ⟨ad20, ρ1, V, hs3, F⟩ := F
    obtain ⟨x4, rfl, F⟩ := F
    have hs3 := (St_eq hs3).symm
    subst hs3
    refine x_if_eq (tgt := 61) hM d_Wo_after_21 (by decide) (fun q19 => ?_) (fun q19 => ?_)
    · replace F := F.1 q19
      refine x_iinc (v := (v5 + 1)) (lv2 := [(5, .int (v5 + 1)), (0, .ref (ad (1, 0, 0))), (1, .ref (ad (10, i1, j1))), (3, .int v3), (4, .int v4)]) hM d_Wo_after_61 (j := 4) rfl rfl (Nat.le_of_ble_eq_true rfl) rfl ?_
      refine x_goto (tgt := 6) hM d_Wo_after_64 (by decide) ?_
      refine x_sub [1, 2, 3, 4, 0] rfl ?_
      exact F _ _ hSt V
    · replace F := F.2 q19
      refine x_aload_n hM d_Wo_after_24 rfl 1 rfl ?_
      refine y_getr hG hM V ck_Cl 1 (Nat.le_of_ble_eq_true rfl) rfl rfl w_49 rfl d_Wo_after_25 (10, i1, j1) (11, i1, j1) (ok_cl hc1) rfl rfl ?_
      refine x_iload hM d_Wo_after_28 4 rfl ?_
      obtain ⟨c7, F⟩ := F
      refine y_iaload hG hM V d_Wo_after_30 (11, i1, j1) (ok_c1 hc1) rfl (by rw [vlen V (r := (11, i1, j1)) (ok_c1 hc1) rfl]; exact c7) ?_
      refine x_istore (lv2 := [(6, .int (iR ρ1 (11, i1, j1) (Int32.toNatClampNeg v5))), (0, .ref (ad (1, 0, 0))), (1, .ref (ad (10, i1, j1))), (3, .int v3), (4, .int v4), (5, .int v5)]) hM d_Wo_after_31 (Nat.le_of_ble_eq_true rfl) rfl ?_
      refine x_iload hM d_Wo_after_33 4 rfl ?_
      refine x_aload_n hM d_Wo_after_35 rfl 1 rfl ?_
      refine y_getr hG hM V ck_Wo 4 (Nat.le_of_ble_eq_true rfl) rfl rfl w_142 rfl d_Wo_after_36 (1, 0, 0) (30, 4, 0) rfl rfl rfl ?_
      refine x_iload hM d_Wo_after_39 0 rfl ?_
      obtain ⟨c8, F⟩ := F
      refine y_iaload hG hM V d_Wo_after_41 (30, 4, 0) rfl rfl (by rw [vlen V (r := (30, 4, 0)) rfl rfl]; exact c8) ?_
      refine x_aload_n hM d_Wo_after_42 rfl 1 rfl ?_
      refine x_aload_n hM d_Wo_after_43 rfl 2 rfl ?_
      refine x_iload hM d_Wo_after_44 5 rfl ?_
      refine x_iload_n hM d_Wo_after_46 rfl 3 rfl ?_
      refine x_callV hG hM (r' := r_Wo_newValue) (ci := 1) [.ref (ad (10, i1, j1)), .int v5, .int v3] rfl rfl (Nat.le_of_ble_eq_true rfl) yk_Wo_newValue ⟨Nat.le_of_ble_eq_true rfl, Nat.le_of_ble_eq_true rfl⟩ w_568 w_570 ws_Wo_newValue rfl rfl (Nat.le_of_ble_eq_true rfl) d_Wo_after_47 (by rw [vT V rfl]; rfl) (sem_mono (F _ _ V) ?_)
      intro u10 h F
      obtain ⟨ad18, ρ9, V, hs11, F⟩ := F
      obtain ⟨x12, rfl, F⟩ := F
      have hs11 := (St_eq hs11).symm
      subst hs11
      refine x_iload_n hM d_Wo_after_50 rfl 3 rfl ?_
      refine x_iload hM d_Wo_after_51 0 rfl ?_
      refine x_callSN hG hM (r' := r_WP_valueIn) [.int v3, .int (iR ρ1 (11, i1, j1) (Int32.toNatClampNeg v5))] rfl yk_WP_valueIn ⟨Nat.le_of_ble_eq_true rfl, Nat.le_of_ble_eq_true rfl⟩ w_572 w_558 rfl rfl (Nat.le_of_ble_eq_true rfl) d_Wo_after_53 (sem_mono (F _ _ V) ?_)
      intro u14 h F
      obtain ⟨ad17, ρ13, V, hs15, F⟩ := F
      obtain ⟨x16, rfl, F⟩ := F
      have hs15 := (St_eq hs15).symm
      subst hs15
      refine x_isub hM d_Wo_after_56 ?_
      refine x_imul hM d_Wo_after_57 ?_
      refine x_iadd hM d_Wo_after_58 ?_
      refine x_istore (lv2 := [(4, .int (v4 + ((iR ρ1 (30, 4, 0) (Int32.toNatClampNeg (iR ρ1 (11, i1, j1) (Int32.toNatClampNeg v5)))) * (x12 - x16)))), (6, .int (iR ρ1 (11, i1, j1) (Int32.toNatClampNeg v5))), (0, .ref (ad (1, 0, 0))), (1, .ref (ad (10, i1, j1))), (3, .int v3), (5, .int v5)]) hM d_Wo_after_59 (Nat.le_of_ble_eq_true rfl) rfl ?_
      refine x_iinc (v := (v5 + 1)) (lv2 := [(5, .int (v5 + 1)), (4, .int (v4 + ((iR ρ1 (30, 4, 0) (Int32.toNatClampNeg (iR ρ1 (11, i1, j1) (Int32.toNatClampNeg v5)))) * (x12 - x16)))), (6, .int (iR ρ1 (11, i1, j1) (Int32.toNatClampNeg v5))), (0, .ref (ad (1, 0, 0))), (1, .ref (ad (10, i1, j1))), (3, .int v3)]) hM d_Wo_after_61 (j := 5) rfl rfl (Nat.le_of_ble_eq_true rfl) rfl ?_
      refine x_goto (tgt := 6) hM d_Wo_after_64 (by decide) ?_
      refine x_sub [3, 4, 5, 1, 0] rfl ?_
      exact F _ _ hSt V
set_option maxRecDepth 100000 in
set_option maxHeartbeats 4000000 in
theorem T_Wo_newValue_0 {G : Gc} {M : Mc} {Q : State → Prop} {ad0 : Ro → Nat} {K : (Ro → Nat) → Option Value → Rs → Prop} (hG : gok G) (hM : mok G M r_Wo_newValue Q (KV G [] ad0 K)) (i1 j1 : Nat) (hc1 : okC i1 j1) (v2 : Int32) (v3 : Int32) (ρ : Rs) (F : vp_in v2 4 ∧ (vp_in v2 4 ∧ (vp_in v2 4 ∧ (((iR ρ (12, i1, j1) (Int32.toNatClampNeg v2)) = 1 → (semV G r_WP_valueIn [] (fun ad => [.int v3, .int (iR ρ (13, i1, j1) (Int32.toNatClampNeg v2))]) ρ (fun ad u13 ρ12 => ∃ x15 : Int32, u13 = some (.int x15) ∧ (Y G [] ad0 M Q 62 (fun ad => [(0, .ref (ad (1, 0, 0))), (4, .int (iR ρ (11, i1, j1) (Int32.toNatClampNeg v2))), (6, .int x15)]) (fun ad => []) ρ12)))) ∧ (¬ (iR ρ (12, i1, j1) (Int32.toNatClampNeg v2)) = 1 → (vp_in v2 4 ∧ (((iR ρ (12, i1, j1) (Int32.toNatClampNeg v2)) = 2 → (semV G r_WP_valueIn [] (fun ad => [.int v3, .int (iR ρ (11, i1, j1) (Int32.toNatClampNeg v2))]) ρ (fun ad u7 ρ6 => ∃ x9 : Int32, u7 = some (.int x9) ∧ (Y G [] ad0 M Q 62 (fun ad => [(0, .ref (ad (1, 0, 0))), (4, .int (iR ρ (11, i1, j1) (Int32.toNatClampNeg v2))), (6, .int (x9 + (iR ρ (13, i1, j1) (Int32.toNatClampNeg v2))))]) (fun ad => []) ρ6)))) ∧ (¬ (iR ρ (12, i1, j1) (Int32.toNatClampNeg v2)) = 2 → (Y G [] ad0 M Q 62 (fun ad => [(0, .ref (ad (1, 0, 0))), (4, .int (iR ρ (11, i1, j1) (Int32.toNatClampNeg v2))), (6, .int (iR ρ (13, i1, j1) (Int32.toNatClampNeg v2)))]) (fun ad => []) ρ))))))))) : Y G [] ad0 M Q 0 (fun ad => [(0, .ref (ad (1, 0, 0))), (1, .ref (ad (10, i1, j1))), (2, .int v2), (3, .int v3)]) (fun ad => []) ρ := by
  intro ad h hSt V
  show X G M Q 0 [(0, .ref (ad (1, 0, 0))), (1, .ref (ad (10, i1, j1))), (2, .int v2), (3, .int v3)] [] h
  refine x_aload_n hM d_Wo_newValue_0 rfl 1 rfl ?_
  refine y_getr hG hM V ck_Cl 1 (Nat.le_of_ble_eq_true rfl) rfl rfl w_49 rfl d_Wo_newValue_1 (10, i1, j1) (11, i1, j1) (ok_cl hc1) rfl rfl ?_
  refine x_iload_n hM d_Wo_newValue_4 rfl 2 rfl ?_
  obtain ⟨c1, F⟩ := F
  refine y_iaload hG hM V d_Wo_newValue_5 (11, i1, j1) (ok_c1 hc1) rfl (by rw [vlen V (r := (11, i1, j1)) (ok_c1 hc1) rfl]; exact c1) ?_
  refine x_istore (lv2 := [(4, .int (iR ρ (11, i1, j1) (Int32.toNatClampNeg v2))), (0, .ref (ad (1, 0, 0))), (1, .ref (ad (10, i1, j1))), (2, .int v2), (3, .int v3)]) hM d_Wo_newValue_6 (Nat.le_of_ble_eq_true rfl) rfl ?_
  refine x_aload_n hM d_Wo_newValue_8 rfl 2 rfl ?_
  refine y_getr hG hM V ck_Cl 3 (Nat.le_of_ble_eq_true rfl) rfl rfl w_53 rfl d_Wo_newValue_9 (10, i1, j1) (13, i1, j1) (ok_cl hc1) rfl rfl ?_
  refine x_iload_n hM d_Wo_newValue_12 rfl 3 rfl ?_
  obtain ⟨c2, F⟩ := F
  refine y_iaload hG hM V d_Wo_newValue_13 (13, i1, j1) (ok_c3 hc1) rfl (by rw [vlen V (r := (13, i1, j1)) (ok_c3 hc1) rfl]; exact c2) ?_
  refine x_istore (lv2 := [(5, .int (iR ρ (13, i1, j1) (Int32.toNatClampNeg v2))), (4, .int (iR ρ (11, i1, j1) (Int32.toNatClampNeg v2))), (0, .ref (ad (1, 0, 0))), (1, .ref (ad (10, i1, j1))), (2, .int v2), (3, .int v3)]) hM d_Wo_newValue_14 (Nat.le_of_ble_eq_true rfl) rfl ?_
  refine x_iload hM d_Wo_newValue_16 0 rfl ?_
  refine x_istore (lv2 := [(6, .int (iR ρ (13, i1, j1) (Int32.toNatClampNeg v2))), (5, .int (iR ρ (13, i1, j1) (Int32.toNatClampNeg v2))), (4, .int (iR ρ (11, i1, j1) (Int32.toNatClampNeg v2))), (0, .ref (ad (1, 0, 0))), (1, .ref (ad (10, i1, j1))), (2, .int v2), (3, .int v3)]) hM d_Wo_newValue_18 (Nat.le_of_ble_eq_true rfl) rfl ?_
  refine x_aload_n hM d_Wo_newValue_20 rfl 4 rfl ?_
  refine y_getr hG hM V ck_Cl 2 (Nat.le_of_ble_eq_true rfl) rfl rfl w_51 rfl d_Wo_newValue_21 (10, i1, j1) (12, i1, j1) (ok_cl hc1) rfl rfl ?_
  refine x_iload_n hM d_Wo_newValue_24 rfl 5 rfl ?_
  obtain ⟨c3, F⟩ := F
  refine y_iaload hG hM V d_Wo_newValue_25 (12, i1, j1) (ok_c2 hc1) rfl (by rw [vlen V (r := (12, i1, j1)) (ok_c2 hc1) rfl]; exact c3) ?_
  refine x_iconst (v := 1) hM d_Wo_newValue_26 (by decide) ?_
  refine x_icmp_ne (tgt := 41) hM d_Wo_newValue_27 (by decide) (fun q17 => ?_) (fun q17 => ?_)
  · replace F := F.2 q17
    refine x_aload_n hM d_Wo_newValue_41 rfl 4 rfl ?_
    refine y_getr hG hM V ck_Cl 2 (Nat.le_of_ble_eq_true rfl) rfl rfl w_51 rfl d_Wo_newValue_42 (10, i1, j1) (12, i1, j1) (ok_cl hc1) rfl rfl ?_
    refine x_iload_n hM d_Wo_newValue_45 rfl 5 rfl ?_
    obtain ⟨c5, F⟩ := F
    refine y_iaload hG hM V d_Wo_newValue_46 (12, i1, j1) (ok_c2 hc1) rfl (by rw [vlen V (r := (12, i1, j1)) (ok_c2 hc1) rfl]; exact c5) ?_
    refine x_iconst (v := 2) hM d_Wo_newValue_47 (by decide) ?_
    refine x_icmp_ne (tgt := 62) hM d_Wo_newValue_48 (by decide) (fun q11 => ?_) (fun q11 => ?_)
    · replace F := F.2 q11
      refine x_sub [3, 2, 0] rfl ?_
      exact F _ _ hSt V
    · replace F := F.1 q11
      refine x_iload_n hM d_Wo_newValue_51 rfl 6 rfl ?_
      refine x_iload hM d_Wo_newValue_52 2 rfl ?_
      refine x_callSN hG hM (r' := r_WP_valueIn) [.int v3, .int (iR ρ (11, i1, j1) (Int32.toNatClampNeg v2))] rfl yk_WP_valueIn ⟨Nat.le_of_ble_eq_true rfl, Nat.le_of_ble_eq_true rfl⟩ w_572 w_558 rfl rfl (Nat.le_of_ble_eq_true rfl) d_Wo_newValue_54 (sem_mono (F _ _ V) ?_)
      intro u7 h F
      obtain ⟨ad10, ρ6, V, hs8, F⟩ := F
      obtain ⟨x9, rfl, F⟩ := F
      have hs8 := (St_eq hs8).symm
      subst hs8
      refine x_iload hM d_Wo_newValue_57 1 rfl ?_
      refine x_iadd hM d_Wo_newValue_59 ?_
      refine x_istore (lv2 := [(6, .int (x9 + (iR ρ (13, i1, j1) (Int32.toNatClampNeg v2)))), (5, .int (iR ρ (13, i1, j1) (Int32.toNatClampNeg v2))), (4, .int (iR ρ (11, i1, j1) (Int32.toNatClampNeg v2))), (0, .ref (ad (1, 0, 0))), (1, .ref (ad (10, i1, j1))), (2, .int v2), (3, .int v3)]) hM d_Wo_newValue_60 (Nat.le_of_ble_eq_true rfl) rfl ?_
      refine x_sub [3, 2, 0] rfl ?_
      exact F _ _ hSt V
  · replace F := F.1 q17
    refine x_iload_n hM d_Wo_newValue_30 rfl 6 rfl ?_
    refine x_iload hM d_Wo_newValue_31 1 rfl ?_
    refine x_callSN hG hM (r' := r_WP_valueIn) [.int v3, .int (iR ρ (13, i1, j1) (Int32.toNatClampNeg v2))] rfl yk_WP_valueIn ⟨Nat.le_of_ble_eq_true rfl, Nat.le_of_ble_eq_true rfl⟩ w_572 w_558 rfl rfl (Nat.le_of_ble_eq_true rfl) d_Wo_newValue_33 (sem_mono (F _ _ V) ?_)
    intro u13 h F
    obtain ⟨ad16, ρ12, V, hs14, F⟩ := F
    obtain ⟨x15, rfl, F⟩ := F
    have hs14 := (St_eq hs14).symm
    subst hs14
    refine x_istore (lv2 := [(6, .int x15), (5, .int (iR ρ (13, i1, j1) (Int32.toNatClampNeg v2))), (4, .int (iR ρ (11, i1, j1) (Int32.toNatClampNeg v2))), (0, .ref (ad (1, 0, 0))), (1, .ref (ad (10, i1, j1))), (2, .int v2), (3, .int v3)]) hM d_Wo_newValue_36 (Nat.le_of_ble_eq_true rfl) rfl ?_
    refine x_goto (tgt := 62) hM d_Wo_newValue_38 (by decide) ?_
    refine x_sub [3, 2, 0] rfl ?_
    exact F _ _ hSt V
set_option maxRecDepth 100000 in
set_option maxHeartbeats 4000000 in
theorem T_Wo_newValue_62 {G : Gc} {M : Mc} {Q : State → Prop} {ad0 : Ro → Nat} {K : (Ro → Nat) → Option Value → Rs → Prop} (hG : gok G) (hM : mok G M r_Wo_newValue Q (KV G [] ad0 K)) (v4 : Int32) (v6 : Int32) (ρ : Rs) (F : vp_in v4 8 ∧ ((¬ (iR ρ (30, 3, 0) (Int32.toNatClampNeg v4)) ≤ 0 → ¬ (iR ρ (30, 3, 0) (Int32.toNatClampNeg v4)) = 0) ∧ (∀ z2 : Int32, z2 = (if (iR ρ (30, 3, 0) (Int32.toNatClampNeg v4)) ≤ 0 then 0 else (v6 - v6 / (iR ρ (30, 3, 0) (Int32.toNatClampNeg v4)) * (iR ρ (30, 3, 0) (Int32.toNatClampNeg v4)))) → (∀ ad, K ad (some (.int z2)) ρ)))) : Y G [] ad0 M Q 62 (fun ad => [(0, .ref (ad (1, 0, 0))), (4, .int v4), (6, .int v6)]) (fun ad => []) ρ := by
  intro ad h hSt V
  show X G M Q 62 [(0, .ref (ad (1, 0, 0))), (4, .int v4), (6, .int v6)] [] h
  refine x_aload_n hM d_Wo_newValue_62 rfl 0 rfl ?_
  refine y_getr hG hM V ck_Wo 3 (Nat.le_of_ble_eq_true rfl) rfl rfl w_140 rfl d_Wo_newValue_63 (1, 0, 0) (30, 3, 0) rfl rfl rfl ?_
  refine x_iload hM d_Wo_newValue_66 1 rfl ?_
  obtain ⟨c1, F⟩ := F
  refine y_iaload hG hM V d_Wo_newValue_68 (30, 3, 0) rfl rfl (by rw [vlen V (r := (30, 3, 0)) rfl rfl]; exact c1) ?_
  refine x_istore (lv2 := [(7, .int (iR ρ (30, 3, 0) (Int32.toNatClampNeg v4))), (0, .ref (ad (1, 0, 0))), (4, .int v4), (6, .int v6)]) hM d_Wo_newValue_69 (Nat.le_of_ble_eq_true rfl) rfl ?_
  refine x_iload hM d_Wo_newValue_71 0 rfl ?_
  obtain ⟨S, F⟩ := F
  have JJ : ∀ (z2 : Int32) (ez2 : z2 = (if (iR ρ (30, 3, 0) (Int32.toNatClampNeg v4)) ≤ 0 then 0 else (v6 - v6 / (iR ρ (30, 3, 0) (Int32.toNatClampNeg v4)) * (iR ρ (30, 3, 0) (Int32.toNatClampNeg v4))))), X G M Q 85 [] [.int z2] h := by
    intro z2 ez2
    replace F := F _ ez2
    exact x_ireturn hM d_Wo_newValue_85 rfl (y_end V hSt (F _))
  refine x_if_le (tgt := 84) hM d_Wo_newValue_73 (by decide) (fun q3 => ?_) (fun q3 => ?_)
  · refine x_iconst (v := 0) hM d_Wo_newValue_84 (by decide) ?_
    refine x_sub [] rfl ?_
    exact JJ _ (Eq.symm (if_pos q3))
  · replace S := S q3
    refine x_iload hM d_Wo_newValue_76 3 rfl ?_
    refine x_iload hM d_Wo_newValue_78 0 rfl ?_
    have c4 := S
    refine x_irem hM d_Wo_newValue_80 c4 ?_
    refine x_goto (tgt := 85) hM d_Wo_newValue_81 (by decide) ?_
    refine x_sub [] rfl ?_
    exact JJ _ (Eq.symm (if_neg q3))
set_option maxRecDepth 100000 in
set_option maxHeartbeats 4000000 in
theorem T_Wo_prepare_0 {G : Gc} {M : Mc} {Q : State → Prop} {ad0 : Ro → Nat} {K : (Ro → Nat) → Option Value → Rs → Prop} (hG : gok G) (hM : mok G M r_Wo_prepare Q (KV G [23, 24, 30] ad0 K))  (ρ : Rs) (F : ((iR ρ (1, 0, 0) 9) = 0 → (((iR ρ (1, 0, 0) 8) = 0 → (semV G r_Wo_fillPacked [30] (fun ad => [.ref (ad (1, 0, 0))]) ρ (fun ad u2 ρ1 => u2 = none ∧ (Y G [23, 24, 30] ad0 M Q 21 (fun ad => [(0, .ref (ad (1, 0, 0))), (1, .int 0)]) (fun ad => []) ρ1)))) ∧ (¬ (iR ρ (1, 0, 0) 8) = 0 → (Y G [23, 24, 30] ad0 M Q 21 (fun ad => [(0, .ref (ad (1, 0, 0))), (1, .int 0)]) (fun ad => []) ρ)))) ∧ (¬ (iR ρ (1, 0, 0) 9) = 0 → (∀ ad, K ad none ρ))) : Y G [23, 24, 30] ad0 M Q 0 (fun ad => [(0, .ref (ad (1, 0, 0)))]) (fun ad => []) ρ := by
  intro ad h hSt V
  show X G M Q 0 [(0, .ref (ad (1, 0, 0)))] [] h
  refine x_aload_n hM d_Wo_prepare_0 rfl 0 rfl ?_
  refine y_geti hG hM V ck_Wo 9 (Nat.le_of_ble_eq_true rfl) rfl rfl w_160 rfl d_Wo_prepare_1 (1, 0, 0) rfl rfl ?_
  refine x_if_eq (tgt := 8) hM d_Wo_prepare_4 (by decide) (fun q6 => ?_) (fun q6 => ?_)
  · replace F := F.1 q6
    refine x_aload_n hM d_Wo_prepare_8 rfl 0 rfl ?_
    refine y_geti hG hM V ck_Wo 8 (Nat.le_of_ble_eq_true rfl) rfl rfl w_159 rfl d_Wo_prepare_9 (1, 0, 0) rfl rfl ?_
    refine x_if_ne (tgt := 19) hM d_Wo_prepare_12 (by decide) (fun q5 => ?_) (fun q5 => ?_)
    · replace F := F.2 q5
      refine x_iconst (v := 0) hM d_Wo_prepare_19 (by decide) ?_
      refine x_istore_n (lv2 := [(1, .int 0), (0, .ref (ad (1, 0, 0)))]) hM d_Wo_prepare_20 rfl (Nat.le_of_ble_eq_true rfl) rfl ?_
      refine x_sub [1, 0] rfl ?_
      exact F _ _ hSt V
    · replace F := F.1 q5
      refine x_aload_n hM d_Wo_prepare_15 rfl 0 rfl ?_
      refine x_callV hG hM (r' := r_Wo_fillPacked) (ci := 1) [] rfl rfl (Nat.le_of_ble_eq_true rfl) yk_Wo_fillPacked ⟨Nat.le_of_ble_eq_true rfl, Nat.le_of_ble_eq_true rfl⟩ w_581 w_583 ws_Wo_fillPacked rfl rfl (Nat.le_of_ble_eq_true rfl) d_Wo_prepare_16 (by rw [vT V rfl]; rfl) (sem_mono (F _ _ V) ?_)
      intro u2 h F
      obtain ⟨ad4, ρ1, V, hs3, F⟩ := F
      obtain ⟨rfl, F⟩ := F
      have ea0 : ad4 (1, 0, 0) = ad (1, 0, 0) := hs3 _ (Or.inr rfl)
      rw [← ea0]
      replace hSt := St_tr hSt (St_mono (mv' := [30]) (by decide) hs3)
      refine x_iconst (v := 0) hM d_Wo_prepare_19 (by decide) ?_
      refine x_istore_n (lv2 := [(1, .int 0), (0, .ref (ad4 (1, 0, 0)))]) hM d_Wo_prepare_20 rfl (Nat.le_of_ble_eq_true rfl) rfl ?_
      refine x_sub [1, 0] rfl ?_
      exact F _ _ hSt V
  · replace F := F.2 q6
    exact x_return hM d_Wo_prepare_7 rfl (y_end V hSt (F _))
set_option maxRecDepth 100000 in
set_option maxHeartbeats 4000000 in
theorem T_Wo_prepare_21 {G : Gc} {M : Mc} {Q : State → Prop} {ad0 : Ro → Nat} {K : (Ro → Nat) → Option Value → Rs → Prop} (hG : gok G) (hM : mok G M r_Wo_prepare Q (KV G [23, 24, 30] ad0 K)) (v1 : Int32) (ρ : Rs) (F : ((iR ρ (1, 0, 0) 2) ≤ v1 → (semV G r_Wo_linkBack [] (fun ad => [.ref (ad (1, 0, 0))]) ρ (fun ad u3 ρ2 => u3 = none ∧ (∀ ρ5 : Rs, ρ5 = pI ρ2 (1, 0, 0) 9 1 → (∀ ad, K ad none ρ5))))) ∧ (¬ (iR ρ (1, 0, 0) 2) ≤ v1 → (vp_in v1 12 ∧ (((iR ρ (20, (Int32.toNatClampNeg v1), 0) 3) = 0 → (vp_in v1 12 ∧ (semV G r_Ac_fillRows [23, 24] (fun ad => [.ref (ad (20, (Int32.toNatClampNeg v1), 0)), .ref (ad (1, 0, 0))]) ρ (fun ad u11 ρ10 => u11 = none ∧ (Y G [23, 24, 30] ad0 M Q 21 (fun ad => [(0, .ref (ad (1, 0, 0))), (1, .int (v1 + 1))]) (fun ad => []) ρ10))))) ∧ (¬ (iR ρ (20, (Int32.toNatClampNeg v1), 0) 3) = 0 → (Y G [23, 24, 30] ad0 M Q 21 (fun ad => [(0, .ref (ad (1, 0, 0))), (1, .int (v1 + 1))]) (fun ad => []) ρ)))))) : Y G [23, 24, 30] ad0 M Q 21 (fun ad => [(0, .ref (ad (1, 0, 0))), (1, .int v1)]) (fun ad => []) ρ := by
  intro ad h hSt V
  show X G M Q 21 [(0, .ref (ad (1, 0, 0))), (1, .int v1)] [] h
  refine x_iload_n hM d_Wo_prepare_21 rfl 1 rfl ?_
  refine x_aload_n hM d_Wo_prepare_22 rfl 0 rfl ?_
  refine y_geti hG hM V ck_Wo 2 (Nat.le_of_ble_eq_true rfl) rfl rfl w_133 rfl d_Wo_prepare_23 (1, 0, 0) rfl rfl ?_
  refine x_icmp_ge (tgt := 57) hM d_Wo_prepare_26 (by decide) (fun q15 => ?_) (fun q15 => ?_)
  · replace F := F.1 q15
    refine x_aload_n hM d_Wo_prepare_57 rfl 0 rfl ?_
    refine x_callV hG hM (r' := r_Wo_linkBack) (ci := 1) [] rfl rfl (Nat.le_of_ble_eq_true rfl) yk_Wo_linkBack ⟨Nat.le_of_ble_eq_true rfl, Nat.le_of_ble_eq_true rfl⟩ w_599 w_601 ws_Wo_linkBack rfl rfl (Nat.le_of_ble_eq_true rfl) d_Wo_prepare_58 (by rw [vT V rfl]; rfl) (sem_mono (F _ _ V) ?_)
    intro u3 h F
    obtain ⟨ad6, ρ2, V, hs4, F⟩ := F
    obtain ⟨rfl, F⟩ := F
    have hs4 := (St_eq hs4).symm
    subst hs4
    refine x_aload_n hM d_Wo_prepare_61 rfl 0 rfl ?_
    refine x_iconst (v := 1) hM d_Wo_prepare_62 (by decide) ?_
    obtain ⟨ρ5, eρ5⟩ : ∃ z : Rs, z = pI ρ2 (1, 0, 0) 9 1 := ⟨_, rfl⟩
    replace F := F ρ5 eρ5
    refine y_putz hG hM V ck_Wo 9 (Nat.le_of_ble_eq_true rfl) rfl rfl w_160 rfl d_Wo_prepare_63 rfl (1, 0, 0) rfl rfl (Or.inr rfl) (fun h V => ?_)
    rw [← eρ5] at V
    clear eρ5
    exact x_return hM d_Wo_prepare_66 rfl (y_end V hSt (F _))
  · replace F := F.2 q15
    refine x_aload_n hM d_Wo_prepare_29 rfl 0 rfl ?_
    refine y_getr hG hM V ck_Wo 5 (Nat.le_of_ble_eq_true rfl) rfl rfl w_143 rfl d_Wo_prepare_30 (1, 0, 0) (30, 5, 0) rfl rfl rfl ?_
    refine x_iload_n hM d_Wo_prepare_33 rfl 1 rfl ?_
    obtain ⟨c7, F⟩ := F
    refine y_acts hG hM V d_Wo_prepare_34 c7 ?_
    refine y_geti hG hM V ck_Ac 3 (Nat.le_of_ble_eq_true rfl) rfl rfl w_112 rfl d_Wo_prepare_35 (20, (Int32.toNatClampNeg v1), 0) (ok_ac (vp_lt c7)) rfl ?_
    refine x_if_ne (tgt := 51) hM d_Wo_prepare_38 (by decide) (fun q14 => ?_) (fun q14 => ?_)
    · replace F := F.2 q14
      refine x_iinc (v := (v1 + 1)) (lv2 := [(1, .int (v1 + 1)), (0, .ref (ad (1, 0, 0)))]) hM d_Wo_prepare_51 (j := 1) rfl rfl (Nat.le_of_ble_eq_true rfl) rfl ?_
      refine x_goto (tgt := 21) hM d_Wo_prepare_54 (by decide) ?_
      refine x_sub [1, 0] rfl ?_
      exact F _ _ hSt V
    · replace F := F.1 q14
      refine x_aload_n hM d_Wo_prepare_41 rfl 0 rfl ?_
      refine y_getr hG hM V ck_Wo 5 (Nat.le_of_ble_eq_true rfl) rfl rfl w_143 rfl d_Wo_prepare_42 (1, 0, 0) (30, 5, 0) rfl rfl rfl ?_
      refine x_iload_n hM d_Wo_prepare_45 rfl 1 rfl ?_
      obtain ⟨c9, F⟩ := F
      refine y_acts hG hM V d_Wo_prepare_46 c9 ?_
      refine x_aload_n hM d_Wo_prepare_47 rfl 0 rfl ?_
      refine x_callV hG hM (r' := r_Ac_fillRows) (ci := 2) [.ref (ad (1, 0, 0))] rfl rfl (Nat.le_of_ble_eq_true rfl) yk_Ac_fillRows ⟨Nat.le_of_ble_eq_true rfl, Nat.le_of_ble_eq_true rfl⟩ w_592 w_593 w_594 rfl rfl (Nat.le_of_ble_eq_true rfl) d_Wo_prepare_48 (by rw [vT V (ok_ac (vp_lt c9))]; rfl) (sem_mono (F _ _ V) ?_)
      intro u11 h F
      obtain ⟨ad13, ρ10, V, hs12, F⟩ := F
      obtain ⟨rfl, F⟩ := F
      have ea0 : ad13 (1, 0, 0) = ad (1, 0, 0) := hs12 _ (Or.inr rfl)
      rw [← ea0]
      replace hSt := St_tr hSt (St_mono (mv' := [23, 24]) (by decide) hs12)
      refine x_iinc (v := (v1 + 1)) (lv2 := [(1, .int (v1 + 1)), (0, .ref (ad13 (1, 0, 0)))]) hM d_Wo_prepare_51 (j := 1) rfl rfl (Nat.le_of_ble_eq_true rfl) rfl ?_
      refine x_goto (tgt := 21) hM d_Wo_prepare_54 (by decide) ?_
      refine x_sub [1, 0] rfl ?_
      exact F _ _ hSt V
