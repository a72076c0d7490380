set_option maxRecDepth 100000 in
set_option maxHeartbeats 4000000 in
theorem T_Ac_beginAnew_0 {G : Gc} {M : Mc} {Q : State → Prop} {ad0 : Ro → Nat} {K : (Ro → Nat) → Option Value → Rs → Prop} (hG : gok G) (hM : mok G M r_Ac_beginAnew Q (KV G [] ad0 K)) (a0 : Nat) (ha0 : a0 < 12) (ρ : Rs) (F : ∀ ρ1 : Rs, ρ1 = pI ρ (10, a0 + 2, 0) 0 0 → (vp_in 0 3 ∧ (∀ ρ3 : Rs, ρ3 = pI ρ1 (10, a0 + 2, (Int32.toNatClampNeg 0) + 1) 0 0 → (∀ ρ4 : Rs, ρ4 = pI ρ3 (20, a0, 0) 2 1 → (∀ ρ5 : Rs, ρ5 = pI ρ4 (20, a0, 0) 3 0 → (∀ ad, K ad none ρ5)))))) : Y G [] ad0 M Q 0 (fun ad => [(0, .ref (ad (20, a0, 0)))]) (fun ad => []) ρ := by
  intro ad h hSt V
  show X G M Q 0 [(0, .ref (ad (20, a0, 0)))] [] h
  refine x_aload_n hM d_Ac_beginAnew_0 rfl 0 rfl ?_
  refine y_getr hG hM V ck_Ac 0 (Nat.le_of_ble_eq_true rfl) rfl rfl w_94 rfl d_Ac_beginAnew_1 (20, a0, 0) (10, a0 + 2, 0) (ok_ac ha0) rfl rfl ?_
  refine x_iconst (v := 0) hM d_Ac_beginAnew_4 (by decide) ?_
  obtain ⟨ρ1, eρ1⟩ : ∃ z : Rs, z = pI ρ (10, a0 + 2, 0) 0 0 := ⟨_, rfl⟩
  replace F := F ρ1 eρ1
  refine y_puti hG hM V ck_Cl 0 (Nat.le_of_ble_eq_true rfl) rfl rfl w_44 rfl d_Ac_beginAnew_5 rfl (10, a0 + 2, 0) (ok_cl (okC_ac ha0)) rfl (fun h V => ?_)
  rw [← eρ1] at V
  clear eρ1
  refine x_aload_n hM d_Ac_beginAnew_8 rfl 0 rfl ?_
  refine y_getr hG hM V ck_Ac 1 (Nat.le_of_ble_eq_true rfl) rfl rfl w_96 rfl d_Ac_beginAnew_9 (20, a0, 0) (21, a0, 0) (ok_ac ha0) rfl rfl ?_
  refine x_iconst (v := 0) hM d_Ac_beginAnew_12 (by decide) ?_
  obtain ⟨c2, F⟩ := F
  refine y_outs hG hM V d_Ac_beginAnew_13 ha0 c2 ?_
  refine y_getr hG hM V ck_Ou 0 (Nat.le_of_ble_eq_true rfl) rfl rfl w_74 rfl d_Ac_beginAnew_14 (22, a0, (Int32.toNatClampNeg 0)) (10, a0 + 2, (Int32.toNatClampNeg 0) + 1) (ok_ou ha0 (vp_lt c2)) rfl rfl ?_
  refine x_iconst (v := 0) hM d_Ac_beginAnew_17 (by decide) ?_
  obtain ⟨ρ3, eρ3⟩ : ∃ z : Rs, z = pI ρ1 (10, a0 + 2, (Int32.toNatClampNeg 0) + 1) 0 0 := ⟨_, rfl⟩
  replace F := F ρ3 eρ3
  refine y_puti hG hM V ck_Cl 0 (Nat.le_of_ble_eq_true rfl) rfl rfl w_44 rfl d_Ac_beginAnew_18 rfl (10, a0 + 2, (Int32.toNatClampNeg 0) + 1) (ok_cl (okC_ou ha0 (vp_lt c2))) rfl (fun h V => ?_)
  rw [← eρ3] at V
  clear eρ3
  refine x_aload_n hM d_Ac_beginAnew_21 rfl 0 rfl ?_
  refine x_iconst (v := 1) hM d_Ac_beginAnew_22 (by decide) ?_
  obtain ⟨ρ4, eρ4⟩ : ∃ z : Rs, z = pI ρ3 (20, a0, 0) 2 1 := ⟨_, rfl⟩
  replace F := F ρ4 eρ4
  refine y_puti hG hM V ck_Ac 2 (Nat.le_of_ble_eq_true rfl) rfl rfl w_104 rfl d_Ac_beginAnew_23 rfl (20, a0, 0) (ok_ac ha0) rfl (fun h V => ?_)
  rw [← eρ4] at V
  clear eρ4
  refine x_aload_n hM d_Ac_beginAnew_26 rfl 0 rfl ?_
  refine x_iconst (v := 0) hM d_Ac_beginAnew_27 (by decide) ?_
  obtain ⟨ρ5, eρ5⟩ : ∃ z : Rs, z = pI ρ4 (20, a0, 0) 3 0 := ⟨_, rfl⟩
  replace F := F ρ5 eρ5
  refine y_putz hG hM V ck_Ac 3 (Nat.le_of_ble_eq_true rfl) rfl rfl w_111 rfl d_Ac_beginAnew_28 rfl (20, a0, 0) (ok_ac ha0) rfl (Or.inl rfl) (fun h V => ?_)
  rw [← eρ5] at V
  clear eρ5
  exact x_return hM d_Ac_beginAnew_31 rfl (y_end V hSt (F _))
set_option maxRecDepth 100000 in
set_option maxHeartbeats 4000000 in
theorem T_Ac_addOutcome_0 {G : Gc} {M : Mc} {Q : State → Prop} {ad0 : Ro → Nat} {K : (Ro → Nat) → Option Value → Rs → Prop} (hG : gok G) (hM : mok G M r_Ac_addOutcome Q (KV G [] ad0 K)) (a0 : Nat) (ha0 : a0 < 12) (ρ : Rs) (F : ((iR ρ (20, a0, 0) 2) < 3 → (vp_in (iR ρ (20, a0, 0) 2) 3 ∧ (∀ ρ2 : Rs, ρ2 = pI ρ (10, a0 + 2, (Int32.toNatClampNeg (iR ρ (20, a0, 0) 2)) + 1) 0 0 → (∀ ρ3 : Rs, ρ3 = pI ρ2 (20, a0, 0) 2 ((iR ρ2 (20, a0, 0) 2) + 1) → (∀ ad, K ad (some (.int ((iR ρ3 (20, a0, 0) 2) - 1))) ρ3))))) ∧ (¬ (iR ρ (20, a0, 0) 2) < 3 → (∀ ad, K ad (some (.int (-3))) ρ))) : Y G [] ad0 M Q 0 (fun ad => [(0, .ref (ad (20, a0, 0)))]) (fun ad => []) ρ := by
  intro ad h hSt V
  show X G M Q 0 [(0, .ref (ad (20, a0, 0)))] [] h
  refine x_aload_n hM d_Ac_addOutcome_0 rfl 0 rfl ?_
  refine y_geti hG hM V ck_Ac 2 (Nat.le_of_ble_eq_true rfl) rfl rfl w_104 rfl d_Ac_addOutcome_1 (20, a0, 0) (ok_ac ha0) rfl ?_
  refine x_iconst (v := 3) hM d_Ac_addOutcome_4 (by decide) ?_
  refine x_icmp_lt (tgt := 11) hM d_Ac_addOutcome_5 (by decide) (fun q4 => ?_) (fun q4 => ?_)
  · replace F := F.1 q4
    refine x_aload_n hM d_Ac_addOutcome_11 rfl 0 rfl ?_
    refine y_getr hG hM V ck_Ac 1 (Nat.le_of_ble_eq_true rfl) rfl rfl w_96 rfl d_Ac_addOutcome_12 (20, a0, 0) (21, a0, 0) (ok_ac ha0) rfl rfl ?_
    refine x_aload_n hM d_Ac_addOutcome_15 rfl 0 rfl ?_
    refine y_geti hG hM V ck_Ac 2 (Nat.le_of_ble_eq_true rfl) rfl rfl w_104 rfl d_Ac_addOutcome_16 (20, a0, 0) (ok_ac ha0) rfl ?_
    obtain ⟨c1, F⟩ := F
    refine y_outs hG hM V d_Ac_addOutcome_19 ha0 c1 ?_
    refine y_getr hG hM V ck_Ou 0 (Nat.le_of_ble_eq_true rfl) rfl rfl w_74 rfl d_Ac_addOutcome_20 (22, a0, (Int32.toNatClampNeg (iR ρ (20, a0, 0) 2))) (10, a0 + 2, (Int32.toNatClampNeg (iR ρ (20, a0, 0) 2)) + 1) (ok_ou ha0 (vp_lt c1)) rfl rfl ?_
    refine x_iconst (v := 0) hM d_Ac_addOutcome_23 (by decide) ?_
    obtain ⟨ρ2, eρ2⟩ : ∃ z : Rs, z = pI ρ (10, a0 + 2, (Int32.toNatClampNeg (iR ρ (20, a0, 0) 2)) + 1) 0 0 := ⟨_, rfl⟩
    replace F := F ρ2 eρ2
    refine y_puti hG hM V ck_Cl 0 (Nat.le_of_ble_eq_true rfl) rfl rfl w_44 rfl d_Ac_addOutcome_24 rfl (10, a0 + 2, (Int32.toNatClampNeg (iR ρ (20, a0, 0) 2)) + 1) (ok_cl (okC_ou ha0 (vp_lt c1))) rfl (fun h V => ?_)
    rw [← eρ2] at V
    clear eρ2
    refine x_aload_n hM d_Ac_addOutcome_27 rfl 0 rfl ?_
    refine x_dup hM d_Ac_addOutcome_28 rfl ?_
    refine y_geti hG hM V ck_Ac 2 (Nat.le_of_ble_eq_true rfl) rfl rfl w_104 rfl d_Ac_addOutcome_29 (20, a0, 0) (ok_ac ha0) rfl ?_
    refine x_iconst (v := 1) hM d_Ac_addOutcome_32 (by decide) ?_
    refine x_iadd hM d_Ac_addOutcome_33 ?_
    obtain ⟨ρ3, eρ3⟩ : ∃ z : Rs, z = pI ρ2 (20, a0, 0) 2 ((iR ρ2 (20, a0, 0) 2) + 1) := ⟨_, rfl⟩
    replace F := F ρ3 eρ3
    refine y_puti hG hM V ck_Ac 2 (Nat.le_of_ble_eq_true rfl) rfl rfl w_104 rfl d_Ac_addOutcome_34 rfl (20, a0, 0) (ok_ac ha0) rfl (fun h V => ?_)
    rw [← eρ3] at V
    clear eρ3
    refine x_aload_n hM d_Ac_addOutcome_37 rfl 0 rfl ?_
    refine y_geti hG hM V ck_Ac 2 (Nat.le_of_ble_eq_true rfl) rfl rfl w_104 rfl d_Ac_addOutcome_38 (20, a0, 0) (ok_ac ha0) rfl ?_
    refine x_iconst (v := 1) hM d_Ac_addOutcome_41 (by decide) ?_
    refine x_isub hM d_Ac_addOutcome_42 ?_
    exact x_ireturn hM d_Ac_addOutcome_43 rfl (y_end V hSt (F _))
  · replace F := F.2 q4
    refine x_bipush (v := (-3)) hM d_Ac_addOutcome_8 (by decide) ?_
    exact x_ireturn hM d_Ac_addOutcome_10 rfl (y_end V hSt (F _))
set_option maxRecDepth 100000 in
set_option maxHeartbeats 4000000 in
theorem T_Ac_fillRows_0 {G : Gc} {M : Mc} {Q : State → Prop} {ad0 : Ro → Nat} {K : (Ro → Nat) → Option Value → Rs → Prop} (hG : gok G) (hM : mok G M r_Ac_fillRows Q (KV G [23, 24] ad0 K)) (a0 : Nat) (ha0 : a0 < 12) (ρ : Rs) (F : Y G [23, 24] ad0 M Q 2 (fun ad => [(0, .ref (ad (20, a0, 0))), (1, .ref (ad (1, 0, 0))), (2, .int 0)]) (fun ad => []) ρ) : Y G [23, 24] ad0 M Q 0 (fun ad => [(0, .ref (ad (20, a0, 0))), (1, .ref (ad (1, 0, 0)))]) (fun ad => []) ρ := by
  intro ad h hSt V
  show X G M Q 0 [(0, .ref (ad (20, a0, 0))), (1, .ref (ad (1, 0, 0)))] [] h
  refine x_iconst (v := 0) hM d_Ac_fillRows_0 (by decide) ?_
  refine x_istore_n (lv2 := [(2, .int 0), (0, .ref (ad (20, a0, 0))), (1, .ref (ad (1, 0, 0)))]) hM d_Ac_fillRows_1 rfl (Nat.le_of_ble_eq_true rfl) rfl ?_
  refine x_sub [1, 2, 0] rfl ?_
  exact F _ _ hSt V
set_option maxRecDepth 100000 in
set_option maxHeartbeats 4000000 in
theorem T_Ac_fillRows_2 {G : Gc} {M : Mc} {Q : State → Prop} {ad0 : Ro → Nat} {K : (Ro → Nat) → Option Value → Rs → Prop} (hG : gok G) (hM : mok G M r_Ac_fillRows Q (KV G [23, 24] ad0 K)) (a0 : Nat) (ha0 : a0 < 12) (v2 : Int32) (ρ : Rs) (F : ((iR ρ (20, a0, 0) 2) ≤ v2 → (Y G [23, 24] ad0 M Q 55 (fun ad => [(0, .ref (ad (20, a0, 0))), (1, .ref (ad (1, 0, 0))), (2, .int 0)]) (fun ad => []) ρ)) ∧ (¬ (iR ρ (20, a0, 0) 2) ≤ v2 → (vp_in v2 3 ∧ (∃ m4 : Nat, (iR ρ (1, 0, 0) 1) = nI m4 ∧ m4 ≤ 4096 ∧ (∀ ρ3 : Rs, ρ3 = rowR ρ (23, a0, (Int32.toNatClampNeg v2)) m4 → (∃ m10 : Nat, (iR ρ3 (1, 0, 0) 1) = nI m10 ∧ m10 ≤ 4096 ∧ (∀ ρ9 : Rs, ρ9 = rowR ρ3 (24, a0, (Int32.toNatClampNeg v2)) m10 → (Y G [23, 24] ad0 M Q 2 (fun ad => [(0, .ref (ad (20, a0, 0))), (1, .ref (ad (1, 0, 0))), (2, .int (v2 + 1))]) (fun ad => []) ρ9)))))))) : Y G [23, 24] ad0 M Q 2 (fun ad => [(0, .ref (ad (20, a0, 0))), (1, .ref (ad (1, 0, 0))), (2, .int v2)]) (fun ad => []) ρ := by
  intro ad h hSt V
  show X G M Q 2 [(0, .ref (ad (20, a0, 0))), (1, .ref (ad (1, 0, 0))), (2, .int v2)] [] h
  refine x_iload_n hM d_Ac_fillRows_2 rfl 2 rfl ?_
  refine x_aload_n hM d_Ac_fillRows_3 rfl 0 rfl ?_
  refine y_geti hG hM V ck_Ac 2 (Nat.le_of_ble_eq_true rfl) rfl rfl w_104 rfl d_Ac_fillRows_4 (20, a0, 0) (ok_ac ha0) rfl ?_
  refine x_icmp_ge (tgt := 53) hM d_Ac_fillRows_7 (by decide) (fun q15 => ?_) (fun q15 => ?_)
  · replace F := F.1 q15
    refine x_iconst (v := 0) hM d_Ac_fillRows_53 (by decide) ?_
    refine x_istore_n (lv2 := [(2, .int 0), (0, .ref (ad (20, a0, 0))), (1, .ref (ad (1, 0, 0)))]) hM d_Ac_fillRows_54 rfl (Nat.le_of_ble_eq_true rfl) rfl ?_
    refine x_sub [1, 2, 0] rfl ?_
    exact F _ _ hSt V
  · replace F := F.2 q15
    refine x_aload_n hM d_Ac_fillRows_10 rfl 0 rfl ?_
    refine y_getr hG hM V ck_Ac 1 (Nat.le_of_ble_eq_true rfl) rfl rfl w_96 rfl d_Ac_fillRows_11 (20, a0, 0) (21, a0, 0) (ok_ac ha0) rfl rfl ?_
    refine x_iload_n hM d_Ac_fillRows_14 rfl 2 rfl ?_
    obtain ⟨c2, F⟩ := F
    refine y_outs hG hM V d_Ac_fillRows_15 ha0 c2 ?_
    refine x_astore_n (lv2 := [(3, .ref (ad (22, a0, (Int32.toNatClampNeg v2)))), (0, .ref (ad (20, a0, 0))), (1, .ref (ad (1, 0, 0))), (2, .int v2)]) hM d_Ac_fillRows_16 rfl (Nat.le_of_ble_eq_true rfl) rfl ?_
    refine x_aload_n hM d_Ac_fillRows_17 rfl 0 rfl ?_
    refine x_aload_n hM d_Ac_fillRows_18 rfl 0 rfl ?_
    refine y_getr hG hM V ck_Ou 1 (Nat.le_of_ble_eq_true rfl) rfl rfl w_79 rfl d_Ac_fillRows_19 (22, a0, (Int32.toNatClampNeg v2)) (23, a0, (Int32.toNatClampNeg v2)) (ok_ou ha0 (vp_lt c2)) rfl rfl ?_
    refine x_aload_n hM d_Ac_fillRows_22 rfl 2 rfl ?_
    refine y_geti hG hM V ck_Wo 1 (Nat.le_of_ble_eq_true rfl) rfl rfl w_131 rfl d_Ac_fillRows_23 (1, 0, 0) rfl rfl ?_
    obtain ⟨m4, c5, c6, F⟩ := F
    obtain ⟨ρ3, eρ3⟩ : ∃ z : Rs, z = rowR ρ (23, a0, (Int32.toNatClampNeg v2)) m4 := ⟨_, rfl⟩
    replace F := F ρ3 eρ3
    refine y_row hG hM V rfl ⟨Nat.le_of_ble_eq_true rfl, Nat.le_of_ble_eq_true rfl⟩ w_596 w_586 d_Ac_fillRows_26 d_Ac_fillRows_29 ck_Ou (k := 1) (Nat.le_of_ble_eq_true rfl) (Or.inr ⟨_, rfl⟩) w_79 rfl rfl (Nat.le_of_ble_eq_true rfl) (22, a0, (Int32.toNatClampNeg v2)) (23, a0, (Int32.toNatClampNeg v2)) (ok_ou ha0 (vp_lt c2)) (ok_to ha0 (vp_lt c2)) rfl (mem_to ha0 (vp_lt c2)) rfl rfl rfl c5 c6 (fun ad8 h hs7 V => ?_)
    rw [← eρ3] at V
    clear eρ3
    have ea0 : ad8 (22, a0, (Int32.toNatClampNeg v2)) = ad (22, a0, (Int32.toNatClampNeg v2)) := hs7 _ (Or.inr rfl)
    have ea1 : ad8 (20, a0, 0) = ad (20, a0, 0) := hs7 _ (Or.inr rfl)
    have ea2 : ad8 (1, 0, 0) = ad (1, 0, 0) := hs7 _ (Or.inr rfl)
    rw [← ea0, ← ea1, ← ea2]
    replace hSt := St_tr hSt (St_mono (mv' := [23]) (by decide) hs7)
    refine x_aload_n hM d_Ac_fillRows_32 rfl 0 rfl ?_
    refine x_aload_n hM d_Ac_fillRows_33 rfl 0 rfl ?_
    refine y_getr hG hM V ck_Ou 2 (Nat.le_of_ble_eq_true rfl) rfl rfl w_85 rfl d_Ac_fillRows_34 (22, a0, (Int32.toNatClampNeg v2)) (24, a0, (Int32.toNatClampNeg v2)) (ok_ou ha0 (vp_lt c2)) rfl rfl ?_
    refine x_aload_n hM d_Ac_fillRows_37 rfl 2 rfl ?_
    refine y_geti hG hM V ck_Wo 1 (Nat.le_of_ble_eq_true rfl) rfl rfl w_131 rfl d_Ac_fillRows_38 (1, 0, 0) rfl rfl ?_
    obtain ⟨m10, c11, c12, F⟩ := F
    obtain ⟨ρ9, eρ9⟩ : ∃ z : Rs, z = rowR ρ3 (24, a0, (Int32.toNatClampNeg v2)) m10 := ⟨_, rfl⟩
    replace F := F ρ9 eρ9
    refine y_row hG hM V rfl ⟨Nat.le_of_ble_eq_true rfl, Nat.le_of_ble_eq_true rfl⟩ w_596 w_586 d_Ac_fillRows_41 d_Ac_fillRows_44 ck_Ou (k := 2) (Nat.le_of_ble_eq_true rfl) (Or.inr ⟨_, rfl⟩) w_85 rfl rfl (Nat.le_of_ble_eq_true rfl) (22, a0, (Int32.toNatClampNeg v2)) (24, a0, (Int32.toNatClampNeg v2)) (ok_ou ha0 (vp_lt c2)) (ok_nx ha0 (vp_lt c2)) rfl (mem_nx ha0 (vp_lt c2)) rfl rfl rfl c11 c12 (fun ad14 h hs13 V => ?_)
    rw [← eρ9] at V
    clear eρ9
    have ea0 : ad14 (22, a0, (Int32.toNatClampNeg v2)) = ad8 (22, a0, (Int32.toNatClampNeg v2)) := hs13 _ (Or.inr rfl)
    have ea1 : ad14 (20, a0, 0) = ad8 (20, a0, 0) := hs13 _ (Or.inr rfl)
    have ea2 : ad14 (1, 0, 0) = ad8 (1, 0, 0) := hs13 _ (Or.inr rfl)
    rw [← ea0, ← ea1, ← ea2]
    replace hSt := St_tr hSt (St_mono (mv' := [24]) (by decide) hs13)
    refine x_iinc (v := (v2 + 1)) (lv2 := [(2, .int (v2 + 1)), (3, .ref (ad14 (22, a0, (Int32.toNatClampNeg v2)))), (0, .ref (ad14 (20, a0, 0))), (1, .ref (ad14 (1, 0, 0)))]) hM d_Ac_fillRows_47 (j := 3) rfl rfl (Nat.le_of_ble_eq_true rfl) rfl ?_
    refine x_goto (tgt := 2) hM d_Ac_fillRows_50 (by decide) ?_
    refine x_sub [2, 3, 0] rfl ?_
    exact F _ _ hSt V
set_option maxRecDepth 100000 in
set_option maxHeartbeats 4000000 in
theorem T_Ac_fillRows_55 {G : Gc} {M : Mc} {Q : State → Prop} {ad0 : Ro → Nat} {K : (Ro → Nat) → Option Value → Rs → Prop} (hG : gok G) (hM : mok G M r_Ac_fillRows Q (KV G [23, 24] ad0 K)) (a0 : Nat) (ha0 : a0 < 12) (v2 : Int32) (ρ : Rs) (F : ((iR ρ (1, 0, 0) 1) ≤ v2 → (∀ ρ2 : Rs, ρ2 = pI ρ (20, a0, 0) 3 1 → (∀ ad, K ad none ρ2))) ∧ (¬ (iR ρ (1, 0, 0) 1) ≤ v2 → (vp_in v2 (nR ρ (30, 6, 0)) ∧ (semV G r_Cl_hold [] (fun ad => [.ref (ad (10, a0 + 2, 0)), .int (iR ρ (30, 6, 0) (Int32.toNatClampNeg v2))]) ρ (fun ad u5 ρ4 => ∃ x7 : Int32, u5 = some (.int x7) ∧ (Y G [23, 24] ad0 M Q 83 (fun ad => [(0, .ref (ad (20, a0, 0))), (1, .ref (ad (1, 0, 0))), (2, .int v2), (3, .int (iR ρ (30, 6, 0) (Int32.toNatClampNeg v2))), (4, .int x7), (5, .int 0)]) (fun ad => []) ρ4)))))) : Y G [23, 24] ad0 M Q 55 (fun ad => [(0, .ref (ad (20, a0, 0))), (1, .ref (ad (1, 0, 0))), (2, .int v2)]) (fun ad => []) ρ := by
  intro ad h hSt V
  show X G M Q 55 [(0, .ref (ad (20, a0, 0))), (1, .ref (ad (1, 0, 0))), (2, .int v2)] [] h
  refine x_iload_n hM d_Ac_fillRows_55 rfl 2 rfl ?_
  refine x_aload_n hM d_Ac_fillRows_56 rfl 1 rfl ?_
  refine y_geti hG hM V ck_Wo 1 (Nat.le_of_ble_eq_true rfl) rfl rfl w_131 rfl d_Ac_fillRows_57 (1, 0, 0) rfl rfl ?_
  refine x_icmp_ge (tgt := 141) hM d_Ac_fillRows_60 (by decide) (fun q9 => ?_) (fun q9 => ?_)
  · replace F := F.1 q9
    refine x_aload_n hM d_Ac_fillRows_141 rfl 0 rfl ?_
    refine x_iconst (v := 1) hM d_Ac_fillRows_142 (by decide) ?_
    obtain ⟨ρ2, eρ2⟩ : ∃ z : Rs, z = pI ρ (20, a0, 0) 3 1 := ⟨_, rfl⟩
    replace F := F ρ2 eρ2
    refine y_putz hG hM V ck_Ac 3 (Nat.le_of_ble_eq_true rfl) rfl rfl w_111 rfl d_Ac_fillRows_143 rfl (20, a0, 0) (ok_ac ha0) rfl (Or.inr rfl) (fun h V => ?_)
    rw [← eρ2] at V
    clear eρ2
    exact x_return hM d_Ac_fillRows_146 rfl (y_end V hSt (F _))
  · replace F := F.2 q9
    refine x_aload_n hM d_Ac_fillRows_63 rfl 1 rfl ?_
    refine y_getr hG hM V ck_Wo 6 (Nat.le_of_ble_eq_true rfl) rfl rfl w_154 rfl d_Ac_fillRows_64 (1, 0, 0) (30, 6, 0) rfl rfl rfl ?_
    refine x_iload_n hM d_Ac_fillRows_67 rfl 2 rfl ?_
    obtain ⟨c3, F⟩ := F
    refine y_iaload hG hM V d_Ac_fillRows_68 (30, 6, 0) rfl rfl c3 ?_
    refine x_istore_n (lv2 := [(3, .int (iR ρ (30, 6, 0) (Int32.toNatClampNeg v2))), (0, .ref (ad (20, a0, 0))), (1, .ref (ad (1, 0, 0))), (2, .int v2)]) hM d_Ac_fillRows_69 rfl (Nat.le_of_ble_eq_true rfl) rfl ?_
    refine x_aload_n hM d_Ac_fillRows_70 rfl 1 rfl ?_
    refine y_getr hG hM V ck_Ac 0 (Nat.le_of_ble_eq_true rfl) rfl rfl w_94 rfl d_Ac_fillRows_71 (20, a0, 0) (10, a0 + 2, 0) (ok_ac ha0) rfl rfl ?_
    refine x_iload_n hM d_Ac_fillRows_74 rfl 0 rfl ?_
    refine x_callV hG hM (r' := r_Cl_hold) (ci := 4) [.int (iR ρ (30, 6, 0) (Int32.toNatClampNeg v2))] rfl rfl (Nat.le_of_ble_eq_true rfl) yk_Cl_hold ⟨Nat.le_of_ble_eq_true rfl, Nat.le_of_ble_eq_true rfl⟩ w_597 w_554 w_555 rfl rfl (Nat.le_of_ble_eq_true rfl) d_Ac_fillRows_75 (by rw [vT V (ok_cl (okC_ac ha0))]; rfl) (sem_mono (F _ _ V) ?_)
    intro u5 h F
    obtain ⟨ad8, ρ4, V, hs6, F⟩ := F
    obtain ⟨x7, rfl, F⟩ := F
    have hs6 := (St_eq hs6).symm
    subst hs6
    refine x_istore (lv2 := [(4, .int x7), (3, .int (iR ρ (30, 6, 0) (Int32.toNatClampNeg v2))), (0, .ref (ad (20, a0, 0))), (1, .ref (ad (1, 0, 0))), (2, .int v2)]) hM d_Ac_fillRows_78 (Nat.le_of_ble_eq_true rfl) rfl ?_
    refine x_iconst (v := 0) hM d_Ac_fillRows_80 (by decide) ?_
    refine x_istore (lv2 := [(5, .int 0), (4, .int x7), (3, .int (iR ρ (30, 6, 0) (Int32.toNatClampNeg v2))), (0, .ref (ad (20, a0, 0))), (1, .ref (ad (1, 0, 0))), (2, .int v2)]) hM d_Ac_fillRows_81 (Nat.le_of_ble_eq_true rfl) rfl ?_
    refine x_sub [3, 4, 5, 2, 1, 0] rfl ?_
    exact F _ _ hSt V
set_option maxRecDepth 100000 in
set_option maxHeartbeats 4000000 in
theorem T_Ac_fillRows_83 {G : Gc} {M : Mc} {Q : State → Prop} {ad0 : Ro → Nat} {K : (Ro → Nat) → Option Value → Rs → Prop} (hG : gok G) (hM : mok G M r_Ac_fillRows Q (KV G [23, 24] ad0 K)) (a0 : Nat) (ha0 : a0 < 12) (v2 : Int32) (v3 : Int32) (v4 : Int32) (v5 : Int32) (ρ : Rs) (F : ((iR ρ (20, a0, 0) 2) ≤ v5 → (Y G [23, 24] ad0 M Q 55 (fun ad => [(0, .ref (ad (20, a0, 0))), (1, .ref (ad (1, 0, 0))), (2, .int (v2 + 1))]) (fun ad => []) ρ)) ∧ (¬ (iR ρ (20, a0, 0) 2) ≤ v5 → (vp_in v5 3 ∧ ((v4 = 0 → (vp_in v2 (nR ρ (23, a0, (Int32.toNatClampNeg v5))) ∧ (∀ ρ4 : Rs, ρ4 = pI ρ (23, a0, (Int32.toNatClampNeg v5)) (Int32.toNatClampNeg v2) (-1) → (Y G [23, 24] ad0 M Q 83 (fun ad => [(0, .ref (ad (20, a0, 0))), (1, .ref (ad (1, 0, 0))), (2, .int v2), (3, .int v3), (4, .int v4), (5, .int (v5 + 1))]) (fun ad => []) ρ4)))) ∧ (¬ v4 = 0 → (vp_in v5 3 ∧ (semV G r_Wo_after [] (fun ad => [.ref (ad (1, 0, 0)), .ref (ad (10, a0 + 2, (Int32.toNatClampNeg v5) + 1)), .int v2, .int v3]) ρ (fun ad u8 ρ7 => ∃ x10 : Int32, u8 = some (.int x10) ∧ (vp_in v2 (nR ρ7 (23, a0, (Int32.toNatClampNeg v5))) ∧ (∀ ρ11 : Rs, ρ11 = pI ρ7 (23, a0, (Int32.toNatClampNeg v5)) (Int32.toNatClampNeg v2) x10 → (Y G [23, 24] ad0 M Q 83 (fun ad => [(0, .ref (ad (20, a0, 0))), (1, .ref (ad (1, 0, 0))), (2, .int v2), (3, .int v3), (4, .int v4), (5, .int (v5 + 1))]) (fun ad => []) ρ11))))))))))) : Y G [23, 24] ad0 M Q 83 (fun ad => [(0, .ref (ad (20, a0, 0))), (1, .ref (ad (1, 0, 0))), (2, .int v2), (3, .int v3), (4, .int v4), (5, .int v5)]) (fun ad => []) ρ := by
  intro ad h hSt V
  show X G M Q 83 [(0, .ref (ad (20, a0, 0))), (1, .ref (ad (1, 0, 0))), (2, .int v2), (3, .int v3), (4, .int v4), (5, .int v5)] [] h
  refine x_iload hM d_Ac_fillRows_83 5 rfl ?_
  refine x_aload_n hM d_Ac_fillRows_85 rfl 0 rfl ?_
  refine y_geti hG hM V ck_Ac 2 (Nat.le_of_ble_eq_true rfl) rfl rfl w_104 rfl d_Ac_fillRows_86 (20, a0, 0) (ok_ac ha0) rfl ?_
  refine x_icmp_ge (tgt := 135) hM d_Ac_fillRows_89 (by decide) (fun q15 => ?_) (fun q15 => ?_)
  · replace F := F.1 q15
    refine x_iinc (v := (v2 + 1)) (lv2 := [(2, .int (v2 + 1)), (0, .ref (ad (20, a0, 0))), (1, .ref (ad (1, 0, 0))), (3, .int v3), (4, .int v4), (5, .int v5)]) hM d_Ac_fillRows_135 (j := 2) rfl rfl (Nat.le_of_ble_eq_true rfl) rfl ?_
    refine x_goto (tgt := 55) hM d_Ac_fillRows_138 (by decide) ?_
    refine x_sub [1, 2, 0] rfl ?_
    exact F _ _ hSt V
  · replace F := F.2 q15
    refine x_aload_n hM d_Ac_fillRows_92 rfl 0 rfl ?_
    refine y_getr hG hM V ck_Ac 1 (Nat.le_of_ble_eq_true rfl) rfl rfl w_96 rfl d_Ac_fillRows_93 (20, a0, 0) (21, a0, 0) (ok_ac ha0) rfl rfl ?_
    refine x_iload hM d_Ac_fillRows_96 5 rfl ?_
    obtain ⟨c2, F⟩ := F
    refine y_outs hG hM V d_Ac_fillRows_98 ha0 c2 ?_
    refine y_getr hG hM V ck_Ou 1 (Nat.le_of_ble_eq_true rfl) rfl rfl w_79 rfl d_Ac_fillRows_99 (22, a0, (Int32.toNatClampNeg v5)) (23, a0, (Int32.toNatClampNeg v5)) (ok_ou ha0 (vp_lt c2)) rfl rfl ?_
    refine x_iload_n hM d_Ac_fillRows_102 rfl 2 rfl ?_
    refine x_iload hM d_Ac_fillRows_103 4 rfl ?_
    refine x_if_eq (tgt := 127) hM d_Ac_fillRows_105 (by decide) (fun q14 => ?_) (fun q14 => ?_)
    · replace F := F.1 q14
      refine x_iconst (v := (-1)) hM d_Ac_fillRows_127 (by decide) ?_
      obtain ⟨c5, F⟩ := F
      obtain ⟨ρ4, eρ4⟩ : ∃ z : Rs, z = pI ρ (23, a0, (Int32.toNatClampNeg v5)) (Int32.toNatClampNeg v2) (-1) := ⟨_, rfl⟩
      replace F := F ρ4 eρ4
      refine y_iastore hG hM V d_Ac_fillRows_128 (23, a0, (Int32.toNatClampNeg v5)) (ok_to ha0 (vp_lt c2)) rfl c5 (fun h V => ?_)
      rw [← eρ4] at V
      clear eρ4
      refine x_iinc (v := (v5 + 1)) (lv2 := [(5, .int (v5 + 1)), (0, .ref (ad (20, a0, 0))), (1, .ref (ad (1, 0, 0))), (2, .int v2), (3, .int v3), (4, .int v4)]) hM d_Ac_fillRows_129 (j := 5) rfl rfl (Nat.le_of_ble_eq_true rfl) rfl ?_
      refine x_goto (tgt := 83) hM d_Ac_fillRows_132 (by decide) ?_
      refine x_sub [1, 2, 3, 4, 5, 0] rfl ?_
      exact F _ _ hSt V
    · replace F := F.2 q14
      refine x_aload_n hM d_Ac_fillRows_108 rfl 1 rfl ?_
      refine x_aload_n hM d_Ac_fillRows_109 rfl 0 rfl ?_
      refine y_getr hG hM V ck_Ac 1 (Nat.le_of_ble_eq_true rfl) rfl rfl w_96 rfl d_Ac_fillRows_110 (20, a0, 0) (21, a0, 0) (ok_ac ha0) rfl rfl ?_
      refine x_iload hM d_Ac_fillRows_113 5 rfl ?_
      obtain ⟨c6, F⟩ := F
      refine y_outs hG hM V d_Ac_fillRows_115 ha0 c6 ?_
      refine y_getr hG hM V ck_Ou 0 (Nat.le_of_ble_eq_true rfl) rfl rfl w_74 rfl d_Ac_fillRows_116 (22, a0, (Int32.toNatClampNeg v5)) (10, a0 + 2, (Int32.toNatClampNeg v5) + 1) (ok_ou ha0 (vp_lt c6)) rfl rfl ?_
      refine x_iload_n hM d_Ac_fillRows_119 rfl 2 rfl ?_
      refine x_iload_n hM d_Ac_fillRows_120 rfl 3 rfl ?_
      refine x_callV hG hM (r' := r_Wo_after) (ci := 1) [.ref (ad (10, a0 + 2, (Int32.toNatClampNeg v5) + 1)), .int v2, .int v3] rfl rfl (Nat.le_of_ble_eq_true rfl) yk_Wo_after ⟨Nat.le_of_ble_eq_true rfl, Nat.le_of_ble_eq_true rfl⟩ w_598 w_561 w_562 rfl rfl (Nat.le_of_ble_eq_true rfl) d_Ac_fillRows_121 (by rw [vT V rfl]; rfl) (sem_mono (F _ _ V) ?_)
      intro u8 h F
      obtain ⟨ad13, ρ7, V, hs9, F⟩ := F
      obtain ⟨x10, rfl, F⟩ := F
      have hs9 := (St_eq hs9).symm
      subst hs9
      refine x_goto (tgt := 128) hM d_Ac_fillRows_124 (by decide) ?_
      obtain ⟨c12, F⟩ := F
      obtain ⟨ρ11, eρ11⟩ : ∃ z : Rs, z = pI ρ7 (23, a0, (Int32.toNatClampNeg v5)) (Int32.toNatClampNeg v2) x10 := ⟨_, rfl⟩
      replace F := F ρ11 eρ11
      refine y_iastore hG hM V d_Ac_fillRows_128 (23, a0, (Int32.toNatClampNeg v5)) (ok_to ha0 (vp_lt c2)) rfl c12 (fun h V => ?_)
      rw [← eρ11] at V
      clear eρ11
      refine x_iinc (v := (v5 + 1)) (lv2 := [(5, .int (v5 + 1)), (0, .ref (ad (20, a0, 0))), (1, .ref (ad (1, 0, 0))), (2, .int v2), (3, .int v3), (4, .int v4)]) hM d_Ac_fillRows_129 (j := 5) rfl rfl (Nat.le_of_ble_eq_true rfl) rfl ?_
      refine x_goto (tgt := 83) hM d_Ac_fillRows_132 (by decide) ?_
      refine x_sub [1, 2, 3, 4, 5, 0] rfl ?_
      exact F _ _ hSt V
set_option maxRecDepth 100000 in
set_option maxHeartbeats 4000000 in
theorem T_Ac_canBeDone_0 {G : Gc} {M : Mc} {Q : State → Prop} {ad0 : Ro → Nat} {K : (Ro → Nat) → Option Value → Rs → Prop} (hG : gok G) (hM : mok G M r_Ac_canBeDone Q (KV G [] ad0 K)) (a0 : Nat) (ha0 : a0 < 12) (v1 : Int32) (ρ : Rs) (F : vp_in 0 3 ∧ (vp_in v1 (nR ρ (23, a0, (Int32.toNatClampNeg 0))) ∧ (∀ z3 : Int32, z3 = (if (iR ρ (23, a0, (Int32.toNatClampNeg 0)) (Int32.toNatClampNeg v1)) = (-1) then 0 else 1) → (nb z3 ∧ (∀ ad, K ad (some (.int z3)) ρ))))) : Y G [] ad0 M Q 0 (fun ad => [(0, .ref (ad (20, a0, 0))), (1, .int v1)]) (fun ad => []) ρ := by
  intro ad h hSt V
  show X G M Q 0 [(0, .ref (ad (20, a0, 0))), (1, .int v1)] [] h
  refine x_aload_n hM d_Ac_canBeDone_0 rfl 0 rfl ?_
  refine y_getr hG hM V ck_Ac 1 (Nat.le_of_ble_eq_true rfl) rfl rfl w_96 rfl d_Ac_canBeDone_1 (20, a0, 0) (21, a0, 0) (ok_ac ha0) rfl rfl ?_
  refine x_iconst (v := 0) hM d_Ac_canBeDone_4 (by decide) ?_
  obtain ⟨c1, F⟩ := F
  refine y_outs hG hM V d_Ac_canBeDone_5 ha0 c1 ?_
  refine y_getr hG hM V ck_Ou 1 (Nat.le_of_ble_eq_true rfl) rfl rfl w_79 rfl d_Ac_canBeDone_6 (22, a0, (Int32.toNatClampNeg 0)) (23, a0, (Int32.toNatClampNeg 0)) (ok_ou ha0 (vp_lt c1)) rfl rfl ?_
  refine x_iload_n hM d_Ac_canBeDone_9 rfl 1 rfl ?_
  obtain ⟨c2, F⟩ := F
  refine y_iaload hG hM V d_Ac_canBeDone_10 (23, a0, (Int32.toNatClampNeg 0)) (ok_to ha0 (vp_lt c1)) rfl c2 ?_
  refine x_iconst (v := (-1)) hM d_Ac_canBeDone_11 (by decide) ?_
  have JJ : ∀ (z3 : Int32) (ez3 : z3 = (if (iR ρ (23, a0, (Int32.toNatClampNeg 0)) (Int32.toNatClampNeg v1)) = (-1) then 0 else 1)), X G M Q 20 [] [.int z3] h := by
    intro z3 ez3
    replace F := F _ ez3
    exact x_zreturn hM d_Ac_canBeDone_20 rfl F.1 (y_end V hSt (F.2 _))
  refine x_icmp_eq (tgt := 19) hM d_Ac_canBeDone_12 (by decide) (fun q4 => ?_) (fun q4 => ?_)
  · refine x_iconst (v := 0) hM d_Ac_canBeDone_19 (by decide) ?_
    refine x_sub [] rfl ?_
    exact JJ _ (Eq.symm (if_pos q4))
  · refine x_iconst (v := 1) hM d_Ac_canBeDone_15 (by decide) ?_
    refine x_goto (tgt := 20) hM d_Ac_canBeDone_16 (by decide) ?_
    refine x_sub [] rfl ?_
    exact JJ _ (Eq.symm (if_neg q4))
