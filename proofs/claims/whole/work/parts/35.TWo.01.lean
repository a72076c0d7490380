set_option maxRecDepth 100000 in
set_option maxHeartbeats 4000000 in
theorem T_Wo_fillPacked_0 {G : Gc} {M : Mc} {Q : State → Prop} {ad0 : Ro → Nat} {K : (Ro → Nat) → Option Value → Rs → Prop} (hG : gok G) (hM : mok G M r_Wo_fillPacked Q (KV G [30] ad0 K))  (ρ : Rs) (F : ∃ m2 : Nat, (iR ρ (1, 0, 0) 1) = nI m2 ∧ m2 ≤ 4096 ∧ (∀ ρ1 : Rs, ρ1 = rowR ρ (30, 6, 0) m2 → (∃ m8 : Nat, (iR ρ1 (1, 0, 0) 1) = nI m8 ∧ m8 ≤ 4096 ∧ (∀ ρ7 : Rs, ρ7 = rowR ρ1 (30, 7, 0) m8 → (Y G [30] ad0 M Q 32 (fun ad => [(0, .ref (ad (1, 0, 0))), (1, .int 0)]) (fun ad => []) ρ7))))) : Y G [30] ad0 M Q 0 (fun ad => [(0, .ref (ad (1, 0, 0)))]) (fun ad => []) ρ := by
  intro ad h hSt V
  show X G M Q 0 [(0, .ref (ad (1, 0, 0)))] [] h
  refine x_aload_n hM d_Wo_fillPacked_0 rfl 0 rfl ?_
  refine x_aload_n hM d_Wo_fillPacked_1 rfl 0 rfl ?_
  refine y_getr hG hM V ck_Wo 6 (Nat.le_of_ble_eq_true rfl) rfl rfl w_150 rfl d_Wo_fillPacked_2 (1, 0, 0) (30, 6, 0) rfl rfl rfl ?_
  refine x_aload_n hM d_Wo_fillPacked_5 rfl 0 rfl ?_
  refine y_geti hG hM V ck_Wo 1 (Nat.le_of_ble_eq_true rfl) rfl rfl w_125 rfl d_Wo_fillPacked_6 (1, 0, 0) rfl rfl ?_
  obtain ⟨m2, c3, c4, F⟩ := F
  obtain ⟨ρ1, eρ1⟩ : ∃ z : Rs, z = rowR ρ (30, 6, 0) m2 := ⟨_, rfl⟩
  replace F := F ρ1 eρ1
  refine y_row hG hM V rfl ⟨Nat.le_of_ble_eq_true rfl, Nat.le_of_ble_eq_true rfl⟩ w_585 w_586 d_Wo_fillPacked_9 d_Wo_fillPacked_12 ck_Wo (k := 6) (Nat.le_of_ble_eq_true rfl) (Or.inr ⟨_, rfl⟩) w_150 rfl rfl (Nat.le_of_ble_eq_true rfl) (1, 0, 0) (30, 6, 0) rfl rfl rfl (by decide) rfl rfl rfl c3 c4 (fun ad6 h hs5 V => ?_)
  rw [← eρ1] at V
  clear eρ1
  have ea0 : ad6 (1, 0, 0) = ad (1, 0, 0) := hs5 _ (Or.inr rfl)
  rw [← ea0]
  replace hSt := St_tr hSt (St_mono (mv' := [30]) (by decide) hs5)
  refine x_aload_n hM d_Wo_fillPacked_15 rfl 0 rfl ?_
  refine x_aload_n hM d_Wo_fillPacked_16 rfl 0 rfl ?_
  refine y_getr hG hM V ck_Wo 7 (Nat.le_of_ble_eq_true rfl) rfl rfl w_156 rfl d_Wo_fillPacked_17 (1, 0, 0) (30, 7, 0) rfl rfl rfl ?_
  refine x_aload_n hM d_Wo_fillPacked_20 rfl 0 rfl ?_
  refine y_geti hG hM V ck_Wo 1 (Nat.le_of_ble_eq_true rfl) rfl rfl w_125 rfl d_Wo_fillPacked_21 (1, 0, 0) rfl rfl ?_
  obtain ⟨m8, c9, c10, F⟩ := F
  obtain ⟨ρ7, eρ7⟩ : ∃ z : Rs, z = rowR ρ1 (30, 7, 0) m8 := ⟨_, rfl⟩
  replace F := F ρ7 eρ7
  refine y_row hG hM V rfl ⟨Nat.le_of_ble_eq_true rfl, Nat.le_of_ble_eq_true rfl⟩ w_585 w_586 d_Wo_fillPacked_24 d_Wo_fillPacked_27 ck_Wo (k := 7) (Nat.le_of_ble_eq_true rfl) (Or.inr ⟨_, rfl⟩) w_156 rfl rfl (Nat.le_of_ble_eq_true rfl) (1, 0, 0) (30, 7, 0) rfl rfl rfl (by decide) rfl rfl rfl c9 c10 (fun ad12 h hs11 V => ?_)
  rw [← eρ7] at V
  clear eρ7
  have ea0 : ad12 (1, 0, 0) = ad6 (1, 0, 0) := hs11 _ (Or.inr rfl)
  rw [← ea0]
  replace hSt := St_tr hSt (St_mono (mv' := [30]) (by decide) hs11)
  refine x_iconst (v := 0) hM d_Wo_fillPacked_30 (by decide) ?_
  refine x_istore_n (lv2 := [(1, .int 0), (0, .ref (ad12 (1, 0, 0)))]) hM d_Wo_fillPacked_31 rfl (Nat.le_of_ble_eq_true rfl) rfl ?_
  refine x_sub [1, 0] rfl ?_
  exact F _ _ hSt V
set_option maxRecDepth 100000 in
set_option maxHeartbeats 4000000 in
theorem T_Wo_fillPacked_32 {G : Gc} {M : Mc} {Q : State → Prop} {ad0 : Ro → Nat} {K : (Ro → Nat) → Option Value → Rs → Prop} (hG : gok G) (hM : mok G M r_Wo_fillPacked Q (KV G [30] ad0 K)) (v1 : Int32) (ρ : Rs) (F : ((iR ρ (1, 0, 0) 1) ≤ v1 → (∀ ρ1 : Rs, ρ1 = pI ρ (1, 0, 0) 8 1 → (∀ ad, K ad none ρ1))) ∧ (¬ (iR ρ (1, 0, 0) 1) ≤ v1 → (semV G r_Wo_pack [] (fun ad => [.ref (ad (1, 0, 0)), .int v1]) ρ (fun ad u3 ρ2 => ∃ x5 : Int32, u3 = some (.int x5) ∧ (vp_in v1 (nR ρ2 (30, 6, 0)) ∧ (∀ ρ6 : Rs, ρ6 = pI ρ2 (30, 6, 0) (Int32.toNatClampNeg v1) x5 → (Y G [30] ad0 M Q 32 (fun ad => [(0, .ref (ad (1, 0, 0))), (1, .int (v1 + 1))]) (fun ad => []) ρ6))))))) : Y G [30] ad0 M Q 32 (fun ad => [(0, .ref (ad (1, 0, 0))), (1, .int v1)]) (fun ad => []) ρ := by
  intro ad h hSt V
  show X G M Q 32 [(0, .ref (ad (1, 0, 0))), (1, .int v1)] [] h
  refine x_iload_n hM d_Wo_fillPacked_32 rfl 1 rfl ?_
  refine x_aload_n hM d_Wo_fillPacked_33 rfl 0 rfl ?_
  refine y_geti hG hM V ck_Wo 1 (Nat.le_of_ble_eq_true rfl) rfl rfl w_125 rfl d_Wo_fillPacked_34 (1, 0, 0) rfl rfl ?_
  refine x_icmp_ge (tgt := 57) hM d_Wo_fillPacked_37 (by decide) (fun q9 => ?_) (fun q9 => ?_)
  · replace F := F.1 q9
    refine x_aload_n hM d_Wo_fillPacked_57 rfl 0 rfl ?_
    refine x_iconst (v := 1) hM d_Wo_fillPacked_58 (by decide) ?_
    obtain ⟨ρ1, eρ1⟩ : ∃ z : Rs, z = pI ρ (1, 0, 0) 8 1 := ⟨_, rfl⟩
    replace F := F ρ1 eρ1
    refine y_putz hG hM V ck_Wo 8 (Nat.le_of_ble_eq_true rfl) rfl rfl w_159 rfl d_Wo_fillPacked_59 rfl (1, 0, 0) rfl rfl (Or.inr rfl) (fun h V => ?_)
    rw [← eρ1] at V
    clear eρ1
    exact x_return hM d_Wo_fillPacked_62 rfl (y_end V hSt (F _))
  · replace F := F.2 q9
    refine x_aload_n hM d_Wo_fillPacked_40 rfl 0 rfl ?_
    refine y_getr hG hM V ck_Wo 6 (Nat.le_of_ble_eq_true rfl) rfl rfl w_150 rfl d_Wo_fillPacked_41 (1, 0, 0) (30, 6, 0) rfl rfl rfl ?_
    refine x_iload_n hM d_Wo_fillPacked_44 rfl 1 rfl ?_
    refine x_aload_n hM d_Wo_fillPacked_45 rfl 0 rfl ?_
    refine x_iload_n hM d_Wo_fillPacked_46 rfl 1 rfl ?_
    refine x_callV hG hM (r' := r_Wo_pack) (ci := 1) [.int v1] rfl rfl (Nat.le_of_ble_eq_true rfl) yk_Wo_pack ⟨Nat.le_of_ble_eq_true rfl, Nat.le_of_ble_eq_true rfl⟩ w_591 w_550 w_551 rfl rfl (Nat.le_of_ble_eq_true rfl) d_Wo_fillPacked_47 (by rw [vT V rfl]; rfl) (sem_mono (F _ _ V) ?_)
    intro u3 h F
    obtain ⟨ad8, ρ2, V, hs4, F⟩ := F
    obtain ⟨x5, rfl, F⟩ := F
    have hs4 := (St_eq hs4).symm
    subst hs4
    obtain ⟨c7, F⟩ := F
    obtain ⟨ρ6, eρ6⟩ : ∃ z : Rs, z = pI ρ2 (30, 6, 0) (Int32.toNatClampNeg v1) x5 := ⟨_, rfl⟩
    replace F := F ρ6 eρ6
    refine y_iastore hG hM V d_Wo_fillPacked_50 (30, 6, 0) rfl rfl c7 (fun h V => ?_)
    rw [← eρ6] at V
    clear eρ6
    refine x_iinc (v := (v1 + 1)) (lv2 := [(1, .int (v1 + 1)), (0, .ref (ad (1, 0, 0)))]) hM d_Wo_fillPacked_51 (j := 1) rfl rfl (Nat.le_of_ble_eq_true rfl) rfl ?_
    refine x_goto (tgt := 32) hM d_Wo_fillPacked_54 (by decide) ?_
    refine x_sub [1, 0] rfl ?_
    exact F _ _ hSt V
set_option maxRecDepth 100000 in
set_option maxHeartbeats 4000000 in
theorem T_Wo_linkBack_0 {G : Gc} {M : Mc} {Q : State → Prop} {ad0 : Ro → Nat} {K : (Ro → Nat) → Option Value → Rs → Prop} (hG : gok G) (hM : mok G M r_Wo_linkBack Q (KV G [] ad0 K))  (ρ : Rs) (F : semV G r_Ar_fill [] (fun ad => [.ref (ad (30, 7, 0)), .int 0, .int (iR ρ (1, 0, 0) 1), .int (-1)]) ρ (fun ad u2 ρ1 => u2 = none ∧ (Y G [] ad0 M Q 15 (fun ad => [(0, .ref (ad (1, 0, 0))), (1, .int 0)]) (fun ad => []) ρ1))) : Y G [] ad0 M Q 0 (fun ad => [(0, .ref (ad (1, 0, 0)))]) (fun ad => []) ρ := by
  intro ad h hSt V
  show X G M Q 0 [(0, .ref (ad (1, 0, 0)))] [] h
  refine x_aload_n hM d_Wo_linkBack_0 rfl 0 rfl ?_
  refine y_getr hG hM V ck_Wo 7 (Nat.le_of_ble_eq_true rfl) rfl rfl w_156 rfl d_Wo_linkBack_1 (1, 0, 0) (30, 7, 0) rfl rfl rfl ?_
  refine x_iconst (v := 0) hM d_Wo_linkBack_4 (by decide) ?_
  refine x_aload_n hM d_Wo_linkBack_5 rfl 0 rfl ?_
  refine y_geti hG hM V ck_Wo 1 (Nat.le_of_ble_eq_true rfl) rfl rfl w_125 rfl d_Wo_linkBack_6 (1, 0, 0) rfl rfl ?_
  refine x_iconst (v := (-1)) hM d_Wo_linkBack_9 (by decide) ?_
  refine x_callS hG hM (r' := r_Ar_fill) [.ref (ad (30, 7, 0)), .int 0, .int (iR ρ (1, 0, 0) 1), .int (-1)] rfl yk_Ar_fill ⟨Nat.le_of_ble_eq_true rfl, Nat.le_of_ble_eq_true rfl⟩ w_603 w_604 rfl rfl (Nat.le_of_ble_eq_true rfl) d_Wo_linkBack_10 (sem_mono (F _ _ V) ?_)
  intro u2 h F
  obtain ⟨ad4, ρ1, V, hs3, F⟩ := F
  obtain ⟨rfl, F⟩ := F
  have hs3 := (St_eq hs3).symm
  subst hs3
  refine x_iconst (v := 0) hM d_Wo_linkBack_13 (by decide) ?_
  refine x_istore_n (lv2 := [(1, .int 0), (0, .ref (ad (1, 0, 0)))]) hM d_Wo_linkBack_14 rfl (Nat.le_of_ble_eq_true rfl) rfl ?_
  refine x_sub [1, 0] rfl ?_
  exact F _ _ hSt V
set_option maxRecDepth 100000 in
set_option maxHeartbeats 4000000 in
theorem T_Wo_linkBack_15 {G : Gc} {M : Mc} {Q : State → Prop} {ad0 : Ro → Nat} {K : (Ro → Nat) → Option Value → Rs → Prop} (hG : gok G) (hM : mok G M r_Wo_linkBack Q (KV G [] ad0 K)) (v1 : Int32) (ρ : Rs) (F : ((iR ρ (1, 0, 0) 2) ≤ v1 → (∀ ad, K ad none ρ)) ∧ (¬ (iR ρ (1, 0, 0) 2) ≤ v1 → (Y G [] ad0 M Q 25 (fun ad => [(0, .ref (ad (1, 0, 0))), (1, .int v1), (2, .int 0)]) (fun ad => []) ρ))) : Y G [] ad0 M Q 15 (fun ad => [(0, .ref (ad (1, 0, 0))), (1, .int v1)]) (fun ad => []) ρ := by
  intro ad h hSt V
  show X G M Q 15 [(0, .ref (ad (1, 0, 0))), (1, .int v1)] [] h
  refine x_iload_n hM d_Wo_linkBack_15 rfl 1 rfl ?_
  refine x_aload_n hM d_Wo_linkBack_16 rfl 0 rfl ?_
  refine y_geti hG hM V ck_Wo 2 (Nat.le_of_ble_eq_true rfl) rfl rfl w_133 rfl d_Wo_linkBack_17 (1, 0, 0) rfl rfl ?_
  refine x_icmp_ge (tgt := 71) hM d_Wo_linkBack_20 (by decide) (fun q1 => ?_) (fun q1 => ?_)
  · replace F := F.1 q1
    exact x_return hM d_Wo_linkBack_71 rfl (y_end V hSt (F _))
  · replace F := F.2 q1
    refine x_iconst (v := 0) hM d_Wo_linkBack_23 (by decide) ?_
    refine x_istore_n (lv2 := [(2, .int 0), (0, .ref (ad (1, 0, 0))), (1, .int v1)]) hM d_Wo_linkBack_24 rfl (Nat.le_of_ble_eq_true rfl) rfl ?_
    refine x_sub [1, 2, 0] rfl ?_
    exact F _ _ hSt V
set_option maxRecDepth 100000 in
set_option maxHeartbeats 4000000 in
theorem T_Wo_linkBack_25 {G : Gc} {M : Mc} {Q : State → Prop} {ad0 : Ro → Nat} {K : (Ro → Nat) → Option Value → Rs → Prop} (hG : gok G) (hM : mok G M r_Wo_linkBack Q (KV G [] ad0 K)) (v1 : Int32) (v2 : Int32) (ρ : Rs) (F : vp_in v1 12 ∧ (((iR ρ (20, (Int32.toNatClampNeg v1), 0) 2) ≤ v2 → (Y G [] ad0 M Q 15 (fun ad => [(0, .ref (ad (1, 0, 0))), (1, .int (v1 + 1))]) (fun ad => []) ρ)) ∧ (¬ (iR ρ (20, (Int32.toNatClampNeg v1), 0) 2) ≤ v2 → (vp_in v1 12 ∧ (vp_in v2 3 ∧ (semV G r_WP_edgeOf [] (fun ad => [.int v1, .int v2, .int 0]) ρ (fun ad u7 ρ6 => ∃ x9 : Int32, u7 = some (.int x9) ∧ (semV G r_Wo_linkOutcome [] (fun ad => [.ref (ad (1, 0, 0)), .ref (ad (22, (Int32.toNatClampNeg v1), (Int32.toNatClampNeg v2))), .int x9]) ρ6 (fun ad u11 ρ10 => u11 = none ∧ (Y G [] ad0 M Q 25 (fun ad => [(0, .ref (ad (1, 0, 0))), (1, .int v1), (2, .int (v2 + 1))]) (fun ad => []) ρ10)))))))))) : Y G [] ad0 M Q 25 (fun ad => [(0, .ref (ad (1, 0, 0))), (1, .int v1), (2, .int v2)]) (fun ad => []) ρ := by
  intro ad h hSt V
  show X G M Q 25 [(0, .ref (ad (1, 0, 0))), (1, .int v1), (2, .int v2)] [] h
  refine x_iload_n hM d_Wo_linkBack_25 rfl 2 rfl ?_
  refine x_aload_n hM d_Wo_linkBack_26 rfl 0 rfl ?_
  refine y_getr hG hM V ck_Wo 5 (Nat.le_of_ble_eq_true rfl) rfl rfl w_143 rfl d_Wo_linkBack_27 (1, 0, 0) (30, 5, 0) rfl rfl rfl ?_
  refine x_iload_n hM d_Wo_linkBack_30 rfl 1 rfl ?_
  obtain ⟨c1, F⟩ := F
  refine y_acts hG hM V d_Wo_linkBack_31 c1 ?_
  refine y_geti hG hM V ck_Ac 2 (Nat.le_of_ble_eq_true rfl) rfl rfl w_109 rfl d_Wo_linkBack_32 (20, (Int32.toNatClampNeg v1), 0) (ok_ac (vp_lt c1)) rfl ?_
  refine x_icmp_ge (tgt := 65) hM d_Wo_linkBack_35 (by decide) (fun q15 => ?_) (fun q15 => ?_)
  · replace F := F.1 q15
    refine x_iinc (v := (v1 + 1)) (lv2 := [(1, .int (v1 + 1)), (0, .ref (ad (1, 0, 0))), (2, .int v2)]) hM d_Wo_linkBack_65 (j := 1) rfl rfl (Nat.le_of_ble_eq_true rfl) rfl ?_
    refine x_goto (tgt := 15) hM d_Wo_linkBack_68 (by decide) ?_
    refine x_sub [1, 0] rfl ?_
    exact F _ _ hSt V
  · replace F := F.2 q15
    refine x_aload_n hM d_Wo_linkBack_38 rfl 0 rfl ?_
    refine x_aload_n hM d_Wo_linkBack_39 rfl 0 rfl ?_
    refine y_getr hG hM V ck_Wo 5 (Nat.le_of_ble_eq_true rfl) rfl rfl w_143 rfl d_Wo_linkBack_40 (1, 0, 0) (30, 5, 0) rfl rfl rfl ?_
    refine x_iload_n hM d_Wo_linkBack_43 rfl 1 rfl ?_
    obtain ⟨c4, F⟩ := F
    refine y_acts hG hM V d_Wo_linkBack_44 c4 ?_
    refine y_getr hG hM V ck_Ac 1 (Nat.le_of_ble_eq_true rfl) rfl rfl w_103 rfl d_Wo_linkBack_45 (20, (Int32.toNatClampNeg v1), 0) (21, (Int32.toNatClampNeg v1), 0) (ok_ac (vp_lt c4)) rfl rfl ?_
    refine x_iload_n hM d_Wo_linkBack_48 rfl 2 rfl ?_
    obtain ⟨c5, F⟩ := F
    refine y_outs hG hM V d_Wo_linkBack_49 (vp_lt c4) c5 ?_
    refine x_iload_n hM d_Wo_linkBack_50 rfl 1 rfl ?_
    refine x_iload_n hM d_Wo_linkBack_51 rfl 2 rfl ?_
    refine x_iconst (v := 0) hM d_Wo_linkBack_52 (by decide) ?_
    refine x_callSN hG hM (r' := r_WP_edgeOf) [.int v1, .int v2, .int 0] rfl yk_WP_edgeOf ⟨Nat.le_of_ble_eq_true rfl, Nat.le_of_ble_eq_true rfl⟩ w_609 w_610 rfl rfl (Nat.le_of_ble_eq_true rfl) d_Wo_linkBack_53 (sem_mono (F _ _ V) ?_)
    intro u7 h F
    obtain ⟨ad14, ρ6, V, hs8, F⟩ := F
    obtain ⟨x9, rfl, F⟩ := F
    have hs8 := (St_eq hs8).symm
    subst hs8
    refine x_callV hG hM (r' := r_Wo_linkOutcome) (ci := 1) [.ref (ad (22, (Int32.toNatClampNeg v1), (Int32.toNatClampNeg v2))), .int x9] rfl rfl (Nat.le_of_ble_eq_true rfl) yk_Wo_linkOutcome ⟨Nat.le_of_ble_eq_true rfl, Nat.le_of_ble_eq_true rfl⟩ w_612 w_614 ws_Wo_linkOutcome rfl rfl (Nat.le_of_ble_eq_true rfl) d_Wo_linkBack_56 (by rw [vT V rfl]; rfl) (sem_mono (F _ _ V) ?_)
    intro u11 h F
    obtain ⟨ad13, ρ10, V, hs12, F⟩ := F
    obtain ⟨rfl, F⟩ := F
    have hs12 := (St_eq hs12).symm
    subst hs12
    refine x_iinc (v := (v2 + 1)) (lv2 := [(2, .int (v2 + 1)), (0, .ref (ad (1, 0, 0))), (1, .int v1)]) hM d_Wo_linkBack_59 (j := 2) rfl rfl (Nat.le_of_ble_eq_true rfl) rfl ?_
    refine x_goto (tgt := 25) hM d_Wo_linkBack_62 (by decide) ?_
    refine x_sub [1, 2, 0] rfl ?_
    exact F _ _ hSt V
set_option maxRecDepth 100000 in
set_option maxHeartbeats 4000000 in
theorem T_Wo_linkOutcome_0 {G : Gc} {M : Mc} {Q : State → Prop} {ad0 : Ro → Nat} {K : (Ro → Nat) → Option Value → Rs → Prop} (hG : gok G) (hM : mok G M r_Wo_linkOutcome Q (KV G [] ad0 K)) (a1 k1 : Nat) (ha1 : a1 < 12) (hk1 : k1 < 3) (v2 : Int32) (ρ : Rs) (F : Y G [] ad0 M Q 2 (fun ad => [(0, .ref (ad (1, 0, 0))), (1, .ref (ad (22, a1, k1))), (2, .int v2), (3, .int 0)]) (fun ad => []) ρ) : Y G [] ad0 M Q 0 (fun ad => [(0, .ref (ad (1, 0, 0))), (1, .ref (ad (22, a1, k1))), (2, .int v2)]) (fun ad => []) ρ := by
  intro ad h hSt V
  show X G M Q 0 [(0, .ref (ad (1, 0, 0))), (1, .ref (ad (22, a1, k1))), (2, .int v2)] [] h
  refine x_iconst (v := 0) hM d_Wo_linkOutcome_0 (by decide) ?_
  refine x_istore_n (lv2 := [(3, .int 0), (0, .ref (ad (1, 0, 0))), (1, .ref (ad (22, a1, k1))), (2, .int v2)]) hM d_Wo_linkOutcome_1 rfl (Nat.le_of_ble_eq_true rfl) rfl ?_
  refine x_sub [1, 2, 3, 0] rfl ?_
  exact F _ _ hSt V
set_option maxRecDepth 100000 in
set_option maxHeartbeats 4000000 in
theorem T_Wo_linkOutcome_2 {G : Gc} {M : Mc} {Q : State → Prop} {ad0 : Ro → Nat} {K : (Ro → Nat) → Option Value → Rs → Prop} (hG : gok G) (hM : mok G M r_Wo_linkOutcome Q (KV G [] ad0 K)) (a1 k1 : Nat) (ha1 : a1 < 12) (hk1 : k1 < 3) (v2 : Int32) (v3 : Int32) (ρ : Rs) (F : ((iR ρ (1, 0, 0) 1) ≤ v3 → (∀ ad, K ad none ρ)) ∧ (¬ (iR ρ (1, 0, 0) 1) ≤ v3 → (vp_in v3 (nR ρ (23, a1, k1)) ∧ (((iR ρ (23, a1, k1) (Int32.toNatClampNeg v3)) = (-1) → (Y G [] ad0 M Q 2 (fun ad => [(0, .ref (ad (1, 0, 0))), (1, .ref (ad (22, a1, k1))), (2, .int v2), (3, .int (v3 + 1))]) (fun ad => []) ρ)) ∧ (¬ (iR ρ (23, a1, k1) (Int32.toNatClampNeg v3)) = (-1) → (vp_in (iR ρ (23, a1, k1) (Int32.toNatClampNeg v3)) (nR ρ (30, 7, 0)) ∧ (vp_in v3 (nR ρ (24, a1, k1)) ∧ (∀ ρ5 : Rs, ρ5 = pI ρ (24, a1, k1) (Int32.toNatClampNeg v3) (iR ρ (30, 7, 0) (Int32.toNatClampNeg (iR ρ (23, a1, k1) (Int32.toNatClampNeg v3)))) → (vp_in (iR ρ (23, a1, k1) (Int32.toNatClampNeg v3)) (nR ρ5 (30, 7, 0)) ∧ (∀ ρ6 : Rs, ρ6 = pI ρ5 (30, 7, 0) (Int32.toNatClampNeg (iR ρ (23, a1, k1) (Int32.toNatClampNeg v3))) (v2 + v3) → (Y G [] ad0 M Q 2 (fun ad => [(0, .ref (ad (1, 0, 0))), (1, .ref (ad (22, a1, k1))), (2, .int v2), (3, .int (v3 + 1))]) (fun ad => []) ρ6))))))))))) : Y G [] ad0 M Q 2 (fun ad => [(0, .ref (ad (1, 0, 0))), (1, .ref (ad (22, a1, k1))), (2, .int v2), (3, .int v3)]) (fun ad => []) ρ := by
  intro ad h hSt V
  show X G M Q 2 [(0, .ref (ad (1, 0, 0))), (1, .ref (ad (22, a1, k1))), (2, .int v2), (3, .int v3)] [] h
  refine x_iload_n hM d_Wo_linkOutcome_2 rfl 3 rfl ?_
  refine x_aload_n hM d_Wo_linkOutcome_3 rfl 0 rfl ?_
  refine y_geti hG hM V ck_Wo 1 (Nat.le_of_ble_eq_true rfl) rfl rfl w_125 rfl d_Wo_linkOutcome_4 (1, 0, 0) rfl rfl ?_
  refine x_icmp_ge (tgt := 53) hM d_Wo_linkOutcome_7 (by decide) (fun q10 => ?_) (fun q10 => ?_)
  · replace F := F.1 q10
    exact x_return hM d_Wo_linkOutcome_53 rfl (y_end V hSt (F _))
  · replace F := F.2 q10
    refine x_aload_n hM d_Wo_linkOutcome_10 rfl 1 rfl ?_
    refine y_getr hG hM V ck_Ou 1 (Nat.le_of_ble_eq_true rfl) rfl rfl w_83 rfl d_Wo_linkOutcome_11 (22, a1, k1) (23, a1, k1) (ok_ou ha1 hk1) rfl rfl ?_
    refine x_iload_n hM d_Wo_linkOutcome_14 rfl 3 rfl ?_
    obtain ⟨c2, F⟩ := F
    refine y_iaload hG hM V d_Wo_linkOutcome_15 (23, a1, k1) (ok_to ha1 hk1) rfl c2 ?_
    refine x_istore (lv2 := [(4, .int (iR ρ (23, a1, k1) (Int32.toNatClampNeg v3))), (0, .ref (ad (1, 0, 0))), (1, .ref (ad (22, a1, k1))), (2, .int v2), (3, .int v3)]) hM d_Wo_linkOutcome_16 (Nat.le_of_ble_eq_true rfl) rfl ?_
    refine x_iload hM d_Wo_linkOutcome_18 0 rfl ?_
    refine x_iconst (v := (-1)) hM d_Wo_linkOutcome_20 (by decide) ?_
    refine x_icmp_eq (tgt := 47) hM d_Wo_linkOutcome_21 (by decide) (fun q9 => ?_) (fun q9 => ?_)
    · replace F := F.1 q9
      refine x_iinc (v := (v3 + 1)) (lv2 := [(3, .int (v3 + 1)), (4, .int (iR ρ (23, a1, k1) (Int32.toNatClampNeg v3))), (0, .ref (ad (1, 0, 0))), (1, .ref (ad (22, a1, k1))), (2, .int v2)]) hM d_Wo_linkOutcome_47 (j := 4) rfl rfl (Nat.le_of_ble_eq_true rfl) rfl ?_
      refine x_goto (tgt := 2) hM d_Wo_linkOutcome_50 (by decide) ?_
      refine x_sub [2, 3, 4, 0] rfl ?_
      exact F _ _ hSt V
    · replace F := F.2 q9
      refine x_aload_n hM d_Wo_linkOutcome_24 rfl 2 rfl ?_
      refine y_getr hG hM V ck_Ou 2 (Nat.le_of_ble_eq_true rfl) rfl rfl w_86 rfl d_Wo_linkOutcome_25 (22, a1, k1) (24, a1, k1) (ok_ou ha1 hk1) rfl rfl ?_
      refine x_iload_n hM d_Wo_linkOutcome_28 rfl 4 rfl ?_
      refine x_aload_n hM d_Wo_linkOutcome_29 rfl 1 rfl ?_
      refine y_getr hG hM V ck_Wo 7 (Nat.le_of_ble_eq_true rfl) rfl rfl w_156 rfl d_Wo_linkOutcome_30 (1, 0, 0) (30, 7, 0) rfl rfl rfl ?_
      refine x_iload hM d_Wo_linkOutcome_33 0 rfl ?_
      obtain ⟨c4, F⟩ := F
      refine y_iaload hG hM V d_Wo_linkOutcome_35 (30, 7, 0) rfl rfl c4 ?_
      obtain ⟨c8, F⟩ := F
      obtain ⟨ρ5, eρ5⟩ : ∃ z : Rs, z = pI ρ (24, a1, k1) (Int32.toNatClampNeg v3) (iR ρ (30, 7, 0) (Int32.toNatClampNeg (iR ρ (23, a1, k1) (Int32.toNatClampNeg v3)))) := ⟨_, rfl⟩
      replace F := F ρ5 eρ5
      refine y_iastore hG hM V d_Wo_linkOutcome_36 (24, a1, k1) (ok_nx ha1 hk1) rfl c8 (fun h V => ?_)
      rw [← eρ5] at V
      clear eρ5
      refine x_aload_n hM d_Wo_linkOutcome_37 rfl 1 rfl ?_
      refine y_getr hG hM V ck_Wo 7 (Nat.le_of_ble_eq_true rfl) rfl rfl w_156 rfl d_Wo_linkOutcome_38 (1, 0, 0) (30, 7, 0) rfl rfl rfl ?_
      refine x_iload hM d_Wo_linkOutcome_41 0 rfl ?_
      refine x_iload_n hM d_Wo_linkOutcome_43 rfl 3 rfl ?_
      refine x_iload_n hM d_Wo_linkOutcome_44 rfl 4 rfl ?_
      refine x_iadd hM d_Wo_linkOutcome_45 ?_
      obtain ⟨c7, F⟩ := F
      obtain ⟨ρ6, eρ6⟩ : ∃ z : Rs, z = pI ρ5 (30, 7, 0) (Int32.toNatClampNeg (iR ρ (23, a1, k1) (Int32.toNatClampNeg v3))) (v2 + v3) := ⟨_, rfl⟩
      replace F := F ρ6 eρ6
      refine y_iastore hG hM V d_Wo_linkOutcome_46 (30, 7, 0) rfl rfl c7 (fun h V => ?_)
      rw [← eρ6] at V
      clear eρ6
      refine x_iinc (v := (v3 + 1)) (lv2 := [(3, .int (v3 + 1)), (4, .int (iR ρ (23, a1, k1) (Int32.toNatClampNeg v3))), (0, .ref (ad (1, 0, 0))), (1, .ref (ad (22, a1, k1))), (2, .int v2)]) hM d_Wo_linkOutcome_47 (j := 4) rfl rfl (Nat.le_of_ble_eq_true rfl) rfl ?_
      refine x_goto (tgt := 2) hM d_Wo_linkOutcome_50 (by decide) ?_
      refine x_sub [2, 3, 4, 0] rfl ?_
      exact F _ _ hSt V
set_option maxRecDepth 100000 in
set_option maxHeartbeats 4000000 in
theorem T_Wo_nextInto_0 {G : Gc} {M : Mc} {Q : State → Prop} {ad0 : Ro → Nat} {K : (Ro → Nat) → Option Value → Rs → Prop} (hG : gok G) (hM : mok G M r_Wo_nextInto Q (KV G [] ad0 K)) (v1 : Int32) (ρ : Rs) (F : vp_in (v1 >>> (14 &&& 31)) 12 ∧ (vp_in ((v1 >>> (12 &&& 31)) &&& 3) 3 ∧ (vp_in (v1 &&& 4095) (nR ρ (24, (Int32.toNatClampNeg (v1 >>> (14 &&& 31))), (Int32.toNatClampNeg ((v1 >>> (12 &&& 31)) &&& 3)))) ∧ (∀ ad, K ad (some (.int (iR ρ (24, (Int32.toNatClampNeg (v1 >>> (14 &&& 31))), (Int32.toNatClampNeg ((v1 >>> (12 &&& 31)) &&& 3))) (Int32.toNatClampNeg (v1 &&& 4095))))) ρ)))) : Y G [] ad0 M Q 0 (fun ad => [(0, .ref (ad (1, 0, 0))), (1, .int v1)]) (fun ad => []) ρ := by
  intro ad h hSt V
  show X G M Q 0 [(0, .ref (ad (1, 0, 0))), (1, .int v1)] [] h
  refine x_aload_n hM d_Wo_nextInto_0 rfl 0 rfl ?_
  refine y_getr hG hM V ck_Wo 5 (Nat.le_of_ble_eq_true rfl) rfl rfl w_143 rfl d_Wo_nextInto_1 (1, 0, 0) (30, 5, 0) rfl rfl rfl ?_
  refine x_iload_n hM d_Wo_nextInto_4 rfl 1 rfl ?_
  refine x_bipush (v := 14) hM d_Wo_nextInto_5 (by decide) ?_
  refine x_ishr hM d_Wo_nextInto_7 ?_
  obtain ⟨c1, F⟩ := F
  refine y_acts hG hM V d_Wo_nextInto_8 c1 ?_
  refine y_getr hG hM V ck_Ac 1 (Nat.le_of_ble_eq_true rfl) rfl rfl w_103 rfl d_Wo_nextInto_9 (20, (Int32.toNatClampNeg (v1 >>> (14 &&& 31))), 0) (21, (Int32.toNatClampNeg (v1 >>> (14 &&& 31))), 0) (ok_ac (vp_lt c1)) rfl rfl ?_
  refine x_iload_n hM d_Wo_nextInto_12 rfl 1 rfl ?_
  refine x_bipush (v := 12) hM d_Wo_nextInto_13 (by decide) ?_
  refine x_ishr hM d_Wo_nextInto_15 ?_
  refine x_iconst (v := 3) hM d_Wo_nextInto_16 (by decide) ?_
  refine x_iand hM d_Wo_nextInto_17 ?_
  obtain ⟨c2, F⟩ := F
  refine y_outs hG hM V d_Wo_nextInto_18 (vp_lt c1) c2 ?_
  refine y_getr hG hM V ck_Ou 2 (Nat.le_of_ble_eq_true rfl) rfl rfl w_86 rfl d_Wo_nextInto_19 (22, (Int32.toNatClampNeg (v1 >>> (14 &&& 31))), (Int32.toNatClampNeg ((v1 >>> (12 &&& 31)) &&& 3))) (24, (Int32.toNatClampNeg (v1 >>> (14 &&& 31))), (Int32.toNatClampNeg ((v1 >>> (12 &&& 31)) &&& 3))) (ok_ou (vp_lt c1) (vp_lt c2)) rfl rfl ?_
  refine x_iload_n hM d_Wo_nextInto_22 rfl 1 rfl ?_
  refine x_sipush (v := 4095) hM d_Wo_nextInto_23 (by decide) ?_
  refine x_iand hM d_Wo_nextInto_26 ?_
  obtain ⟨c3, F⟩ := F
  refine y_iaload hG hM V d_Wo_nextInto_27 (24, (Int32.toNatClampNeg (v1 >>> (14 &&& 31))), (Int32.toNatClampNeg ((v1 >>> (12 &&& 31)) &&& 3))) (ok_nx (vp_lt c1) (vp_lt c2)) rfl c3 ?_
  exact x_ireturn hM d_Wo_nextInto_28 rfl (y_end V hSt (F _))
set_option maxRecDepth 100000 in
set_option maxHeartbeats 4000000 in
theorem T_Wo_behind_0 {G : Gc} {M : Mc} {Q : State → Prop} {ad0 : Ro → Nat} {K : (Ro → Nat) → Option Value → Rs → Prop} (hG : gok G) (hM : mok G M r_Wo_behind Q (KV G [] ad0 K)) (v1 : Int32) (ρ : Rs) (F : semV G r_WP_actOf [] (fun ad => [.int v1]) ρ (fun ad u2 ρ1 => ∃ x4 : Int32, u2 = some (.int x4) ∧ (vp_in x4 12 ∧ (semV G r_WP_outcomeOf [] (fun ad => [.int v1]) ρ1 (fun ad u7 ρ6 => ∃ x9 : Int32, u7 = some (.int x9) ∧ (vp_in x9 3 ∧ (semV G r_WP_stateOf [] (fun ad => [.int v1]) ρ6 (fun ad u12 ρ11 => ∃ x14 : Int32, u12 = some (.int x14) ∧ (vp_in x14 (nR ρ11 (23, (Int32.toNatClampNeg x4), (Int32.toNatClampNeg x9))) ∧ (∀ ad, K ad (some (.int (iR ρ11 (23, (Int32.toNatClampNeg x4), (Int32.toNatClampNeg x9)) (Int32.toNatClampNeg x14)))) ρ11)))))))))) : Y G [] ad0 M Q 0 (fun ad => [(0, .ref (ad (1, 0, 0))), (1, .int v1)]) (fun ad => []) ρ := by
  intro ad h hSt V
  show X G M Q 0 [(0, .ref (ad (1, 0, 0))), (1, .int v1)] [] h
  refine x_aload_n hM d_Wo_behind_0 rfl 0 rfl ?_
  refine y_getr hG hM V ck_Wo 5 (Nat.le_of_ble_eq_true rfl) rfl rfl w_143 rfl d_Wo_behind_1 (1, 0, 0) (30, 5, 0) rfl rfl rfl ?_
  refine x_iload_n hM d_Wo_behind_4 rfl 1 rfl ?_
  refine x_callSN hG hM (r' := r_WP_actOf) [.int v1] rfl yk_WP_actOf ⟨Nat.le_of_ble_eq_true rfl, Nat.le_of_ble_eq_true rfl⟩ w_798 w_672 rfl rfl (Nat.le_of_ble_eq_true rfl) d_Wo_behind_5 (sem_mono (F _ _ V) ?_)
  intro u2 h F
  obtain ⟨ad18, ρ1, V, hs3, F⟩ := F
  obtain ⟨x4, rfl, F⟩ := F
  have hs3 := (St_eq hs3).symm
  subst hs3
  obtain ⟨c5, F⟩ := F
  refine y_acts hG hM V d_Wo_behind_8 c5 ?_
  refine y_getr hG hM V ck_Ac 1 (Nat.le_of_ble_eq_true rfl) rfl rfl w_103 rfl d_Wo_behind_9 (20, (Int32.toNatClampNeg x4), 0) (21, (Int32.toNatClampNeg x4), 0) (ok_ac (vp_lt c5)) rfl rfl ?_
  refine x_iload_n hM d_Wo_behind_12 rfl 1 rfl ?_
  refine x_callSN hG hM (r' := r_WP_outcomeOf) [.int v1] rfl yk_WP_outcomeOf ⟨Nat.le_of_ble_eq_true rfl, Nat.le_of_ble_eq_true rfl⟩ w_799 w_800 rfl rfl (Nat.le_of_ble_eq_true rfl) d_Wo_behind_13 (sem_mono (F _ _ V) ?_)
  intro u7 h F
  obtain ⟨ad17, ρ6, V, hs8, F⟩ := F
  obtain ⟨x9, rfl, F⟩ := F
  have hs8 := (St_eq hs8).symm
  subst hs8
  obtain ⟨c10, F⟩ := F
  refine y_outs hG hM V d_Wo_behind_16 (vp_lt c5) c10 ?_
  refine y_getr hG hM V ck_Ou 1 (Nat.le_of_ble_eq_true rfl) rfl rfl w_83 rfl d_Wo_behind_17 (22, (Int32.toNatClampNeg x4), (Int32.toNatClampNeg x9)) (23, (Int32.toNatClampNeg x4), (Int32.toNatClampNeg x9)) (ok_ou (vp_lt c5) (vp_lt c10)) rfl rfl ?_
  refine x_iload_n hM d_Wo_behind_20 rfl 1 rfl ?_
  refine x_callSN hG hM (r' := r_WP_stateOf) [.int v1] rfl yk_WP_stateOf ⟨Nat.le_of_ble_eq_true rfl, Nat.le_of_ble_eq_true rfl⟩ w_802 w_665 rfl rfl (Nat.le_of_ble_eq_true rfl) d_Wo_behind_21 (sem_mono (F _ _ V) ?_)
  intro u12 h F
  obtain ⟨ad16, ρ11, V, hs13, F⟩ := F
  obtain ⟨x14, rfl, F⟩ := F
  have hs13 := (St_eq hs13).symm
  subst hs13
  obtain ⟨c15, F⟩ := F
  refine y_iaload hG hM V d_Wo_behind_24 (23, (Int32.toNatClampNeg x4), (Int32.toNatClampNeg x9)) (ok_to (vp_lt c5) (vp_lt c10)) rfl c15 ?_
  exact x_ireturn hM d_Wo_behind_25 rfl (y_end V hSt (F _))
