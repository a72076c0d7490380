set_option maxRecDepth 100000 in
set_option maxHeartbeats 4000000 in
theorem T_Ki_regroup_0 {G : Gc} {M : Mc} {Q : State → Prop} {ad0 : Ro → Nat} {K : (Ro → Nat) → Option Value → Rs → Prop} (hG : gok G) (hM : mok G M r_Ki_regroup Q (KV G [] ad0 K)) (a1 : Nat) (ha1 : a1 < 12) (v2 : Int32) (v3 : Int32) (ρ : Rs) (F : Y G [] ad0 M Q 6 (fun ad => [(0, .ref (ad (7, 0, 0))), (1, .ref (ad (20, a1, 0))), (2, .int v2), (3, .int v3), (4, .int 2), (5, .int 0)]) (fun ad => []) ρ) : Y G [] ad0 M Q 0 (fun ad => [(0, .ref (ad (7, 0, 0))), (1, .ref (ad (20, a1, 0))), (2, .int v2), (3, .int v3)]) (fun ad => []) ρ := by
  intro ad h hSt V
  show X G M Q 0 [(0, .ref (ad (7, 0, 0))), (1, .ref (ad (20, a1, 0))), (2, .int v2), (3, .int v3)] [] h
  refine x_iconst (v := 2) hM d_Ki_regroup_0 (by decide) ?_
  refine x_istore (lv2 := [(4, .int 2), (0, .ref (ad (7, 0, 0))), (1, .ref (ad (20, a1, 0))), (2, .int v2), (3, .int v3)]) hM d_Ki_regroup_1 (Nat.le_of_ble_eq_true rfl) rfl ?_
  refine x_iconst (v := 0) hM d_Ki_regroup_3 (by decide) ?_
  refine x_istore (lv2 := [(5, .int 0), (4, .int 2), (0, .ref (ad (7, 0, 0))), (1, .ref (ad (20, a1, 0))), (2, .int v2), (3, .int v3)]) hM d_Ki_regroup_4 (Nat.le_of_ble_eq_true rfl) rfl ?_
  refine x_sub [2, 3, 4, 5, 1, 0] rfl ?_
  exact F _ _ hSt V
set_option maxRecDepth 100000 in
set_option maxHeartbeats 4000000 in
theorem T_Ki_regroup_6 {G : Gc} {M : Mc} {Q : State → Prop} {ad0 : Ro → Nat} {K : (Ro → Nat) → Option Value → Rs → Prop} (hG : gok G) (hM : mok G M r_Ki_regroup Q (KV G [] ad0 K)) (a1 : Nat) (ha1 : a1 < 12) (v2 : Int32) (v3 : Int32) (v4 : Int32) (v5 : Int32) (ρ : Rs) (F : (12 ≤ v5 → (semV G r_Ar_fill [] (fun ad => [.ref (ad (34, 16, 0)), .int 0, .int v4, .int (-1)]) ρ (fun ad u2 ρ1 => u2 = none ∧ (Y G [] ad0 M Q 54 (fun ad => [(0, .ref (ad (7, 0, 0))), (1, .ref (ad (20, a1, 0))), (2, .int v2), (4, .int v4), (5, .int 0), (6, .int (v3 - 1))]) (fun ad => []) ρ1)))) ∧ (¬ 12 ≤ v5 → (((2 * (v3 - v2)) ≤ v4 → (semV G r_Ar_fill [] (fun ad => [.ref (ad (34, 16, 0)), .int 0, .int v4, .int (-1)]) ρ (fun ad u6 ρ5 => u6 = none ∧ (Y G [] ad0 M Q 54 (fun ad => [(0, .ref (ad (7, 0, 0))), (1, .ref (ad (20, a1, 0))), (2, .int v2), (4, .int v4), (5, .int 0), (6, .int (v3 - 1))]) (fun ad => []) ρ5)))) ∧ (¬ (2 * (v3 - v2)) ≤ v4 → (Y G [] ad0 M Q 6 (fun ad => [(0, .ref (ad (7, 0, 0))), (1, .ref (ad (20, a1, 0))), (2, .int v2), (3, .int v3), (4, .int (v4 * 2)), (5, .int (v5 + 1))]) (fun ad => []) ρ))))) : Y G [] ad0 M Q 6 (fun ad => [(0, .ref (ad (7, 0, 0))), (1, .ref (ad (20, a1, 0))), (2, .int v2), (3, .int v3), (4, .int v4), (5, .int v5)]) (fun ad => []) ρ := by
  intro ad h hSt V
  show X G M Q 6 [(0, .ref (ad (7, 0, 0))), (1, .ref (ad (20, a1, 0))), (2, .int v2), (3, .int v3), (4, .int v4), (5, .int v5)] [] h
  refine x_iload hM d_Ki_regroup_6 5 rfl ?_
  refine x_bipush (v := 12) hM d_Ki_regroup_8 (by decide) ?_
  refine x_icmp_ge (tgt := 35) hM d_Ki_regroup_10 (by decide) (fun q10 => ?_) (fun q10 => ?_)
  · replace F := F.1 q10
    refine x_aload_n hM d_Ki_regroup_35 rfl 0 rfl ?_
    refine y_getr hG hM V ck_Ki 16 (Nat.le_of_ble_eq_true rfl) rfl rfl w_341 rfl d_Ki_regroup_36 (7, 0, 0) (34, 16, 0) rfl rfl rfl ?_
    refine x_iconst (v := 0) hM d_Ki_regroup_39 (by decide) ?_
    refine x_iload hM d_Ki_regroup_40 4 rfl ?_
    refine x_iconst (v := (-1)) hM d_Ki_regroup_42 (by decide) ?_
    refine x_callS hG hM (r' := r_Ar_fill) [.ref (ad (34, 16, 0)), .int 0, .int v4, .int (-1)] rfl yk_Ar_fill ⟨Nat.le_of_ble_eq_true rfl, Nat.le_of_ble_eq_true rfl⟩ w_727 w_604 rfl rfl (Nat.le_of_ble_eq_true rfl) d_Ki_regroup_43 (sem_mono (F _ _ V) ?_)
    intro u2 h F
    obtain ⟨ad4, ρ1, V, hs3, F⟩ := F
    obtain ⟨rfl, F⟩ := F
    have hs3 := (St_eq hs3).symm
    subst hs3
    refine x_iconst (v := 0) hM d_Ki_regroup_46 (by decide) ?_
    refine x_istore (lv2 := [(5, .int 0), (0, .ref (ad (7, 0, 0))), (1, .ref (ad (20, a1, 0))), (2, .int v2), (3, .int v3), (4, .int v4)]) hM d_Ki_regroup_47 (Nat.le_of_ble_eq_true rfl) rfl ?_
    refine x_iload_n hM d_Ki_regroup_49 rfl 4 rfl ?_
    refine x_iconst (v := 1) hM d_Ki_regroup_50 (by decide) ?_
    refine x_isub hM d_Ki_regroup_51 ?_
    refine x_istore (lv2 := [(6, .int (v3 - 1)), (5, .int 0), (0, .ref (ad (7, 0, 0))), (1, .ref (ad (20, a1, 0))), (2, .int v2), (3, .int v3), (4, .int v4)]) hM d_Ki_regroup_52 (Nat.le_of_ble_eq_true rfl) rfl ?_
    refine x_sub [2, 3, 4, 6, 1, 0] rfl ?_
    exact F _ _ hSt V
  · replace F := F.2 q10
    refine x_iload hM d_Ki_regroup_13 4 rfl ?_
    refine x_iconst (v := 2) hM d_Ki_regroup_15 (by decide) ?_
    refine x_iload_n hM d_Ki_regroup_16 rfl 3 rfl ?_
    refine x_iload_n hM d_Ki_regroup_17 rfl 2 rfl ?_
    refine x_isub hM d_Ki_regroup_18 ?_
    refine x_imul hM d_Ki_regroup_19 ?_
    refine x_icmp_ge (tgt := 35) hM d_Ki_regroup_20 (by decide) (fun q9 => ?_) (fun q9 => ?_)
    · replace F := F.1 q9
      refine x_aload_n hM d_Ki_regroup_35 rfl 0 rfl ?_
      refine y_getr hG hM V ck_Ki 16 (Nat.le_of_ble_eq_true rfl) rfl rfl w_341 rfl d_Ki_regroup_36 (7, 0, 0) (34, 16, 0) rfl rfl rfl ?_
      refine x_iconst (v := 0) hM d_Ki_regroup_39 (by decide) ?_
      refine x_iload hM d_Ki_regroup_40 4 rfl ?_
      refine x_iconst (v := (-1)) hM d_Ki_regroup_42 (by decide) ?_
      refine x_callS hG hM (r' := r_Ar_fill) [.ref (ad (34, 16, 0)), .int 0, .int v4, .int (-1)] rfl yk_Ar_fill ⟨Nat.le_of_ble_eq_true rfl, Nat.le_of_ble_eq_true rfl⟩ w_727 w_604 rfl rfl (Nat.le_of_ble_eq_true rfl) d_Ki_regroup_43 (sem_mono (F _ _ V) ?_)
      intro u6 h F
      obtain ⟨ad8, ρ5, V, hs7, F⟩ := F
      obtain ⟨rfl, F⟩ := F
      have hs7 := (St_eq hs7).symm
      subst hs7
      refine x_iconst (v := 0) hM d_Ki_regroup_46 (by decide) ?_
      refine x_istore (lv2 := [(5, .int 0), (0, .ref (ad (7, 0, 0))), (1, .ref (ad (20, a1, 0))), (2, .int v2), (3, .int v3), (4, .int v4)]) hM d_Ki_regroup_47 (Nat.le_of_ble_eq_true rfl) rfl ?_
      refine x_iload_n hM d_Ki_regroup_49 rfl 4 rfl ?_
      refine x_iconst (v := 1) hM d_Ki_regroup_50 (by decide) ?_
      refine x_isub hM d_Ki_regroup_51 ?_
      refine x_istore (lv2 := [(6, .int (v3 - 1)), (5, .int 0), (0, .ref (ad (7, 0, 0))), (1, .ref (ad (20, a1, 0))), (2, .int v2), (3, .int v3), (4, .int v4)]) hM d_Ki_regroup_52 (Nat.le_of_ble_eq_true rfl) rfl ?_
      refine x_sub [2, 3, 4, 6, 1, 0] rfl ?_
      exact F _ _ hSt V
    · replace F := F.2 q9
      refine x_iload hM d_Ki_regroup_23 4 rfl ?_
      refine x_iconst (v := 2) hM d_Ki_regroup_25 (by decide) ?_
      refine x_imul hM d_Ki_regroup_26 ?_
      refine x_istore (lv2 := [(4, .int (v4 * 2)), (0, .ref (ad (7, 0, 0))), (1, .ref (ad (20, a1, 0))), (2, .int v2), (3, .int v3), (5, .int v5)]) hM d_Ki_regroup_27 (Nat.le_of_ble_eq_true rfl) rfl ?_
      refine x_iinc (v := (v5 + 1)) (lv2 := [(5, .int (v5 + 1)), (4, .int (v4 * 2)), (0, .ref (ad (7, 0, 0))), (1, .ref (ad (20, a1, 0))), (2, .int v2), (3, .int v3)]) hM d_Ki_regroup_29 (j := 5) rfl rfl (Nat.le_of_ble_eq_true rfl) rfl ?_
      refine x_goto (tgt := 6) hM d_Ki_regroup_32 (by decide) ?_
      refine x_sub [2, 3, 4, 5, 1, 0] rfl ?_
      exact F _ _ hSt V
set_option maxRecDepth 100000 in
set_option maxHeartbeats 4000000 in
theorem T_Ki_regroup_54 {G : Gc} {M : Mc} {Q : State → Prop} {ad0 : Ro → Nat} {K : (Ro → Nat) → Option Value → Rs → Prop} (hG : gok G) (hM : mok G M r_Ki_regroup Q (KV G [] ad0 K)) (a1 : Nat) (ha1 : a1 < 12) (v2 : Int32) (v4 : Int32) (v5 : Int32) (v6 : Int32) (ρ : Rs) (F : (v6 < v2 → (∀ ad, K ad (some (.int v5)) ρ)) ∧ (¬ v6 < v2 → (vp_in v6 (nR ρ (34, 4, 0)) ∧ (vp_in (iR ρ (34, 4, 0) (Int32.toNatClampNeg v6)) (nR ρ (34, 12, 0)) ∧ (semV G r_Ki_kindsBehind [] (fun ad => [.ref (ad (7, 0, 0)), .ref (ad (20, a1, 0)), .int (iR ρ (34, 4, 0) (Int32.toNatClampNeg v6))]) ρ (fun ad u6 ρ5 => ∃ x8 : Int64, u6 = some (.long x8) ∧ (semV G r_Ki_slotOf [] (fun ad => [.ref (ad (7, 0, 0)), .long (((Int32.toInt64 (iR ρ (34, 12, 0) (Int32.toNatClampNeg (iR ρ (34, 4, 0) (Int32.toNatClampNeg v6))))) <<< (Int32.toInt64 37 &&& 63)) ||| x8), .int (v4 - 1)]) ρ5 (fun ad u10 ρ9 => ∃ x12 : Int32, u10 = some (.int x12) ∧ (vp_in x12 (nR ρ9 (34, 16, 0)) ∧ (((iR ρ9 (34, 16, 0) (Int32.toNatClampNeg x12)) = (-1) → (vp_in x12 (nR ρ9 (34, 16, 0)) ∧ (∀ ρ17 : Rs, ρ17 = pI ρ9 (34, 16, 0) (Int32.toNatClampNeg x12) v5 → (vp_in x12 (nR ρ17 (34, 17, 0)) ∧ (∀ ρ18 : Rs, ρ18 = pL ρ17 (34, 17, 0) (Int32.toNatClampNeg x12) (((Int32.toInt64 (iR ρ (34, 12, 0) (Int32.toNatClampNeg (iR ρ (34, 4, 0) (Int32.toNatClampNeg v6))))) <<< (Int32.toInt64 37 &&& 63)) ||| x8) → (vp_in x12 (nR ρ18 (34, 16, 0)) ∧ (vp_in (iR ρ (34, 4, 0) (Int32.toNatClampNeg v6)) (nR ρ18 (34, 12, 0)) ∧ (∀ ρ20 : Rs, ρ20 = pI ρ18 (34, 12, 0) (Int32.toNatClampNeg (iR ρ (34, 4, 0) (Int32.toNatClampNeg v6))) (iR ρ18 (34, 16, 0) (Int32.toNatClampNeg x12)) → (Y G [] ad0 M Q 54 (fun ad => [(0, .ref (ad (7, 0, 0))), (1, .ref (ad (20, a1, 0))), (2, .int v2), (4, .int v4), (5, .int (v5 + 1)), (6, .int (v6 + (-1)))]) (fun ad => []) ρ20))))))))) ∧ (¬ (iR ρ9 (34, 16, 0) (Int32.toNatClampNeg x12)) = (-1) → (vp_in x12 (nR ρ9 (34, 16, 0)) ∧ (vp_in (iR ρ (34, 4, 0) (Int32.toNatClampNeg v6)) (nR ρ9 (34, 12, 0)) ∧ (∀ ρ15 : Rs, ρ15 = pI ρ9 (34, 12, 0) (Int32.toNatClampNeg (iR ρ (34, 4, 0) (Int32.toNatClampNeg v6))) (iR ρ9 (34, 16, 0) (Int32.toNatClampNeg x12)) → (Y G [] ad0 M Q 54 (fun ad => [(0, .ref (ad (7, 0, 0))), (1, .ref (ad (20, a1, 0))), (2, .int v2), (4, .int v4), (5, .int v5), (6, .int (v6 + (-1)))]) (fun ad => []) ρ15))))))))))))))) : Y G [] ad0 M Q 54 (fun ad => [(0, .ref (ad (7, 0, 0))), (1, .ref (ad (20, a1, 0))), (2, .int v2), (4, .int v4), (5, .int v5), (6, .int v6)]) (fun ad => []) ρ := by
  intro ad h hSt V
  show X G M Q 54 [(0, .ref (ad (7, 0, 0))), (1, .ref (ad (20, a1, 0))), (2, .int v2), (4, .int v4), (5, .int v5), (6, .int v6)] [] h
  refine x_iload hM d_Ki_regroup_54 5 rfl ?_
  refine x_iload_n hM d_Ki_regroup_56 rfl 2 rfl ?_
  refine x_icmp_lt (tgt := 154) hM d_Ki_regroup_57 (by decide) (fun q27 => ?_) (fun q27 => ?_)
  · replace F := F.1 q27
    refine x_iload hM d_Ki_regroup_154 4 rfl ?_
    exact x_ireturn hM d_Ki_regroup_156 rfl (y_end V hSt (F _))
  · replace F := F.2 q27
    refine x_aload_n hM d_Ki_regroup_60 rfl 0 rfl ?_
    refine y_getr hG hM V ck_Ki 4 (Nat.le_of_ble_eq_true rfl) rfl rfl w_329 rfl d_Ki_regroup_61 (7, 0, 0) (34, 4, 0) rfl rfl rfl ?_
    refine x_iload hM d_Ki_regroup_64 5 rfl ?_
    obtain ⟨c3, F⟩ := F
    refine y_iaload hG hM V d_Ki_regroup_66 (34, 4, 0) rfl rfl c3 ?_
    refine x_istore (lv2 := [(7, .int (iR ρ (34, 4, 0) (Int32.toNatClampNeg v6))), (0, .ref (ad (7, 0, 0))), (1, .ref (ad (20, a1, 0))), (2, .int v2), (4, .int v4), (5, .int v5), (6, .int v6)]) hM d_Ki_regroup_67 (Nat.le_of_ble_eq_true rfl) rfl ?_
    refine x_aload_n hM d_Ki_regroup_69 rfl 1 rfl ?_
    refine y_getr hG hM V ck_Ki 12 (Nat.le_of_ble_eq_true rfl) rfl rfl w_337 rfl d_Ki_regroup_70 (7, 0, 0) (34, 12, 0) rfl rfl rfl ?_
    refine x_iload hM d_Ki_regroup_73 0 rfl ?_
    obtain ⟨c4, F⟩ := F
    refine y_iaload hG hM V d_Ki_regroup_75 (34, 12, 0) rfl rfl c4 ?_
    refine x_i2l hM d_Ki_regroup_76 ?_
    refine x_bipush (v := 37) hM d_Ki_regroup_77 (by decide) ?_
    refine x_lshl hM d_Ki_regroup_79 ?_
    refine x_aload_n hM d_Ki_regroup_80 rfl 1 rfl ?_
    refine x_aload_n hM d_Ki_regroup_81 rfl 2 rfl ?_
    refine x_iload hM d_Ki_regroup_82 0 rfl ?_
    refine x_callV hG hM (r' := r_Ki_kindsBehind) (ci := 9) [.ref (ad (20, a1, 0)), .int (iR ρ (34, 4, 0) (Int32.toNatClampNeg v6))] rfl rfl (Nat.le_of_ble_eq_true rfl) yk_Ki_kindsBehind ⟨Nat.le_of_ble_eq_true rfl, Nat.le_of_ble_eq_true rfl⟩ w_728 w_730 ws_Ki_kindsBehind rfl rfl (Nat.le_of_ble_eq_true rfl) d_Ki_regroup_84 (by rw [vT V rfl]; rfl) (sem_mono (F _ _ V) ?_)
    intro u6 h F
    obtain ⟨ad26, ρ5, V, hs7, F⟩ := F
    obtain ⟨x8, rfl, F⟩ := F
    have hs7 := (St_eq hs7).symm
    subst hs7
    refine x_lor hM d_Ki_regroup_87 ?_
    refine x_lstore (lv2 := [(8, .long (((Int32.toInt64 (iR ρ (34, 12, 0) (Int32.toNatClampNeg (iR ρ (34, 4, 0) (Int32.toNatClampNeg v6))))) <<< (Int32.toInt64 37 &&& 63)) ||| x8)), (7, .int (iR ρ (34, 4, 0) (Int32.toNatClampNeg v6))), (0, .ref (ad (7, 0, 0))), (1, .ref (ad (20, a1, 0))), (2, .int v2), (4, .int v4), (5, .int v5), (6, .int v6)]) hM d_Ki_regroup_88 (Nat.le_of_ble_eq_true rfl) rfl ?_
    refine x_aload_n hM d_Ki_regroup_90 rfl 2 rfl ?_
    refine x_lload hM d_Ki_regroup_91 0 rfl ?_
    refine x_iload hM d_Ki_regroup_93 5 rfl ?_
    refine x_iconst (v := 1) hM d_Ki_regroup_95 (by decide) ?_
    refine x_isub hM d_Ki_regroup_96 ?_
    refine x_callV hG hM (r' := r_Ki_slotOf) (ci := 9) [.long (((Int32.toInt64 (iR ρ (34, 12, 0) (Int32.toNatClampNeg (iR ρ (34, 4, 0) (Int32.toNatClampNeg v6))))) <<< (Int32.toInt64 37 &&& 63)) ||| x8), .int (v4 - 1)] rfl rfl (Nat.le_of_ble_eq_true rfl) yk_Ki_slotOf ⟨Nat.le_of_ble_eq_true rfl, Nat.le_of_ble_eq_true rfl⟩ w_736 w_738 ws_Ki_slotOf rfl rfl (Nat.le_of_ble_eq_true rfl) d_Ki_regroup_97 (by rw [vT V rfl]; rfl) (sem_mono (F _ _ V) ?_)
    intro u10 h F
    obtain ⟨ad25, ρ9, V, hs11, F⟩ := F
    obtain ⟨x12, rfl, F⟩ := F
    have hs11 := (St_eq hs11).symm
    subst hs11
    refine x_istore (lv2 := [(10, .int x12), (8, .long (((Int32.toInt64 (iR ρ (34, 12, 0) (Int32.toNatClampNeg (iR ρ (34, 4, 0) (Int32.toNatClampNeg v6))))) <<< (Int32.toInt64 37 &&& 63)) ||| x8)), (7, .int (iR ρ (34, 4, 0) (Int32.toNatClampNeg v6))), (0, .ref (ad (7, 0, 0))), (1, .ref (ad (20, a1, 0))), (2, .int v2), (4, .int v4), (5, .int v5), (6, .int v6)]) hM d_Ki_regroup_100 (Nat.le_of_ble_eq_true rfl) rfl ?_
    refine x_aload_n hM d_Ki_regroup_102 rfl 3 rfl ?_
    refine y_getr hG hM V ck_Ki 16 (Nat.le_of_ble_eq_true rfl) rfl rfl w_341 rfl d_Ki_regroup_103 (7, 0, 0) (34, 16, 0) rfl rfl rfl ?_
    refine x_iload hM d_Ki_regroup_106 0 rfl ?_
    obtain ⟨c13, F⟩ := F
    refine y_iaload hG hM V d_Ki_regroup_108 (34, 16, 0) rfl rfl c13 ?_
    refine x_iconst (v := (-1)) hM d_Ki_regroup_109 (by decide) ?_
    refine x_icmp_ne (tgt := 134) hM d_Ki_regroup_110 (by decide) (fun q24 => ?_) (fun q24 => ?_)
    · replace F := F.2 q24
      refine x_aload_n hM d_Ki_regroup_134 rfl 3 rfl ?_
      refine y_getr hG hM V ck_Ki 12 (Nat.le_of_ble_eq_true rfl) rfl rfl w_337 rfl d_Ki_regroup_135 (7, 0, 0) (34, 12, 0) rfl rfl rfl ?_
      refine x_iload hM d_Ki_regroup_138 2 rfl ?_
      refine x_aload_n hM d_Ki_regroup_140 rfl 3 rfl ?_
      refine y_getr hG hM V ck_Ki 16 (Nat.le_of_ble_eq_true rfl) rfl rfl w_341 rfl d_Ki_regroup_141 (7, 0, 0) (34, 16, 0) rfl rfl rfl ?_
      refine x_iload hM d_Ki_regroup_144 0 rfl ?_
      obtain ⟨c14, F⟩ := F
      refine y_iaload hG hM V d_Ki_regroup_146 (34, 16, 0) rfl rfl c14 ?_
      obtain ⟨c16, F⟩ := F
      obtain ⟨ρ15, eρ15⟩ : ∃ z : Rs, z = pI ρ9 (34, 12, 0) (Int32.toNatClampNeg (iR ρ (34, 4, 0) (Int32.toNatClampNeg v6))) (iR ρ9 (34, 16, 0) (Int32.toNatClampNeg x12)) := ⟨_, rfl⟩
      replace F := F ρ15 eρ15
      refine y_iastore hG hM V d_Ki_regroup_147 (34, 12, 0) rfl rfl c16 (fun h V => ?_)
      rw [← eρ15] at V
      clear eρ15
      refine x_iinc (v := (v6 + (-1))) (lv2 := [(6, .int (v6 + (-1))), (10, .int x12), (8, .long (((Int32.toInt64 (iR ρ (34, 12, 0) (Int32.toNatClampNeg (iR ρ (34, 4, 0) (Int32.toNatClampNeg v6))))) <<< (Int32.toInt64 37 &&& 63)) ||| x8)), (7, .int (iR ρ (34, 4, 0) (Int32.toNatClampNeg v6))), (0, .ref (ad (7, 0, 0))), (1, .ref (ad (20, a1, 0))), (2, .int v2), (4, .int v4), (5, .int v5)]) hM d_Ki_regroup_148 (j := 8) rfl rfl (Nat.le_of_ble_eq_true rfl) rfl ?_
      refine x_goto (tgt := 54) hM d_Ki_regroup_151 (by decide) ?_
      refine x_sub [4, 5, 6, 7, 8, 0] rfl ?_
      exact F _ _ hSt V
    · replace F := F.1 q24
      refine x_aload_n hM d_Ki_regroup_113 rfl 3 rfl ?_
      refine y_getr hG hM V ck_Ki 16 (Nat.le_of_ble_eq_true rfl) rfl rfl w_341 rfl d_Ki_regroup_114 (7, 0, 0) (34, 16, 0) rfl rfl rfl ?_
      refine x_iload hM d_Ki_regroup_117 0 rfl ?_
      refine x_iload hM d_Ki_regroup_119 7 rfl ?_
      obtain ⟨c23, F⟩ := F
      obtain ⟨ρ17, eρ17⟩ : ∃ z : Rs, z = pI ρ9 (34, 16, 0) (Int32.toNatClampNeg x12) v5 := ⟨_, rfl⟩
      replace F := F ρ17 eρ17
      refine y_iastore hG hM V d_Ki_regroup_121 (34, 16, 0) rfl rfl c23 (fun h V => ?_)
      rw [← eρ17] at V
      clear eρ17
      refine x_aload_n hM d_Ki_regroup_122 rfl 3 rfl ?_
      refine y_getr hG hM V ck_Ki 17 (Nat.le_of_ble_eq_true rfl) rfl rfl w_342 rfl d_Ki_regroup_123 (7, 0, 0) (34, 17, 0) rfl rfl rfl ?_
      refine x_iload hM d_Ki_regroup_126 0 rfl ?_
      refine x_lload hM d_Ki_regroup_128 1 rfl ?_
      obtain ⟨c22, F⟩ := F
      obtain ⟨ρ18, eρ18⟩ : ∃ z : Rs, z = pL ρ17 (34, 17, 0) (Int32.toNatClampNeg x12) (((Int32.toInt64 (iR ρ (34, 12, 0) (Int32.toNatClampNeg (iR ρ (34, 4, 0) (Int32.toNatClampNeg v6))))) <<< (Int32.toInt64 37 &&& 63)) ||| x8) := ⟨_, rfl⟩
      replace F := F ρ18 eρ18
      refine y_lastore hG hM V d_Ki_regroup_130 (34, 17, 0) rfl rfl c22 (fun h V => ?_)
      rw [← eρ18] at V
      clear eρ18
      refine x_iinc (v := (v5 + 1)) (lv2 := [(5, .int (v5 + 1)), (10, .int x12), (8, .long (((Int32.toInt64 (iR ρ (34, 12, 0) (Int32.toNatClampNeg (iR ρ (34, 4, 0) (Int32.toNatClampNeg v6))))) <<< (Int32.toInt64 37 &&& 63)) ||| x8)), (7, .int (iR ρ (34, 4, 0) (Int32.toNatClampNeg v6))), (0, .ref (ad (7, 0, 0))), (1, .ref (ad (20, a1, 0))), (2, .int v2), (4, .int v4), (6, .int v6)]) hM d_Ki_regroup_131 (j := 7) rfl rfl (Nat.le_of_ble_eq_true rfl) rfl ?_
      refine x_aload_n hM d_Ki_regroup_134 rfl 4 rfl ?_
      refine y_getr hG hM V ck_Ki 12 (Nat.le_of_ble_eq_true rfl) rfl rfl w_337 rfl d_Ki_regroup_135 (7, 0, 0) (34, 12, 0) rfl rfl rfl ?_
      refine x_iload hM d_Ki_regroup_138 3 rfl ?_
      refine x_aload_n hM d_Ki_regroup_140 rfl 4 rfl ?_
      refine y_getr hG hM V ck_Ki 16 (Nat.le_of_ble_eq_true rfl) rfl rfl w_341 rfl d_Ki_regroup_141 (7, 0, 0) (34, 16, 0) rfl rfl rfl ?_
      refine x_iload hM d_Ki_regroup_144 1 rfl ?_
      obtain ⟨c19, F⟩ := F
      refine y_iaload hG hM V d_Ki_regroup_146 (34, 16, 0) rfl rfl c19 ?_
      obtain ⟨c21, F⟩ := F
      obtain ⟨ρ20, eρ20⟩ : ∃ z : Rs, z = pI ρ18 (34, 12, 0) (Int32.toNatClampNeg (iR ρ (34, 4, 0) (Int32.toNatClampNeg v6))) (iR ρ18 (34, 16, 0) (Int32.toNatClampNeg x12)) := ⟨_, rfl⟩
      replace F := F ρ20 eρ20
      refine y_iastore hG hM V d_Ki_regroup_147 (34, 12, 0) rfl rfl c21 (fun h V => ?_)
      rw [← eρ20] at V
      clear eρ20
      refine x_iinc (v := (v6 + (-1))) (lv2 := [(6, .int (v6 + (-1))), (5, .int (v5 + 1)), (10, .int x12), (8, .long (((Int32.toInt64 (iR ρ (34, 12, 0) (Int32.toNatClampNeg (iR ρ (34, 4, 0) (Int32.toNatClampNeg v6))))) <<< (Int32.toInt64 37 &&& 63)) ||| x8)), (7, .int (iR ρ (34, 4, 0) (Int32.toNatClampNeg v6))), (0, .ref (ad (7, 0, 0))), (1, .ref (ad (20, a1, 0))), (2, .int v2), (4, .int v4)]) hM d_Ki_regroup_148 (j := 8) rfl rfl (Nat.le_of_ble_eq_true rfl) rfl ?_
      refine x_goto (tgt := 54) hM d_Ki_regroup_151 (by decide) ?_
      refine x_sub [5, 6, 7, 8, 1, 0] rfl ?_
      exact F _ _ hSt V
set_option maxRecDepth 100000 in
set_option maxHeartbeats 4000000 in
theorem T_Ki_kindsBehind_0 {G : Gc} {M : Mc} {Q : State → Prop} {ad0 : Ro → Nat} {K : (Ro → Nat) → Option Value → Rs → Prop} (hG : gok G) (hM : mok G M r_Ki_kindsBehind Q (KV G [] ad0 K)) (a1 : Nat) (ha1 : a1 < 12) (v2 : Int32) (ρ : Rs) (F : semV G r_Ac_canBeDone [] (fun ad => [.ref (ad (20, a1, 0)), .int v2]) ρ (fun ad u2 ρ1 => ∃ x4 : Int32, u2 = some (.int x4) ∧ ((x4 = 0 → (∀ ad, K ad (some (.long 0)) ρ1)) ∧ (¬ x4 = 0 → (vp_in 0 3 ∧ (vp_in v2 (nR ρ1 (23, a1, (Int32.toNatClampNeg 0))) ∧ (vp_in (iR ρ1 (23, a1, (Int32.toNatClampNeg 0)) (Int32.toNatClampNeg v2)) (nR ρ1 (34, 2, 0)) ∧ ((¬ (iR ρ1 (20, a1, 0) 2) ≤ 1 → (vp_in 1 3 ∧ vp_in v2 (nR ρ1 (23, a1, (Int32.toNatClampNeg 1))) ∧ vp_in (iR ρ1 (23, a1, (Int32.toNatClampNeg 1)) (Int32.toNatClampNeg v2)) (nR ρ1 (34, 2, 0)))) ∧ (∀ z11 : Int32, z11 = (if (iR ρ1 (20, a1, 0) 2) ≤ 1 then (iR ρ1 (34, 2, 0) (Int32.toNatClampNeg (iR ρ1 (23, a1, (Int32.toNatClampNeg 0)) (Int32.toNatClampNeg v2)))) else (iR ρ1 (34, 2, 0) (Int32.toNatClampNeg (iR ρ1 (23, a1, (Int32.toNatClampNeg 1)) (Int32.toNatClampNeg v2))))) → ((¬ (iR ρ1 (20, a1, 0) 2) ≤ 2 → (vp_in 2 3 ∧ vp_in v2 (nR ρ1 (23, a1, (Int32.toNatClampNeg 2))) ∧ vp_in (iR ρ1 (23, a1, (Int32.toNatClampNeg 2)) (Int32.toNatClampNeg v2)) (nR ρ1 (34, 2, 0)))) ∧ (∀ z15 : Int32, z15 = (if (iR ρ1 (20, a1, 0) 2) ≤ 2 then (iR ρ1 (34, 2, 0) (Int32.toNatClampNeg (iR ρ1 (23, a1, (Int32.toNatClampNeg 0)) (Int32.toNatClampNeg v2)))) else (iR ρ1 (34, 2, 0) (Int32.toNatClampNeg (iR ρ1 (23, a1, (Int32.toNatClampNeg 2)) (Int32.toNatClampNeg v2))))) → (∀ z16 : Int32, z16 = (if z15 < z11 then z15 else z11) → (∀ z17 : Int32, z17 = (if z16 < (iR ρ1 (34, 2, 0) (Int32.toNatClampNeg (iR ρ1 (23, a1, (Int32.toNatClampNeg 0)) (Int32.toNatClampNeg v2)))) then z16 else (iR ρ1 (34, 2, 0) (Int32.toNatClampNeg (iR ρ1 (23, a1, (Int32.toNatClampNeg 0)) (Int32.toNatClampNeg v2))))) → (∀ z18 : Int32, z18 = (if z11 < z15 then z15 else z11) → (∀ z19 : Int32, z19 = (if (iR ρ1 (34, 2, 0) (Int32.toNatClampNeg (iR ρ1 (23, a1, (Int32.toNatClampNeg 0)) (Int32.toNatClampNeg v2)))) < z18 then z18 else (iR ρ1 (34, 2, 0) (Int32.toNatClampNeg (iR ρ1 (23, a1, (Int32.toNatClampNeg 0)) (Int32.toNatClampNeg v2))))) → (∀ z20 : Int32, z20 = (if (((((iR ρ1 (34, 2, 0) (Int32.toNatClampNeg (iR ρ1 (23, a1, (Int32.toNatClampNeg 0)) (Int32.toNatClampNeg v2)))) ^^^ z11) ^^^ z15) ^^^ z17) ^^^ z19) = z19 then z17 else (((((iR ρ1 (34, 2, 0) (Int32.toNatClampNeg (iR ρ1 (23, a1, (Int32.toNatClampNeg 0)) (Int32.toNatClampNeg v2)))) ^^^ z11) ^^^ z15) ^^^ z17) ^^^ z19)) → (∀ ad, K ad (some (.long (1 + ((((Int32.toInt64 z17) <<< (Int32.toInt64 24 &&& 63)) ||| ((Int32.toInt64 z20) <<< (Int32.toInt64 12 &&& 63))) ||| (Int32.toInt64 z19))))) ρ1))))))))))))))))) : Y G [] ad0 M Q 0 (fun ad => [(0, .ref (ad (7, 0, 0))), (1, .ref (ad (20, a1, 0))), (2, .int v2)]) (fun ad => []) ρ := by
  intro ad h hSt V
  show X G M Q 0 [(0, .ref (ad (7, 0, 0))), (1, .ref (ad (20, a1, 0))), (2, .int v2)] [] h
  refine x_aload_n hM d_Ki_kindsBehind_0 rfl 1 rfl ?_
  refine x_iload_n hM d_Ki_kindsBehind_1 rfl 2 rfl ?_
  refine x_callV hG hM (r' := r_Ac_canBeDone) (ci := 2) [.int v2] rfl rfl (Nat.le_of_ble_eq_true rfl) yk_Ac_canBeDone ⟨Nat.le_of_ble_eq_true rfl, Nat.le_of_ble_eq_true rfl⟩ w_732 w_631 w_632 rfl rfl (Nat.le_of_ble_eq_true rfl) d_Ki_kindsBehind_2 (by rw [vT V (ok_ac ha1)]; rfl) (sem_mono (F _ _ V) ?_)
  intro u2 h F
  obtain ⟨ad25, ρ1, V, hs3, F⟩ := F
  obtain ⟨x4, rfl, F⟩ := F
  have hs3 := (St_eq hs3).symm
  subst hs3
  refine x_if_ne (tgt := 10) hM d_Ki_kindsBehind_5 (by decide) (fun q24 => ?_) (fun q24 => ?_)
  · replace F := F.2 q24
    refine x_aload_n hM d_Ki_kindsBehind_10 rfl 0 rfl ?_
    refine y_getr hG hM V ck_Ki 2 (Nat.le_of_ble_eq_true rfl) rfl rfl w_325 rfl d_Ki_kindsBehind_11 (7, 0, 0) (34, 2, 0) rfl rfl rfl ?_
    refine x_aload_n hM d_Ki_kindsBehind_14 rfl 1 rfl ?_
    refine y_getr hG hM V ck_Ac 1 (Nat.le_of_ble_eq_true rfl) rfl rfl w_102 rfl d_Ki_kindsBehind_15 (20, a1, 0) (21, a1, 0) (ok_ac ha1) rfl rfl ?_
    refine x_iconst (v := 0) hM d_Ki_kindsBehind_18 (by decide) ?_
    obtain ⟨c5, F⟩ := F
    refine y_outs hG hM V d_Ki_kindsBehind_19 ha1 c5 ?_
    refine y_getr hG hM V ck_Ou 1 (Nat.le_of_ble_eq_true rfl) rfl rfl w_82 rfl d_Ki_kindsBehind_20 (22, a1, (Int32.toNatClampNeg 0)) (23, a1, (Int32.toNatClampNeg 0)) (ok_ou ha1 (vp_lt c5)) rfl rfl ?_
    refine x_iload_n hM d_Ki_kindsBehind_23 rfl 2 rfl ?_
    obtain ⟨c6, F⟩ := F
    refine y_iaload hG hM V d_Ki_kindsBehind_24 (23, a1, (Int32.toNatClampNeg 0)) (ok_to ha1 (vp_lt c5)) rfl c6 ?_
    obtain ⟨c7, F⟩ := F
    refine y_iaload hG hM V d_Ki_kindsBehind_25 (34, 2, 0) rfl rfl c7 ?_
    refine x_istore_n (lv2 := [(3, .int (iR ρ1 (34, 2, 0) (Int32.toNatClampNeg (iR ρ1 (23, a1, (Int32.toNatClampNeg 0)) (Int32.toNatClampNeg v2))))), (0, .ref (ad (7, 0, 0))), (1, .ref (ad (20, a1, 0))), (2, .int v2)]) hM d_Ki_kindsBehind_26 rfl (Nat.le_of_ble_eq_true rfl) rfl ?_
    refine x_aload_n hM d_Ki_kindsBehind_27 rfl 2 rfl ?_
    refine y_geti hG hM V ck_Ac 2 (Nat.le_of_ble_eq_true rfl) rfl rfl w_110 rfl d_Ki_kindsBehind_28 (20, a1, 0) (ok_ac ha1) rfl ?_
    refine x_iconst (v := 1) hM d_Ki_kindsBehind_31 (by decide) ?_
    obtain ⟨S, F⟩ := F
    have JJ : ∀ (z11 : Int32) (ez11 : z11 = (if (iR ρ1 (20, a1, 0) 2) ≤ 1 then (iR ρ1 (34, 2, 0) (Int32.toNatClampNeg (iR ρ1 (23, a1, (Int32.toNatClampNeg 0)) (Int32.toNatClampNeg v2)))) else (iR ρ1 (34, 2, 0) (Int32.toNatClampNeg (iR ρ1 (23, a1, (Int32.toNatClampNeg 1)) (Int32.toNatClampNeg v2)))))), X G M Q 55 [(0, .ref (ad (7, 0, 0))), (1, .ref (ad (20, a1, 0))), (2, .int v2), (3, .int (iR ρ1 (34, 2, 0) (Int32.toNatClampNeg (iR ρ1 (23, a1, (Int32.toNatClampNeg 0)) (Int32.toNatClampNeg v2)))))] [.int z11] h := by
      intro z11 ez11
      replace F := F _ ez11
      refine x_istore (lv2 := [(4, .int z11), (0, .ref (ad (7, 0, 0))), (1, .ref (ad (20, a1, 0))), (2, .int v2), (3, .int (iR ρ1 (34, 2, 0) (Int32.toNatClampNeg (iR ρ1 (23, a1, (Int32.toNatClampNeg 0)) (Int32.toNatClampNeg v2)))))]) hM d_Ki_kindsBehind_55 (Nat.le_of_ble_eq_true rfl) rfl ?_
      refine x_aload_n hM d_Ki_kindsBehind_57 rfl 2 rfl ?_
      refine y_geti hG hM V ck_Ac 2 (Nat.le_of_ble_eq_true rfl) rfl rfl w_110 rfl d_Ki_kindsBehind_58 (20, a1, 0) (ok_ac ha1) rfl ?_
      refine x_iconst (v := 2) hM d_Ki_kindsBehind_61 (by decide) ?_
      obtain ⟨S, F⟩ := F
      have JJ : ∀ (z15 : Int32) (ez15 : z15 = (if (iR ρ1 (20, a1, 0) 2) ≤ 2 then (iR ρ1 (34, 2, 0) (Int32.toNatClampNeg (iR ρ1 (23, a1, (Int32.toNatClampNeg 0)) (Int32.toNatClampNeg v2)))) else (iR ρ1 (34, 2, 0) (Int32.toNatClampNeg (iR ρ1 (23, a1, (Int32.toNatClampNeg 2)) (Int32.toNatClampNeg v2)))))), X G M Q 85 [(3, .int (iR ρ1 (34, 2, 0) (Int32.toNatClampNeg (iR ρ1 (23, a1, (Int32.toNatClampNeg 0)) (Int32.toNatClampNeg v2))))), (4, .int z11)] [.int z15] h := by
        intro z15 ez15
        replace F := F _ ez15
        refine x_istore (lv2 := [(5, .int z15), (3, .int (iR ρ1 (34, 2, 0) (Int32.toNatClampNeg (iR ρ1 (23, a1, (Int32.toNatClampNeg 0)) (Int32.toNatClampNeg v2))))), (4, .int z11)]) hM d_Ki_kindsBehind_85 (Nat.le_of_ble_eq_true rfl) rfl ?_
        refine x_iload_n hM d_Ki_kindsBehind_87 rfl 1 rfl ?_
        refine x_iload hM d_Ki_kindsBehind_88 2 rfl ?_
        refine x_iload hM d_Ki_kindsBehind_90 0 rfl ?_
        obtain ⟨z16, ez16⟩ : ∃ z : Int32, z = (if z15 < z11 then z15 else z11) := ⟨_, rfl⟩
        replace F := F z16 ez16
        refine x_mmin hG hM rfl w_720 w_721 w_14 w_mmin (Nat.le_of_ble_eq_true rfl) (Nat.le_of_ble_eq_true rfl) d_Ki_kindsBehind_92 ?_
        rw [← ez16]
        clear ez16
        obtain ⟨z17, ez17⟩ : ∃ z : Int32, z = (if z16 < (iR ρ1 (34, 2, 0) (Int32.toNatClampNeg (iR ρ1 (23, a1, (Int32.toNatClampNeg 0)) (Int32.toNatClampNeg v2)))) then z16 else (iR ρ1 (34, 2, 0) (Int32.toNatClampNeg (iR ρ1 (23, a1, (Int32.toNatClampNeg 0)) (Int32.toNatClampNeg v2))))) := ⟨_, rfl⟩
        replace F := F z17 ez17
        refine x_mmin hG hM rfl w_720 w_721 w_14 w_mmin (Nat.le_of_ble_eq_true rfl) (Nat.le_of_ble_eq_true rfl) d_Ki_kindsBehind_95 ?_
        rw [← ez17]
        clear ez17
        refine x_istore (lv2 := [(6, .int z17), (5, .int z15), (3, .int (iR ρ1 (34, 2, 0) (Int32.toNatClampNeg (iR ρ1 (23, a1, (Int32.toNatClampNeg 0)) (Int32.toNatClampNeg v2))))), (4, .int z11)]) hM d_Ki_kindsBehind_98 (Nat.le_of_ble_eq_true rfl) rfl ?_
        refine x_iload_n hM d_Ki_kindsBehind_100 rfl 2 rfl ?_
        refine x_iload hM d_Ki_kindsBehind_101 3 rfl ?_
        refine x_iload hM d_Ki_kindsBehind_103 1 rfl ?_
        obtain ⟨z18, ez18⟩ : ∃ z : Int32, z = (if z11 < z15 then z15 else z11) := ⟨_, rfl⟩
        replace F := F z18 ez18
        refine x_mmax hG hM rfl w_733 w_734 w_14 w_mmax (Nat.le_of_ble_eq_true rfl) (Nat.le_of_ble_eq_true rfl) d_Ki_kindsBehind_105 ?_
        rw [← ez18]
        clear ez18
        obtain ⟨z19, ez19⟩ : ∃ z : Int32, z = (if (iR ρ1 (34, 2, 0) (Int32.toNatClampNeg (iR ρ1 (23, a1, (Int32.toNatClampNeg 0)) (Int32.toNatClampNeg v2)))) < z18 then z18 else (iR ρ1 (34, 2, 0) (Int32.toNatClampNeg (iR ρ1 (23, a1, (Int32.toNatClampNeg 0)) (Int32.toNatClampNeg v2))))) := ⟨_, rfl⟩
        replace F := F z19 ez19
        refine x_mmax hG hM rfl w_733 w_734 w_14 w_mmax (Nat.le_of_ble_eq_true rfl) (Nat.le_of_ble_eq_true rfl) d_Ki_kindsBehind_108 ?_
        rw [← ez19]
        clear ez19
        refine x_istore (lv2 := [(7, .int z19), (6, .int z17), (5, .int z15), (3, .int (iR ρ1 (34, 2, 0) (Int32.toNatClampNeg (iR ρ1 (23, a1, (Int32.toNatClampNeg 0)) (Int32.toNatClampNeg v2))))), (4, .int z11)]) hM d_Ki_kindsBehind_111 (Nat.le_of_ble_eq_true rfl) rfl ?_
        refine x_iload_n hM d_Ki_kindsBehind_113 rfl 3 rfl ?_
        refine x_iload hM d_Ki_kindsBehind_114 4 rfl ?_
        refine x_ixor hM d_Ki_kindsBehind_116 ?_
        refine x_iload hM d_Ki_kindsBehind_117 2 rfl ?_
        refine x_ixor hM d_Ki_kindsBehind_119 ?_
        refine x_iload hM d_Ki_kindsBehind_120 1 rfl ?_
        refine x_ixor hM d_Ki_kindsBehind_122 ?_
        refine x_iload hM d_Ki_kindsBehind_123 0 rfl ?_
        refine x_ixor hM d_Ki_kindsBehind_125 ?_
        refine x_istore (lv2 := [(8, .int (((((iR ρ1 (34, 2, 0) (Int32.toNatClampNeg (iR ρ1 (23, a1, (Int32.toNatClampNeg 0)) (Int32.toNatClampNeg v2)))) ^^^ z11) ^^^ z15) ^^^ z17) ^^^ z19)), (7, .int z19), (6, .int z17), (5, .int z15), (3, .int (iR ρ1 (34, 2, 0) (Int32.toNatClampNeg (iR ρ1 (23, a1, (Int32.toNatClampNeg 0)) (Int32.toNatClampNeg v2))))), (4, .int z11)]) hM d_Ki_kindsBehind_126 (Nat.le_of_ble_eq_true rfl) rfl ?_
        refine x_iload hM d_Ki_kindsBehind_128 0 rfl ?_
        refine x_iload hM d_Ki_kindsBehind_130 1 rfl ?_
        have JJ : ∀ (z20 : Int32) (ez20 : z20 = (if (((((iR ρ1 (34, 2, 0) (Int32.toNatClampNeg (iR ρ1 (23, a1, (Int32.toNatClampNeg 0)) (Int32.toNatClampNeg v2)))) ^^^ z11) ^^^ z15) ^^^ z17) ^^^ z19) = z19 then z17 else (((((iR ρ1 (34, 2, 0) (Int32.toNatClampNeg (iR ρ1 (23, a1, (Int32.toNatClampNeg 0)) (Int32.toNatClampNeg v2)))) ^^^ z11) ^^^ z15) ^^^ z17) ^^^ z19))), X G M Q 139 [(6, .int z17), (7, .int z19), (8, .int z20)] [] h := by
          intro z20 ez20
          replace F := F _ ez20
          refine x_lconst (v := 1) hM d_Ki_kindsBehind_139 (by decide) ?_
          refine x_iload hM d_Ki_kindsBehind_140 0 rfl ?_
          refine x_i2l hM d_Ki_kindsBehind_142 ?_
          refine x_bipush (v := 24) hM d_Ki_kindsBehind_143 (by decide) ?_
          refine x_lshl hM d_Ki_kindsBehind_145 ?_
          refine x_iload hM d_Ki_kindsBehind_146 2 rfl ?_
          refine x_i2l hM d_Ki_kindsBehind_148 ?_
          refine x_bipush (v := 12) hM d_Ki_kindsBehind_149 (by decide) ?_
          refine x_lshl hM d_Ki_kindsBehind_151 ?_
          refine x_lor hM d_Ki_kindsBehind_152 ?_
          refine x_iload hM d_Ki_kindsBehind_153 1 rfl ?_
          refine x_i2l hM d_Ki_kindsBehind_155 ?_
          refine x_lor hM d_Ki_kindsBehind_156 ?_
          refine x_ladd hM d_Ki_kindsBehind_157 ?_
          exact x_lreturn hM d_Ki_kindsBehind_158 rfl (y_end V hSt (F _))
        refine x_icmp_ne (tgt := 139) hM d_Ki_kindsBehind_132 (by decide) (fun q21 => ?_) (fun q21 => ?_)
        · refine x_sub [2, 1, 0] rfl ?_
          exact JJ _ (Eq.symm (if_neg q21))
        · refine x_iload hM d_Ki_kindsBehind_135 2 rfl ?_
          refine x_istore (lv2 := [(8, .int z17), (7, .int z19), (6, .int z17), (5, .int z15), (3, .int (iR ρ1 (34, 2, 0) (Int32.toNatClampNeg (iR ρ1 (23, a1, (Int32.toNatClampNeg 0)) (Int32.toNatClampNeg v2))))), (4, .int z11)]) hM d_Ki_kindsBehind_137 (Nat.le_of_ble_eq_true rfl) rfl ?_
          refine x_sub [2, 1, 0] rfl ?_
          exact JJ _ (Eq.symm (if_pos q21))
      refine x_icmp_le (tgt := 84) hM d_Ki_kindsBehind_62 (by decide) (fun q22 => ?_) (fun q22 => ?_)
      · refine x_iload_n hM d_Ki_kindsBehind_84 rfl 4 rfl ?_
        refine x_sub [4, 0] rfl ?_
        exact JJ _ (Eq.symm (if_pos q22))
      · replace S := S q22
        refine x_aload_n hM d_Ki_kindsBehind_65 rfl 1 rfl ?_
        refine y_getr hG hM V ck_Ki 2 (Nat.le_of_ble_eq_true rfl) rfl rfl w_325 rfl d_Ki_kindsBehind_66 (7, 0, 0) (34, 2, 0) rfl rfl rfl ?_
        refine x_aload_n hM d_Ki_kindsBehind_69 rfl 2 rfl ?_
        refine y_getr hG hM V ck_Ac 1 (Nat.le_of_ble_eq_true rfl) rfl rfl w_102 rfl d_Ki_kindsBehind_70 (20, a1, 0) (21, a1, 0) (ok_ac ha1) rfl rfl ?_
        refine x_iconst (v := 2) hM d_Ki_kindsBehind_73 (by decide) ?_
        obtain ⟨c12, S⟩ := S
        refine y_outs hG hM V d_Ki_kindsBehind_74 ha1 c12 ?_
        refine y_getr hG hM V ck_Ou 1 (Nat.le_of_ble_eq_true rfl) rfl rfl w_82 rfl d_Ki_kindsBehind_75 (22, a1, (Int32.toNatClampNeg 2)) (23, a1, (Int32.toNatClampNeg 2)) (ok_ou ha1 (vp_lt c12)) rfl rfl ?_
        refine x_iload_n hM d_Ki_kindsBehind_78 rfl 3 rfl ?_
        obtain ⟨c13, S⟩ := S
        refine y_iaload hG hM V d_Ki_kindsBehind_79 (23, a1, (Int32.toNatClampNeg 2)) (ok_to ha1 (vp_lt c12)) rfl c13 ?_
        have c14 := S
        refine y_iaload hG hM V d_Ki_kindsBehind_80 (34, 2, 0) rfl rfl c14 ?_
        refine x_goto (tgt := 85) hM d_Ki_kindsBehind_81 (by decide) ?_
        refine x_sub [4, 0] rfl ?_
        exact JJ _ (Eq.symm (if_neg q22))
    refine x_icmp_le (tgt := 54) hM d_Ki_kindsBehind_32 (by decide) (fun q23 => ?_) (fun q23 => ?_)
    · refine x_iload_n hM d_Ki_kindsBehind_54 rfl 0 rfl ?_
      refine x_sub [1, 2, 3, 0] rfl ?_
      exact JJ _ (Eq.symm (if_pos q23))
    · replace S := S q23
      refine x_aload_n hM d_Ki_kindsBehind_35 rfl 1 rfl ?_
      refine y_getr hG hM V ck_Ki 2 (Nat.le_of_ble_eq_true rfl) rfl rfl w_325 rfl d_Ki_kindsBehind_36 (7, 0, 0) (34, 2, 0) rfl rfl rfl ?_
      refine x_aload_n hM d_Ki_kindsBehind_39 rfl 2 rfl ?_
      refine y_getr hG hM V ck_Ac 1 (Nat.le_of_ble_eq_true rfl) rfl rfl w_102 rfl d_Ki_kindsBehind_40 (20, a1, 0) (21, a1, 0) (ok_ac ha1) rfl rfl ?_
      refine x_iconst (v := 1) hM d_Ki_kindsBehind_43 (by decide) ?_
      obtain ⟨c8, S⟩ := S
      refine y_outs hG hM V d_Ki_kindsBehind_44 ha1 c8 ?_
      refine y_getr hG hM V ck_Ou 1 (Nat.le_of_ble_eq_true rfl) rfl rfl w_82 rfl d_Ki_kindsBehind_45 (22, a1, (Int32.toNatClampNeg 1)) (23, a1, (Int32.toNatClampNeg 1)) (ok_ou ha1 (vp_lt c8)) rfl rfl ?_
      refine x_iload_n hM d_Ki_kindsBehind_48 rfl 3 rfl ?_
      obtain ⟨c9, S⟩ := S
      refine y_iaload hG hM V d_Ki_kindsBehind_49 (23, a1, (Int32.toNatClampNeg 1)) (ok_to ha1 (vp_lt c8)) rfl c9 ?_
      have c10 := S
      refine y_iaload hG hM V d_Ki_kindsBehind_50 (34, 2, 0) rfl rfl c10 ?_
      refine x_goto (tgt := 55) hM d_Ki_kindsBehind_51 (by decide) ?_
      refine x_sub [1, 2, 3, 0] rfl ?_
      exact JJ _ (Eq.symm (if_neg q23))
  · replace F := F.1 q24
    refine x_lconst (v := 0) hM d_Ki_kindsBehind_8 (by decide) ?_
    exact x_lreturn hM d_Ki_kindsBehind_9 rfl (y_end V hSt (F _))
set_option maxRecDepth 100000 in
set_option maxHeartbeats 4000000 in
theorem T_Ki_slotOf_0 {G : Gc} {M : Mc} {Q : State → Prop} {ad0 : Ro → Nat} {K : (Ro → Nat) → Option Value → Rs → Prop} (hG : gok G) (hM : mok G M r_Ki_slotOf Q (KV G [] ad0 K)) (v1 : Int64) (v3 : Int32) (ρ : Rs) (F : Y G [] ad0 M Q 16 (fun ad => [(0, .ref (ad (7, 0, 0))), (1, .long v1), (3, .int v3), (4, .int ((Int64.toInt32 ((Int64.toUInt64 (v1 * (-7046029254386353131)) >>> ((Int32.toInt64 40).toUInt64 &&& Int64.toUInt64 63)).toInt64)) &&& v3)), (5, .int 0)]) (fun ad => []) ρ) : Y G [] ad0 M Q 0 (fun ad => [(0, .ref (ad (7, 0, 0))), (1, .long v1), (3, .int v3)]) (fun ad => []) ρ := by
  intro ad h hSt V
  show X G M Q 0 [(0, .ref (ad (7, 0, 0))), (1, .long v1), (3, .int v3)] [] h
  refine x_lload_n hM d_Ki_slotOf_0 rfl 1 rfl ?_
  refine x_ldc2 hG hM rfl w_740 d_Ki_slotOf_1 ?_
  refine x_lmul hM d_Ki_slotOf_4 ?_
  refine x_bipush (v := 40) hM d_Ki_slotOf_5 (by decide) ?_
  refine x_lushr hM d_Ki_slotOf_7 ?_
  refine x_l2i hM d_Ki_slotOf_8 ?_
  refine x_iload_n hM d_Ki_slotOf_9 rfl 2 rfl ?_
  refine x_iand hM d_Ki_slotOf_10 ?_
  refine x_istore (lv2 := [(4, .int ((Int64.toInt32 ((Int64.toUInt64 (v1 * (-7046029254386353131)) >>> ((Int32.toInt64 40).toUInt64 &&& Int64.toUInt64 63)).toInt64)) &&& v3)), (0, .ref (ad (7, 0, 0))), (1, .long v1), (3, .int v3)]) hM d_Ki_slotOf_11 (Nat.le_of_ble_eq_true rfl) rfl ?_
  refine x_iconst (v := 0) hM d_Ki_slotOf_13 (by decide) ?_
  refine x_istore (lv2 := [(5, .int 0), (4, .int ((Int64.toInt32 ((Int64.toUInt64 (v1 * (-7046029254386353131)) >>> ((Int32.toInt64 40).toUInt64 &&& Int64.toUInt64 63)).toInt64)) &&& v3)), (0, .ref (ad (7, 0, 0))), (1, .long v1), (3, .int v3)]) hM d_Ki_slotOf_14 (Nat.le_of_ble_eq_true rfl) rfl ?_
  refine x_sub [2, 3, 4, 1, 0] rfl ?_
  exact F _ _ hSt V
set_option maxRecDepth 100000 in
set_option maxHeartbeats 4000000 in
theorem T_Ki_slotOf_16 {G : Gc} {M : Mc} {Q : State → Prop} {ad0 : Ro → Nat} {K : (Ro → Nat) → Option Value → Rs → Prop} (hG : gok G) (hM : mok G M r_Ki_slotOf Q (KV G [] ad0 K)) (v1 : Int64) (v3 : Int32) (v4 : Int32) (v5 : Int32) (ρ : Rs) (F : (v3 ≤ v5 → (∀ ad, K ad (some (.int v4)) ρ)) ∧ (¬ v3 ≤ v5 → (vp_in v4 (nR ρ (34, 16, 0)) ∧ (((iR ρ (34, 16, 0) (Int32.toNatClampNeg v4)) = (-1) → (∀ ad, K ad (some (.int v4)) ρ)) ∧ (¬ (iR ρ (34, 16, 0) (Int32.toNatClampNeg v4)) = (-1) → (vp_in v4 (nR ρ (34, 17, 0)) ∧ (((lg_cmp (lR ρ (34, 17, 0) (Int32.toNatClampNeg v4)) v1) = 0 → (∀ ad, K ad (some (.int v4)) ρ)) ∧ (¬ (lg_cmp (lR ρ (34, 17, 0) (Int32.toNatClampNeg v4)) v1) = 0 → (Y G [] ad0 M Q 16 (fun ad => [(0, .ref (ad (7, 0, 0))), (1, .long v1), (3, .int v3), (4, .int ((v4 + 1) &&& v3)), (5, .int (v5 + 1))]) (fun ad => []) ρ))))))))) : Y G [] ad0 M Q 16 (fun ad => [(0, .ref (ad (7, 0, 0))), (1, .long v1), (3, .int v3), (4, .int v4), (5, .int v5)]) (fun ad => []) ρ := by
  intro ad h hSt V
  show X G M Q 16 [(0, .ref (ad (7, 0, 0))), (1, .long v1), (3, .int v3), (4, .int v4), (5, .int v5)] [] h
  refine x_iload hM d_Ki_slotOf_16 4 rfl ?_
  refine x_iload_n hM d_Ki_slotOf_18 rfl 2 rfl ?_
  refine x_icmp_ge (tgt := 59) hM d_Ki_slotOf_19 (by decide) (fun q8 => ?_) (fun q8 => ?_)
  · replace F := F.1 q8
    refine x_iload hM d_Ki_slotOf_59 3 rfl ?_
    exact x_ireturn hM d_Ki_slotOf_61 rfl (y_end V hSt (F _))
  · replace F := F.2 q8
    refine x_aload_n hM d_Ki_slotOf_22 rfl 0 rfl ?_
    refine y_getr hG hM V ck_Ki 16 (Nat.le_of_ble_eq_true rfl) rfl rfl w_341 rfl d_Ki_slotOf_23 (7, 0, 0) (34, 16, 0) rfl rfl rfl ?_
    refine x_iload hM d_Ki_slotOf_26 3 rfl ?_
    obtain ⟨c3, F⟩ := F
    refine y_iaload hG hM V d_Ki_slotOf_28 (34, 16, 0) rfl rfl c3 ?_
    refine x_iconst (v := (-1)) hM d_Ki_slotOf_29 (by decide) ?_
    refine x_icmp_eq (tgt := 59) hM d_Ki_slotOf_30 (by decide) (fun q7 => ?_) (fun q7 => ?_)
    · replace F := F.1 q7
      refine x_iload hM d_Ki_slotOf_59 3 rfl ?_
      exact x_ireturn hM d_Ki_slotOf_61 rfl (y_end V hSt (F _))
    · replace F := F.2 q7
      refine x_aload_n hM d_Ki_slotOf_33 rfl 0 rfl ?_
      refine y_getr hG hM V ck_Ki 17 (Nat.le_of_ble_eq_true rfl) rfl rfl w_342 rfl d_Ki_slotOf_34 (7, 0, 0) (34, 17, 0) rfl rfl rfl ?_
      refine x_iload hM d_Ki_slotOf_37 3 rfl ?_
      obtain ⟨c5, F⟩ := F
      refine y_laload hG hM V d_Ki_slotOf_39 (34, 17, 0) rfl rfl c5 ?_
      refine x_lload_n hM d_Ki_slotOf_40 rfl 1 rfl ?_
      refine x_lcmp hM d_Ki_slotOf_41 ?_
      refine x_if_eq (tgt := 59) hM d_Ki_slotOf_42 (by decide) (fun q6 => ?_) (fun q6 => ?_)
      · replace F := F.1 q6
        refine x_iload hM d_Ki_slotOf_59 3 rfl ?_
        exact x_ireturn hM d_Ki_slotOf_61 rfl (y_end V hSt (F _))
      · replace F := F.2 q6
        refine x_iload hM d_Ki_slotOf_45 3 rfl ?_
        refine x_iconst (v := 1) hM d_Ki_slotOf_47 (by decide) ?_
        refine x_iadd hM d_Ki_slotOf_48 ?_
        refine x_iload_n hM d_Ki_slotOf_49 rfl 2 rfl ?_
        refine x_iand hM d_Ki_slotOf_50 ?_
        refine x_istore (lv2 := [(4, .int ((v4 + 1) &&& v3)), (0, .ref (ad (7, 0, 0))), (1, .long v1), (3, .int v3), (5, .int v5)]) hM d_Ki_slotOf_51 (Nat.le_of_ble_eq_true rfl) rfl ?_
        refine x_iinc (v := (v5 + 1)) (lv2 := [(5, .int (v5 + 1)), (4, .int ((v4 + 1) &&& v3)), (0, .ref (ad (7, 0, 0))), (1, .long v1), (3, .int v3)]) hM d_Ki_slotOf_53 (j := 4) rfl rfl (Nat.le_of_ble_eq_true rfl) rfl ?_
        refine x_goto (tgt := 16) hM d_Ki_slotOf_56 (by decide) ?_
        refine x_sub [2, 3, 4, 1, 0] rfl ?_
        exact F _ _ hSt V
set_option maxRecDepth 100000 in
set_option maxHeartbeats 4000000 in
theorem T_Ki_sortByGroup_0 {G : Gc} {M : Mc} {Q : State → Prop} {ad0 : Ro → Nat} {K : (Ro → Nat) → Option Value → Rs → Prop} (hG : gok G) (hM : mok G M r_Ki_sortByGroup Q (KV G [] ad0 K)) (v1 : Int32) (v2 : Int32) (v3 : Int32) (ρ : Rs) (F : semV G r_Ar_fill [] (fun ad => [.ref (ad (34, 13, 0)), .int 0, .int v3, .int 0]) ρ (fun ad u2 ρ1 => u2 = none ∧ (Y G [] ad0 M Q 13 (fun ad => [(0, .ref (ad (7, 0, 0))), (1, .int v1), (2, .int v2), (3, .int v3), (4, .int v1)]) (fun ad => []) ρ1))) : Y G [] ad0 M Q 0 (fun ad => [(0, .ref (ad (7, 0, 0))), (1, .int v1), (2, .int v2), (3, .int v3)]) (fun ad => []) ρ := by
  intro ad h hSt V
  show X G M Q 0 [(0, .ref (ad (7, 0, 0))), (1, .int v1), (2, .int v2), (3, .int v3)] [] h
  refine x_aload_n hM d_Ki_sortByGroup_0 rfl 0 rfl ?_
  refine y_getr hG hM V ck_Ki 13 (Nat.le_of_ble_eq_true rfl) rfl rfl w_338 rfl d_Ki_sortByGroup_1 (7, 0, 0) (34, 13, 0) rfl rfl rfl ?_
  refine x_iconst (v := 0) hM d_Ki_sortByGroup_4 (by decide) ?_
  refine x_iload_n hM d_Ki_sortByGroup_5 rfl 3 rfl ?_
  refine x_iconst (v := 0) hM d_Ki_sortByGroup_6 (by decide) ?_
  refine x_callS hG hM (r' := r_Ar_fill) [.ref (ad (34, 13, 0)), .int 0, .int v3, .int 0] rfl yk_Ar_fill ⟨Nat.le_of_ble_eq_true rfl, Nat.le_of_ble_eq_true rfl⟩ w_727 w_604 rfl rfl (Nat.le_of_ble_eq_true rfl) d_Ki_sortByGroup_7 (sem_mono (F _ _ V) ?_)
  intro u2 h F
  obtain ⟨ad4, ρ1, V, hs3, F⟩ := F
  obtain ⟨rfl, F⟩ := F
  have hs3 := (St_eq hs3).symm
  subst hs3
  refine x_iload_n hM d_Ki_sortByGroup_10 rfl 1 rfl ?_
  refine x_istore (lv2 := [(4, .int v1), (0, .ref (ad (7, 0, 0))), (1, .int v1), (2, .int v2), (3, .int v3)]) hM d_Ki_sortByGroup_11 (Nat.le_of_ble_eq_true rfl) rfl ?_
  refine x_sub [1, 2, 3, 4, 0] rfl ?_
  exact F _ _ hSt V
set_option maxRecDepth 100000 in
set_option maxHeartbeats 4000000 in
theorem T_Ki_sortByGroup_13 {G : Gc} {M : Mc} {Q : State → Prop} {ad0 : Ro → Nat} {K : (Ro → Nat) → Option Value → Rs → Prop} (hG : gok G) (hM : mok G M r_Ki_sortByGroup Q (KV G [] ad0 K)) (v1 : Int32) (v2 : Int32) (v3 : Int32) (v4 : Int32) (ρ : Rs) (F : (v2 ≤ v4 → (Y G [] ad0 M Q 52 (fun ad => [(0, .ref (ad (7, 0, 0))), (1, .int v1), (2, .int v2), (3, .int v3), (4, .int v1), (5, .int 1)]) (fun ad => []) ρ)) ∧ (¬ v2 ≤ v4 → (vp_in v4 (nR ρ (34, 4, 0)) ∧ (vp_in (iR ρ (34, 4, 0) (Int32.toNatClampNeg v4)) (nR ρ (34, 12, 0)) ∧ (vp_in (iR ρ (34, 12, 0) (Int32.toNatClampNeg (iR ρ (34, 4, 0) (Int32.toNatClampNeg v4)))) (nR ρ (34, 13, 0)) ∧ (vp_in (iR ρ (34, 12, 0) (Int32.toNatClampNeg (iR ρ (34, 4, 0) (Int32.toNatClampNeg v4)))) (nR ρ (34, 13, 0)) ∧ (∀ ρ7 : Rs, ρ7 = pI ρ (34, 13, 0) (Int32.toNatClampNeg (iR ρ (34, 12, 0) (Int32.toNatClampNeg (iR ρ (34, 4, 0) (Int32.toNatClampNeg v4))))) ((iR ρ (34, 13, 0) (Int32.toNatClampNeg (iR ρ (34, 12, 0) (Int32.toNatClampNeg (iR ρ (34, 4, 0) (Int32.toNatClampNeg v4)))))) + 1) → (Y G [] ad0 M Q 13 (fun ad => [(0, .ref (ad (7, 0, 0))), (1, .int v1), (2, .int v2), (3, .int v3), (4, .int (v4 + 1))]) (fun ad => []) ρ7)))))))) : Y G [] ad0 M Q 13 (fun ad => [(0, .ref (ad (7, 0, 0))), (1, .int v1), (2, .int v2), (3, .int v3), (4, .int v4)]) (fun ad => []) ρ := by
  intro ad h hSt V
  show X G M Q 13 [(0, .ref (ad (7, 0, 0))), (1, .int v1), (2, .int v2), (3, .int v3), (4, .int v4)] [] h
  refine x_iload hM d_Ki_sortByGroup_13 4 rfl ?_
  refine x_iload_n hM d_Ki_sortByGroup_15 rfl 2 rfl ?_
  refine x_icmp_ge (tgt := 46) hM d_Ki_sortByGroup_16 (by decide) (fun q9 => ?_) (fun q9 => ?_)
  · replace F := F.1 q9
    refine x_iload_n hM d_Ki_sortByGroup_46 rfl 1 rfl ?_
    refine x_istore (lv2 := [(4, .int v1), (0, .ref (ad (7, 0, 0))), (1, .int v1), (2, .int v2), (3, .int v3)]) hM d_Ki_sortByGroup_47 (Nat.le_of_ble_eq_true rfl) rfl ?_
    refine x_iconst (v := 1) hM d_Ki_sortByGroup_49 (by decide) ?_
    refine x_istore (lv2 := [(5, .int 1), (4, .int v1), (0, .ref (ad (7, 0, 0))), (1, .int v1), (2, .int v2), (3, .int v3)]) hM d_Ki_sortByGroup_50 (Nat.le_of_ble_eq_true rfl) rfl ?_
    refine x_sub [2, 3, 4, 5, 1, 0] rfl ?_
    exact F _ _ hSt V
  · replace F := F.2 q9
    refine x_aload_n hM d_Ki_sortByGroup_19 rfl 0 rfl ?_
    refine y_getr hG hM V ck_Ki 13 (Nat.le_of_ble_eq_true rfl) rfl rfl w_338 rfl d_Ki_sortByGroup_20 (7, 0, 0) (34, 13, 0) rfl rfl rfl ?_
    refine x_aload_n hM d_Ki_sortByGroup_23 rfl 0 rfl ?_
    refine y_getr hG hM V ck_Ki 12 (Nat.le_of_ble_eq_true rfl) rfl rfl w_337 rfl d_Ki_sortByGroup_24 (7, 0, 0) (34, 12, 0) rfl rfl rfl ?_
    refine x_aload_n hM d_Ki_sortByGroup_27 rfl 0 rfl ?_
    refine y_getr hG hM V ck_Ki 4 (Nat.le_of_ble_eq_true rfl) rfl rfl w_329 rfl d_Ki_sortByGroup_28 (7, 0, 0) (34, 4, 0) rfl rfl rfl ?_
    refine x_iload hM d_Ki_sortByGroup_31 4 rfl ?_
    obtain ⟨c4, F⟩ := F
    refine y_iaload hG hM V d_Ki_sortByGroup_33 (34, 4, 0) rfl rfl c4 ?_
    obtain ⟨c5, F⟩ := F
    refine y_iaload hG hM V d_Ki_sortByGroup_34 (34, 12, 0) rfl rfl c5 ?_
    refine x_dup2 hM d_Ki_sortByGroup_35 rfl rfl ?_
    obtain ⟨c6, F⟩ := F
    refine y_iaload hG hM V d_Ki_sortByGroup_36 (34, 13, 0) rfl rfl c6 ?_
    refine x_iconst (v := 1) hM d_Ki_sortByGroup_37 (by decide) ?_
    refine x_iadd hM d_Ki_sortByGroup_38 ?_
    obtain ⟨c8, F⟩ := F
    obtain ⟨ρ7, eρ7⟩ : ∃ z : Rs, z = pI ρ (34, 13, 0) (Int32.toNatClampNeg (iR ρ (34, 12, 0) (Int32.toNatClampNeg (iR ρ (34, 4, 0) (Int32.toNatClampNeg v4))))) ((iR ρ (34, 13, 0) (Int32.toNatClampNeg (iR ρ (34, 12, 0) (Int32.toNatClampNeg (iR ρ (34, 4, 0) (Int32.toNatClampNeg v4)))))) + 1) := ⟨_, rfl⟩
    replace F := F ρ7 eρ7
    refine y_iastore hG hM V d_Ki_sortByGroup_39 (34, 13, 0) rfl rfl c8 (fun h V => ?_)
    rw [← eρ7] at V
    clear eρ7
    refine x_iinc (v := (v4 + 1)) (lv2 := [(4, .int (v4 + 1)), (0, .ref (ad (7, 0, 0))), (1, .int v1), (2, .int v2), (3, .int v3)]) hM d_Ki_sortByGroup_40 (j := 4) rfl rfl (Nat.le_of_ble_eq_true rfl) rfl ?_
    refine x_goto (tgt := 13) hM d_Ki_sortByGroup_43 (by decide) ?_
    refine x_sub [1, 2, 3, 4, 0] rfl ?_
    exact F _ _ hSt V
set_option maxRecDepth 100000 in
set_option maxHeartbeats 4000000 in
theorem T_Ki_sortByGroup_52 {G : Gc} {M : Mc} {Q : State → Prop} {ad0 : Ro → Nat} {K : (Ro → Nat) → Option Value → Rs → Prop} (hG : gok G) (hM : mok G M r_Ki_sortByGroup Q (KV G [] ad0 K)) (v1 : Int32) (v2 : Int32) (v3 : Int32) (v4 : Int32) (v5 : Int32) (ρ : Rs) (F : (v3 ≤ v5 → (vp_in 0 (nR ρ (34, 14, 0)) ∧ (∀ ρ1 : Rs, ρ1 = pI ρ (34, 14, 0) (Int32.toNatClampNeg 0) v4 → (Y G [] ad0 M Q 96 (fun ad => [(0, .ref (ad (7, 0, 0))), (1, .int v1), (2, .int v2), (5, .int v1)]) (fun ad => []) ρ1)))) ∧ (¬ v3 ≤ v5 → (vp_in v5 (nR ρ (34, 14, 0)) ∧ (∀ ρ3 : Rs, ρ3 = pI ρ (34, 14, 0) (Int32.toNatClampNeg v5) v4 → (vp_in v5 (nR ρ3 (34, 13, 0)) ∧ (Y G [] ad0 M Q 52 (fun ad => [(0, .ref (ad (7, 0, 0))), (1, .int v1), (2, .int v2), (3, .int v3), (4, .int (v4 + (iR ρ3 (34, 13, 0) (Int32.toNatClampNeg v5)))), (5, .int (v5 + 1))]) (fun ad => []) ρ3)))))) : Y G [] ad0 M Q 52 (fun ad => [(0, .ref (ad (7, 0, 0))), (1, .int v1), (2, .int v2), (3, .int v3), (4, .int v4), (5, .int v5)]) (fun ad => []) ρ := by
  intro ad h hSt V
  show X G M Q 52 [(0, .ref (ad (7, 0, 0))), (1, .int v1), (2, .int v2), (3, .int v3), (4, .int v4), (5, .int v5)] [] h
  refine x_iload hM d_Ki_sortByGroup_52 5 rfl ?_
  refine x_iload_n hM d_Ki_sortByGroup_54 rfl 3 rfl ?_
  refine x_icmp_ge (tgt := 85) hM d_Ki_sortByGroup_55 (by decide) (fun q6 => ?_) (fun q6 => ?_)
  · replace F := F.1 q6
    refine x_aload_n hM d_Ki_sortByGroup_85 rfl 0 rfl ?_
    refine y_getr hG hM V ck_Ki 14 (Nat.le_of_ble_eq_true rfl) rfl rfl w_339 rfl d_Ki_sortByGroup_86 (7, 0, 0) (34, 14, 0) rfl rfl rfl ?_
    refine x_iconst (v := 0) hM d_Ki_sortByGroup_89 (by decide) ?_
    refine x_iload hM d_Ki_sortByGroup_90 4 rfl ?_
    obtain ⟨c2, F⟩ := F
    obtain ⟨ρ1, eρ1⟩ : ∃ z : Rs, z = pI ρ (34, 14, 0) (Int32.toNatClampNeg 0) v4 := ⟨_, rfl⟩
    replace F := F ρ1 eρ1
    refine y_iastore hG hM V d_Ki_sortByGroup_92 (34, 14, 0) rfl rfl c2 (fun h V => ?_)
    rw [← eρ1] at V
    clear eρ1
    refine x_iload_n hM d_Ki_sortByGroup_93 rfl 1 rfl ?_
    refine x_istore (lv2 := [(5, .int v1), (0, .ref (ad (7, 0, 0))), (1, .int v1), (2, .int v2), (3, .int v3), (4, .int v4)]) hM d_Ki_sortByGroup_94 (Nat.le_of_ble_eq_true rfl) rfl ?_
    refine x_sub [1, 2, 3, 0] rfl ?_
    exact F _ _ hSt V
  · replace F := F.2 q6
    refine x_aload_n hM d_Ki_sortByGroup_58 rfl 0 rfl ?_
    refine y_getr hG hM V ck_Ki 14 (Nat.le_of_ble_eq_true rfl) rfl rfl w_339 rfl d_Ki_sortByGroup_59 (7, 0, 0) (34, 14, 0) rfl rfl rfl ?_
    refine x_iload hM d_Ki_sortByGroup_62 5 rfl ?_
    refine x_iload hM d_Ki_sortByGroup_64 4 rfl ?_
    obtain ⟨c5, F⟩ := F
    obtain ⟨ρ3, eρ3⟩ : ∃ z : Rs, z = pI ρ (34, 14, 0) (Int32.toNatClampNeg v5) v4 := ⟨_, rfl⟩
    replace F := F ρ3 eρ3
    refine y_iastore hG hM V d_Ki_sortByGroup_66 (34, 14, 0) rfl rfl c5 (fun h V => ?_)
    rw [← eρ3] at V
    clear eρ3
    refine x_iload hM d_Ki_sortByGroup_67 4 rfl ?_
    refine x_aload_n hM d_Ki_sortByGroup_69 rfl 0 rfl ?_
    refine y_getr hG hM V ck_Ki 13 (Nat.le_of_ble_eq_true rfl) rfl rfl w_338 rfl d_Ki_sortByGroup_70 (7, 0, 0) (34, 13, 0) rfl rfl rfl ?_
    refine x_iload hM d_Ki_sortByGroup_73 5 rfl ?_
    obtain ⟨c4, F⟩ := F
    refine y_iaload hG hM V d_Ki_sortByGroup_75 (34, 13, 0) rfl rfl c4 ?_
    refine x_iadd hM d_Ki_sortByGroup_76 ?_
    refine x_istore (lv2 := [(4, .int (v4 + (iR ρ3 (34, 13, 0) (Int32.toNatClampNeg v5)))), (0, .ref (ad (7, 0, 0))), (1, .int v1), (2, .int v2), (3, .int v3), (5, .int v5)]) hM d_Ki_sortByGroup_77 (Nat.le_of_ble_eq_true rfl) rfl ?_
    refine x_iinc (v := (v5 + 1)) (lv2 := [(5, .int (v5 + 1)), (4, .int (v4 + (iR ρ3 (34, 13, 0) (Int32.toNatClampNeg v5)))), (0, .ref (ad (7, 0, 0))), (1, .int v1), (2, .int v2), (3, .int v3)]) hM d_Ki_sortByGroup_79 (j := 5) rfl rfl (Nat.le_of_ble_eq_true rfl) rfl ?_
    refine x_goto (tgt := 52) hM d_Ki_sortByGroup_82 (by decide) ?_
    refine x_sub [2, 3, 4, 5, 1, 0] rfl ?_
    exact F _ _ hSt V
set_option maxRecDepth 100000 in
set_option maxHeartbeats 4000000 in
theorem T_Ki_sortByGroup_96 {G : Gc} {M : Mc} {Q : State → Prop} {ad0 : Ro → Nat} {K : (Ro → Nat) → Option Value → Rs → Prop} (hG : gok G) (hM : mok G M r_Ki_sortByGroup Q (KV G [] ad0 K)) (v1 : Int32) (v2 : Int32) (v5 : Int32) (ρ : Rs) (F : (v2 ≤ v5 → (Y G [] ad0 M Q 155 (fun ad => [(0, .ref (ad (7, 0, 0))), (2, .int v2), (5, .int v1)]) (fun ad => []) ρ)) ∧ (¬ v2 ≤ v5 → (vp_in v5 (nR ρ (34, 4, 0)) ∧ (vp_in (iR ρ (34, 4, 0) (Int32.toNatClampNeg v5)) (nR ρ (34, 12, 0)) ∧ (vp_in (iR ρ (34, 12, 0) (Int32.toNatClampNeg (iR ρ (34, 4, 0) (Int32.toNatClampNeg v5)))) (nR ρ (34, 14, 0)) ∧ (vp_in v5 (nR ρ (34, 4, 0)) ∧ (vp_in (iR ρ (34, 14, 0) (Int32.toNatClampNeg (iR ρ (34, 12, 0) (Int32.toNatClampNeg (iR ρ (34, 4, 0) (Int32.toNatClampNeg v5)))))) (nR ρ (34, 15, 0)) ∧ (∀ ρ9 : Rs, ρ9 = pI ρ (34, 15, 0) (Int32.toNatClampNeg (iR ρ (34, 14, 0) (Int32.toNatClampNeg (iR ρ (34, 12, 0) (Int32.toNatClampNeg (iR ρ (34, 4, 0) (Int32.toNatClampNeg v5))))))) (iR ρ (34, 4, 0) (Int32.toNatClampNeg v5)) → (vp_in (iR ρ (34, 12, 0) (Int32.toNatClampNeg (iR ρ (34, 4, 0) (Int32.toNatClampNeg v5)))) (nR ρ9 (34, 14, 0)) ∧ (vp_in (iR ρ (34, 12, 0) (Int32.toNatClampNeg (iR ρ (34, 4, 0) (Int32.toNatClampNeg v5)))) (nR ρ9 (34, 14, 0)) ∧ (∀ ρ11 : Rs, ρ11 = pI ρ9 (34, 14, 0) (Int32.toNatClampNeg (iR ρ (34, 12, 0) (Int32.toNatClampNeg (iR ρ (34, 4, 0) (Int32.toNatClampNeg v5))))) ((iR ρ9 (34, 14, 0) (Int32.toNatClampNeg (iR ρ (34, 12, 0) (Int32.toNatClampNeg (iR ρ (34, 4, 0) (Int32.toNatClampNeg v5)))))) + 1) → (Y G [] ad0 M Q 96 (fun ad => [(0, .ref (ad (7, 0, 0))), (1, .int v1), (2, .int v2), (5, .int (v5 + 1))]) (fun ad => []) ρ11)))))))))))) : Y G [] ad0 M Q 96 (fun ad => [(0, .ref (ad (7, 0, 0))), (1, .int v1), (2, .int v2), (5, .int v5)]) (fun ad => []) ρ := by
  intro ad h hSt V
  show X G M Q 96 [(0, .ref (ad (7, 0, 0))), (1, .int v1), (2, .int v2), (5, .int v5)] [] h
  refine x_iload hM d_Ki_sortByGroup_96 3 rfl ?_
  refine x_iload_n hM d_Ki_sortByGroup_98 rfl 2 rfl ?_
  refine x_icmp_ge (tgt := 152) hM d_Ki_sortByGroup_99 (by decide) (fun q14 => ?_) (fun q14 => ?_)
  · replace F := F.1 q14
    refine x_iload_n hM d_Ki_sortByGroup_152 rfl 1 rfl ?_
    refine x_istore (lv2 := [(5, .int v1), (0, .ref (ad (7, 0, 0))), (1, .int v1), (2, .int v2)]) hM d_Ki_sortByGroup_153 (Nat.le_of_ble_eq_true rfl) rfl ?_
    refine x_sub [1, 3, 0] rfl ?_
    exact F _ _ hSt V
  · replace F := F.2 q14
    refine x_aload_n hM d_Ki_sortByGroup_102 rfl 0 rfl ?_
    refine y_getr hG hM V ck_Ki 12 (Nat.le_of_ble_eq_true rfl) rfl rfl w_337 rfl d_Ki_sortByGroup_103 (7, 0, 0) (34, 12, 0) rfl rfl rfl ?_
    refine x_aload_n hM d_Ki_sortByGroup_106 rfl 0 rfl ?_
    refine y_getr hG hM V ck_Ki 4 (Nat.le_of_ble_eq_true rfl) rfl rfl w_329 rfl d_Ki_sortByGroup_107 (7, 0, 0) (34, 4, 0) rfl rfl rfl ?_
    refine x_iload hM d_Ki_sortByGroup_110 3 rfl ?_
    obtain ⟨c5, F⟩ := F
    refine y_iaload hG hM V d_Ki_sortByGroup_112 (34, 4, 0) rfl rfl c5 ?_
    obtain ⟨c6, F⟩ := F
    refine y_iaload hG hM V d_Ki_sortByGroup_113 (34, 12, 0) rfl rfl c6 ?_
    refine x_istore (lv2 := [(6, .int (iR ρ (34, 12, 0) (Int32.toNatClampNeg (iR ρ (34, 4, 0) (Int32.toNatClampNeg v5))))), (0, .ref (ad (7, 0, 0))), (1, .int v1), (2, .int v2), (5, .int v5)]) hM d_Ki_sortByGroup_114 (Nat.le_of_ble_eq_true rfl) rfl ?_
    refine x_aload_n hM d_Ki_sortByGroup_116 rfl 1 rfl ?_
    refine y_getr hG hM V ck_Ki 15 (Nat.le_of_ble_eq_true rfl) rfl rfl w_340 rfl d_Ki_sortByGroup_117 (7, 0, 0) (34, 15, 0) rfl rfl rfl ?_
    refine x_aload_n hM d_Ki_sortByGroup_120 rfl 1 rfl ?_
    refine y_getr hG hM V ck_Ki 14 (Nat.le_of_ble_eq_true rfl) rfl rfl w_339 rfl d_Ki_sortByGroup_121 (7, 0, 0) (34, 14, 0) rfl rfl rfl ?_
    refine x_iload hM d_Ki_sortByGroup_124 0 rfl ?_
    obtain ⟨c7, F⟩ := F
    refine y_iaload hG hM V d_Ki_sortByGroup_126 (34, 14, 0) rfl rfl c7 ?_
    refine x_aload_n hM d_Ki_sortByGroup_127 rfl 1 rfl ?_
    refine y_getr hG hM V ck_Ki 4 (Nat.le_of_ble_eq_true rfl) rfl rfl w_329 rfl d_Ki_sortByGroup_128 (7, 0, 0) (34, 4, 0) rfl rfl rfl ?_
    refine x_iload hM d_Ki_sortByGroup_131 4 rfl ?_
    obtain ⟨c8, F⟩ := F
    refine y_iaload hG hM V d_Ki_sortByGroup_133 (34, 4, 0) rfl rfl c8 ?_
    obtain ⟨c13, F⟩ := F
    obtain ⟨ρ9, eρ9⟩ : ∃ z : Rs, z = pI ρ (34, 15, 0) (Int32.toNatClampNeg (iR ρ (34, 14, 0) (Int32.toNatClampNeg (iR ρ (34, 12, 0) (Int32.toNatClampNeg (iR ρ (34, 4, 0) (Int32.toNatClampNeg v5))))))) (iR ρ (34, 4, 0) (Int32.toNatClampNeg v5)) := ⟨_, rfl⟩
    replace F := F ρ9 eρ9
    refine y_iastore hG hM V d_Ki_sortByGroup_134 (34, 15, 0) rfl rfl c13 (fun h V => ?_)
    rw [← eρ9] at V
    clear eρ9
    refine x_aload_n hM d_Ki_sortByGroup_135 rfl 1 rfl ?_
    refine y_getr hG hM V ck_Ki 14 (Nat.le_of_ble_eq_true rfl) rfl rfl w_339 rfl d_Ki_sortByGroup_136 (7, 0, 0) (34, 14, 0) rfl rfl rfl ?_
    refine x_iload hM d_Ki_sortByGroup_139 0 rfl ?_
    refine x_dup2 hM d_Ki_sortByGroup_141 rfl rfl ?_
    obtain ⟨c10, F⟩ := F
    refine y_iaload hG hM V d_Ki_sortByGroup_142 (34, 14, 0) rfl rfl c10 ?_
    refine x_iconst (v := 1) hM d_Ki_sortByGroup_143 (by decide) ?_
    refine x_iadd hM d_Ki_sortByGroup_144 ?_
    obtain ⟨c12, F⟩ := F
    obtain ⟨ρ11, eρ11⟩ : ∃ z : Rs, z = pI ρ9 (34, 14, 0) (Int32.toNatClampNeg (iR ρ (34, 12, 0) (Int32.toNatClampNeg (iR ρ (34, 4, 0) (Int32.toNatClampNeg v5))))) ((iR ρ9 (34, 14, 0) (Int32.toNatClampNeg (iR ρ (34, 12, 0) (Int32.toNatClampNeg (iR ρ (34, 4, 0) (Int32.toNatClampNeg v5)))))) + 1) := ⟨_, rfl⟩
    replace F := F ρ11 eρ11
    refine y_iastore hG hM V d_Ki_sortByGroup_145 (34, 14, 0) rfl rfl c12 (fun h V => ?_)
    rw [← eρ11] at V
    clear eρ11
    refine x_iinc (v := (v5 + 1)) (lv2 := [(5, .int (v5 + 1)), (6, .int (iR ρ (34, 12, 0) (Int32.toNatClampNeg (iR ρ (34, 4, 0) (Int32.toNatClampNeg v5))))), (0, .ref (ad (7, 0, 0))), (1, .int v1), (2, .int v2)]) hM d_Ki_sortByGroup_146 (j := 4) rfl rfl (Nat.le_of_ble_eq_true rfl) rfl ?_
    refine x_goto (tgt := 96) hM d_Ki_sortByGroup_149 (by decide) ?_
    refine x_sub [2, 3, 4, 0] rfl ?_
    exact F _ _ hSt V
set_option maxRecDepth 100000 in
set_option maxHeartbeats 4000000 in
theorem T_Ki_sortByGroup_155 {G : Gc} {M : Mc} {Q : State → Prop} {ad0 : Ro → Nat} {K : (Ro → Nat) → Option Value → Rs → Prop} (hG : gok G) (hM : mok G M r_Ki_sortByGroup Q (KV G [] ad0 K)) (v2 : Int32) (v5 : Int32) (ρ : Rs) (F : (v2 ≤ v5 → (∀ ad, K ad none ρ)) ∧ (¬ v2 ≤ v5 → (vp_in v5 (nR ρ (34, 15, 0)) ∧ (vp_in v5 (nR ρ (34, 4, 0)) ∧ (∀ ρ3 : Rs, ρ3 = pI ρ (34, 4, 0) (Int32.toNatClampNeg v5) (iR ρ (34, 15, 0) (Int32.toNatClampNeg v5)) → (vp_in v5 (nR ρ3 (34, 4, 0)) ∧ (vp_in (iR ρ3 (34, 4, 0) (Int32.toNatClampNeg v5)) (nR ρ3 (34, 5, 0)) ∧ (∀ ρ5 : Rs, ρ5 = pI ρ3 (34, 5, 0) (Int32.toNatClampNeg (iR ρ3 (34, 4, 0) (Int32.toNatClampNeg v5))) v5 → (Y G [] ad0 M Q 155 (fun ad => [(0, .ref (ad (7, 0, 0))), (2, .int v2), (5, .int (v5 + 1))]) (fun ad => []) ρ5))))))))) : Y G [] ad0 M Q 155 (fun ad => [(0, .ref (ad (7, 0, 0))), (2, .int v2), (5, .int v5)]) (fun ad => []) ρ := by
  intro ad h hSt V
  show X G M Q 155 [(0, .ref (ad (7, 0, 0))), (2, .int v2), (5, .int v5)] [] h
  refine x_iload hM d_Ki_sortByGroup_155 2 rfl ?_
  refine x_iload_n hM d_Ki_sortByGroup_157 rfl 1 rfl ?_
  refine x_icmp_ge (tgt := 195) hM d_Ki_sortByGroup_158 (by decide) (fun q8 => ?_) (fun q8 => ?_)
  · replace F := F.1 q8
    exact x_return hM d_Ki_sortByGroup_195 rfl (y_end V hSt (F _))
  · replace F := F.2 q8
    refine x_aload_n hM d_Ki_sortByGroup_161 rfl 0 rfl ?_
    refine y_getr hG hM V ck_Ki 4 (Nat.le_of_ble_eq_true rfl) rfl rfl w_329 rfl d_Ki_sortByGroup_162 (7, 0, 0) (34, 4, 0) rfl rfl rfl ?_
    refine x_iload hM d_Ki_sortByGroup_165 2 rfl ?_
    refine x_aload_n hM d_Ki_sortByGroup_167 rfl 0 rfl ?_
    refine y_getr hG hM V ck_Ki 15 (Nat.le_of_ble_eq_true rfl) rfl rfl w_340 rfl d_Ki_sortByGroup_168 (7, 0, 0) (34, 15, 0) rfl rfl rfl ?_
    refine x_iload hM d_Ki_sortByGroup_171 2 rfl ?_
    obtain ⟨c2, F⟩ := F
    refine y_iaload hG hM V d_Ki_sortByGroup_173 (34, 15, 0) rfl rfl c2 ?_
    obtain ⟨c7, F⟩ := F
    obtain ⟨ρ3, eρ3⟩ : ∃ z : Rs, z = pI ρ (34, 4, 0) (Int32.toNatClampNeg v5) (iR ρ (34, 15, 0) (Int32.toNatClampNeg v5)) := ⟨_, rfl⟩
    replace F := F ρ3 eρ3
    refine y_iastore hG hM V d_Ki_sortByGroup_174 (34, 4, 0) rfl rfl c7 (fun h V => ?_)
    rw [← eρ3] at V
    clear eρ3
    refine x_aload_n hM d_Ki_sortByGroup_175 rfl 0 rfl ?_
    refine y_getr hG hM V ck_Ki 5 (Nat.le_of_ble_eq_true rfl) rfl rfl w_330 rfl d_Ki_sortByGroup_176 (7, 0, 0) (34, 5, 0) rfl rfl rfl ?_
    refine x_aload_n hM d_Ki_sortByGroup_179 rfl 0 rfl ?_
    refine y_getr hG hM V ck_Ki 4 (Nat.le_of_ble_eq_true rfl) rfl rfl w_329 rfl d_Ki_sortByGroup_180 (7, 0, 0) (34, 4, 0) rfl rfl rfl ?_
    refine x_iload hM d_Ki_sortByGroup_183 2 rfl ?_
    obtain ⟨c4, F⟩ := F
    refine y_iaload hG hM V d_Ki_sortByGroup_185 (34, 4, 0) rfl rfl c4 ?_
    refine x_iload hM d_Ki_sortByGroup_186 2 rfl ?_
    obtain ⟨c6, F⟩ := F
    obtain ⟨ρ5, eρ5⟩ : ∃ z : Rs, z = pI ρ3 (34, 5, 0) (Int32.toNatClampNeg (iR ρ3 (34, 4, 0) (Int32.toNatClampNeg v5))) v5 := ⟨_, rfl⟩
    replace F := F ρ5 eρ5
    refine y_iastore hG hM V d_Ki_sortByGroup_188 (34, 5, 0) rfl rfl c6 (fun h V => ?_)
    rw [← eρ5] at V
    clear eρ5
    refine x_iinc (v := (v5 + 1)) (lv2 := [(5, .int (v5 + 1)), (0, .ref (ad (7, 0, 0))), (2, .int v2)]) hM d_Ki_sortByGroup_189 (j := 2) rfl rfl (Nat.le_of_ble_eq_true rfl) rfl ?_
    refine x_goto (tgt := 155) hM d_Ki_sortByGroup_192 (by decide) ?_
    refine x_sub [1, 2, 0] rfl ?_
    exact F _ _ hSt V
