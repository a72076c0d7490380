set_option maxRecDepth 100000 in
set_option maxHeartbeats 4000000 in
theorem T_Ki_divide_0 {G : Gc} {M : Mc} {Q : State → Prop} {ad0 : Ro → Nat} {K : (Ro → Nat) → Option Value → Rs → Prop} (hG : gok G) (hM : mok G M r_Ki_divide Q (KV G [] ad0 K)) (v2 : Int32) (v3 : Int32) (v4 : Int32) (ρ : Rs) (F : vp_in v2 (nR ρ (34, 7, 0)) ∧ (vp_in 0 (nR ρ (34, 13, 0)) ∧ (vp_in 0 (nR ρ (34, 13, 0)) ∧ (∀ ρ3 : Rs, ρ3 = pI ρ (34, 13, 0) (Int32.toNatClampNeg 0) ((iR ρ (34, 13, 0) (Int32.toNatClampNeg 0)) + ((iR ρ (34, 7, 0) (Int32.toNatClampNeg v2)) - v3)) → (vp_in 0 (nR ρ3 (34, 14, 0)) ∧ (∀ ρ4 : Rs, ρ4 = pI ρ3 (34, 14, 0) (Int32.toNatClampNeg 0) (iR ρ (34, 7, 0) (Int32.toNatClampNeg v2)) → (Y G [] ad0 M Q 35 (fun ad => [(0, .ref (ad (7, 0, 0))), (1, .ref (ad (1, 0, 0))), (2, .int v2), (3, .int v3), (4, .int v4), (5, .int (iR ρ (34, 7, 0) (Int32.toNatClampNeg v2))), (6, .int 0), (7, .int 1)]) (fun ad => []) ρ4))))))) : Y G [] ad0 M Q 0 (fun ad => [(0, .ref (ad (7, 0, 0))), (1, .ref (ad (1, 0, 0))), (2, .int v2), (3, .int v3), (4, .int v4)]) (fun ad => []) ρ := by
  intro ad h hSt V
  show X G M Q 0 [(0, .ref (ad (7, 0, 0))), (1, .ref (ad (1, 0, 0))), (2, .int v2), (3, .int v3), (4, .int v4)] [] h
  refine x_aload_n hM d_Ki_divide_0 rfl 0 rfl ?_
  refine y_getr hG hM V ck_Ki 7 (Nat.le_of_ble_eq_true rfl) rfl rfl w_332 rfl d_Ki_divide_1 (7, 0, 0) (34, 7, 0) rfl rfl rfl ?_
  refine x_iload_n hM d_Ki_divide_4 rfl 2 rfl ?_
  obtain ⟨c1, F⟩ := F
  refine y_iaload hG hM V d_Ki_divide_5 (34, 7, 0) rfl rfl c1 ?_
  refine x_istore (lv2 := [(5, .int (iR ρ (34, 7, 0) (Int32.toNatClampNeg v2))), (0, .ref (ad (7, 0, 0))), (1, .ref (ad (1, 0, 0))), (2, .int v2), (3, .int v3), (4, .int v4)]) hM d_Ki_divide_6 (Nat.le_of_ble_eq_true rfl) rfl ?_
  refine x_aload_n hM d_Ki_divide_8 rfl 1 rfl ?_
  refine y_getr hG hM V ck_Ki 13 (Nat.le_of_ble_eq_true rfl) rfl rfl w_338 rfl d_Ki_divide_9 (7, 0, 0) (34, 13, 0) rfl rfl rfl ?_
  refine x_iconst (v := 0) hM d_Ki_divide_12 (by decide) ?_
  refine x_dup2 hM d_Ki_divide_13 rfl rfl ?_
  obtain ⟨c2, F⟩ := F
  refine y_iaload hG hM V d_Ki_divide_14 (34, 13, 0) rfl rfl c2 ?_
  refine x_iload hM d_Ki_divide_15 0 rfl ?_
  refine x_iload_n hM d_Ki_divide_17 rfl 4 rfl ?_
  refine x_isub hM d_Ki_divide_18 ?_
  refine x_iadd hM d_Ki_divide_19 ?_
  obtain ⟨c6, F⟩ := F
  obtain ⟨ρ3, eρ3⟩ : ∃ z : Rs, z = pI ρ (34, 13, 0) (Int32.toNatClampNeg 0) ((iR ρ (34, 13, 0) (Int32.toNatClampNeg 0)) + ((iR ρ (34, 7, 0) (Int32.toNatClampNeg v2)) - v3)) := ⟨_, rfl⟩
  replace F := F ρ3 eρ3
  refine y_iastore hG hM V d_Ki_divide_20 (34, 13, 0) rfl rfl c6 (fun h V => ?_)
  rw [← eρ3] at V
  clear eρ3
  refine x_aload_n hM d_Ki_divide_21 rfl 1 rfl ?_
  refine y_getr hG hM V ck_Ki 14 (Nat.le_of_ble_eq_true rfl) rfl rfl w_339 rfl d_Ki_divide_22 (7, 0, 0) (34, 14, 0) rfl rfl rfl ?_
  refine x_iconst (v := 0) hM d_Ki_divide_25 (by decide) ?_
  refine x_iload hM d_Ki_divide_26 0 rfl ?_
  obtain ⟨c5, F⟩ := F
  obtain ⟨ρ4, eρ4⟩ : ∃ z : Rs, z = pI ρ3 (34, 14, 0) (Int32.toNatClampNeg 0) (iR ρ (34, 7, 0) (Int32.toNatClampNeg v2)) := ⟨_, rfl⟩
  replace F := F ρ4 eρ4
  refine y_iastore hG hM V d_Ki_divide_28 (34, 14, 0) rfl rfl c5 (fun h V => ?_)
  rw [← eρ4] at V
  clear eρ4
  refine x_iconst (v := 0) hM d_Ki_divide_29 (by decide) ?_
  refine x_istore (lv2 := [(6, .int 0), (5, .int (iR ρ (34, 7, 0) (Int32.toNatClampNeg v2))), (0, .ref (ad (7, 0, 0))), (1, .ref (ad (1, 0, 0))), (2, .int v2), (3, .int v3), (4, .int v4)]) hM d_Ki_divide_30 (Nat.le_of_ble_eq_true rfl) rfl ?_
  refine x_iconst (v := 1) hM d_Ki_divide_32 (by decide) ?_
  refine x_istore (lv2 := [(7, .int 1), (6, .int 0), (5, .int (iR ρ (34, 7, 0) (Int32.toNatClampNeg v2))), (0, .ref (ad (7, 0, 0))), (1, .ref (ad (1, 0, 0))), (2, .int v2), (3, .int v3), (4, .int v4)]) hM d_Ki_divide_33 (Nat.le_of_ble_eq_true rfl) rfl ?_
  refine x_sub [3, 4, 5, 6, 7, 2, 1, 0] rfl ?_
  exact F _ _ hSt V
set_option maxRecDepth 100000 in
set_option maxHeartbeats 4000000 in
theorem T_Ki_divide_35 {G : Gc} {M : Mc} {Q : State → Prop} {ad0 : Ro → Nat} {K : (Ro → Nat) → Option Value → Rs → Prop} (hG : gok G) (hM : mok G M r_Ki_divide Q (KV G [] ad0 K)) (v2 : Int32) (v3 : Int32) (v4 : Int32) (v5 : Int32) (v6 : Int32) (v7 : Int32) (ρ : Rs) (F : (v4 ≤ v7 → ((v6 = 0 → (Y G [] ad0 M Q 100 (fun ad => [(0, .ref (ad (7, 0, 0))), (1, .ref (ad (1, 0, 0))), (2, .int v2), (4, .int v4), (6, .int v6), (7, .int (iR ρ (7, 0, 0) 0)), (8, .int 0)]) (fun ad => []) ρ)) ∧ (¬ v6 = 0 → (¬ v3 < 0 ∧ ¬ v3 < 0 ∧ ¬ (v5 - v3) < 0 ∧ Int32.toNatClampNeg v3 + Int32.toNatClampNeg (v5 - v3) ≤ nR ρ (34, 4, 0) ∧ Int32.toNatClampNeg v3 + Int32.toNatClampNeg (v5 - v3) ≤ nR ρ (34, 15, 0) ∧ (∀ ρ3 : Rs, ρ3 = uI ρ (34, 15, 0) (va_cpy (iR ρ (34, 4, 0)) (iR ρ (34, 15, 0)) (Int32.toNatClampNeg v3) (Int32.toNatClampNeg v3) (Int32.toNatClampNeg (v5 - v3))) → (Y G [] ad0 M Q 100 (fun ad => [(0, .ref (ad (7, 0, 0))), (1, .ref (ad (1, 0, 0))), (2, .int v2), (4, .int v4), (6, .int v6), (7, .int (iR ρ3 (7, 0, 0) 0)), (8, .int 0)]) (fun ad => []) ρ3)))))) ∧ (¬ v4 ≤ v7 → (vp_in v7 (nR ρ (34, 13, 0)) ∧ (vp_in v6 (nR ρ (34, 13, 0)) ∧ (∀ z12 : Int32, z12 = (if (iR ρ (34, 13, 0) (Int32.toNatClampNeg v7)) ≤ (iR ρ (34, 13, 0) (Int32.toNatClampNeg v6)) then v6 else v7) → (Y G [] ad0 M Q 35 (fun ad => [(0, .ref (ad (7, 0, 0))), (1, .ref (ad (1, 0, 0))), (2, .int v2), (3, .int v3), (4, .int v4), (5, .int v5), (6, .int z12), (7, .int (v7 + 1))]) (fun ad => []) ρ)))))) : Y G [] ad0 M Q 35 (fun ad => [(0, .ref (ad (7, 0, 0))), (1, .ref (ad (1, 0, 0))), (2, .int v2), (3, .int v3), (4, .int v4), (5, .int v5), (6, .int v6), (7, .int v7)]) (fun ad => []) ρ := by
  intro ad h hSt V
  show X G M Q 35 [(0, .ref (ad (7, 0, 0))), (1, .ref (ad (1, 0, 0))), (2, .int v2), (3, .int v3), (4, .int v4), (5, .int v5), (6, .int v6), (7, .int v7)] [] h
  refine x_iload hM d_Ki_divide_35 7 rfl ?_
  refine x_iload hM d_Ki_divide_37 4 rfl ?_
  refine x_icmp_ge (tgt := 69) hM d_Ki_divide_39 (by decide) (fun q14 => ?_) (fun q14 => ?_)
  · replace F := F.1 q14
    refine x_iload hM d_Ki_divide_69 6 rfl ?_
    refine x_if_eq (tgt := 91) hM d_Ki_divide_71 (by decide) (fun q9 => ?_) (fun q9 => ?_)
    · replace F := F.1 q9
      refine x_aload_n hM d_Ki_divide_91 rfl 0 rfl ?_
      refine y_geti hG hM V ck_Ki 0 (Nat.le_of_ble_eq_true rfl) rfl rfl w_321 rfl d_Ki_divide_92 (7, 0, 0) rfl rfl ?_
      refine x_istore (lv2 := [(7, .int (iR ρ (7, 0, 0) 0)), (0, .ref (ad (7, 0, 0))), (1, .ref (ad (1, 0, 0))), (2, .int v2), (3, .int v3), (4, .int v4), (5, .int v5), (6, .int v6)]) hM d_Ki_divide_95 (Nat.le_of_ble_eq_true rfl) rfl ?_
      refine x_iconst (v := 0) hM d_Ki_divide_97 (by decide) ?_
      refine x_istore (lv2 := [(8, .int 0), (7, .int (iR ρ (7, 0, 0) 0)), (0, .ref (ad (7, 0, 0))), (1, .ref (ad (1, 0, 0))), (2, .int v2), (3, .int v3), (4, .int v4), (5, .int v5), (6, .int v6)]) hM d_Ki_divide_98 (Nat.le_of_ble_eq_true rfl) rfl ?_
      refine x_sub [2, 3, 4, 6, 8, 1, 0] rfl ?_
      exact F _ _ hSt V
    · replace F := F.2 q9
      refine x_aload_n hM d_Ki_divide_74 rfl 0 rfl ?_
      refine y_getr hG hM V ck_Ki 4 (Nat.le_of_ble_eq_true rfl) rfl rfl w_329 rfl d_Ki_divide_75 (7, 0, 0) (34, 4, 0) rfl rfl rfl ?_
      refine x_iload_n hM d_Ki_divide_78 rfl 3 rfl ?_
      refine x_aload_n hM d_Ki_divide_79 rfl 0 rfl ?_
      refine y_getr hG hM V ck_Ki 15 (Nat.le_of_ble_eq_true rfl) rfl rfl w_340 rfl d_Ki_divide_80 (7, 0, 0) (34, 15, 0) rfl rfl rfl ?_
      refine x_iload_n hM d_Ki_divide_83 rfl 3 rfl ?_
      refine x_iload hM d_Ki_divide_84 5 rfl ?_
      refine x_iload_n hM d_Ki_divide_86 rfl 3 rfl ?_
      refine x_isub hM d_Ki_divide_87 ?_
      obtain ⟨c4, F⟩ := F
      obtain ⟨c5, F⟩ := F
      obtain ⟨c6, F⟩ := F
      obtain ⟨c7, F⟩ := F
      obtain ⟨c8, F⟩ := F
      obtain ⟨ρ3, eρ3⟩ : ∃ z : Rs, z = uI ρ (34, 15, 0) (va_cpy (iR ρ (34, 4, 0)) (iR ρ (34, 15, 0)) (Int32.toNatClampNeg v3) (Int32.toNatClampNeg v3) (Int32.toNatClampNeg (v5 - v3))) := ⟨_, rfl⟩
      replace F := F ρ3 eρ3
      refine y_acopy hG hM V rfl w_749 w_751 w_750 w_15 (Nat.le_of_ble_eq_true rfl) (by decide) d_Ki_divide_88 (34, 4, 0) (34, 15, 0) rfl rfl rfl rfl c4 c5 c6 c7 c8 (fun h V => ?_)
      rw [← eρ3] at V
      clear eρ3
      refine x_aload_n hM d_Ki_divide_91 rfl 0 rfl ?_
      refine y_geti hG hM V ck_Ki 0 (Nat.le_of_ble_eq_true rfl) rfl rfl w_321 rfl d_Ki_divide_92 (7, 0, 0) rfl rfl ?_
      refine x_istore (lv2 := [(7, .int (iR ρ3 (7, 0, 0) 0)), (0, .ref (ad (7, 0, 0))), (1, .ref (ad (1, 0, 0))), (2, .int v2), (3, .int v3), (4, .int v4), (5, .int v5), (6, .int v6)]) hM d_Ki_divide_95 (Nat.le_of_ble_eq_true rfl) rfl ?_
      refine x_iconst (v := 0) hM d_Ki_divide_97 (by decide) ?_
      refine x_istore (lv2 := [(8, .int 0), (7, .int (iR ρ3 (7, 0, 0) 0)), (0, .ref (ad (7, 0, 0))), (1, .ref (ad (1, 0, 0))), (2, .int v2), (3, .int v3), (4, .int v4), (5, .int v5), (6, .int v6)]) hM d_Ki_divide_98 (Nat.le_of_ble_eq_true rfl) rfl ?_
      refine x_sub [2, 3, 4, 6, 8, 1, 0] rfl ?_
      exact F _ _ hSt V
  · replace F := F.2 q14
    refine x_aload_n hM d_Ki_divide_42 rfl 0 rfl ?_
    refine y_getr hG hM V ck_Ki 13 (Nat.le_of_ble_eq_true rfl) rfl rfl w_338 rfl d_Ki_divide_43 (7, 0, 0) (34, 13, 0) rfl rfl rfl ?_
    refine x_iload hM d_Ki_divide_46 7 rfl ?_
    obtain ⟨c10, F⟩ := F
    refine y_iaload hG hM V d_Ki_divide_48 (34, 13, 0) rfl rfl c10 ?_
    refine x_aload_n hM d_Ki_divide_49 rfl 0 rfl ?_
    refine y_getr hG hM V ck_Ki 13 (Nat.le_of_ble_eq_true rfl) rfl rfl w_338 rfl d_Ki_divide_50 (7, 0, 0) (34, 13, 0) rfl rfl rfl ?_
    refine x_iload hM d_Ki_divide_53 6 rfl ?_
    obtain ⟨c11, F⟩ := F
    refine y_iaload hG hM V d_Ki_divide_55 (34, 13, 0) rfl rfl c11 ?_
    have JJ : ∀ (z12 : Int32) (ez12 : z12 = (if (iR ρ (34, 13, 0) (Int32.toNatClampNeg v7)) ≤ (iR ρ (34, 13, 0) (Int32.toNatClampNeg v6)) then v6 else v7)), X G M Q 63 [(0, .ref (ad (7, 0, 0))), (1, .ref (ad (1, 0, 0))), (2, .int v2), (3, .int v3), (4, .int v4), (5, .int v5), (6, .int z12), (7, .int v7)] [] h := by
      intro z12 ez12
      replace F := F _ ez12
      refine x_iinc (v := (v7 + 1)) (lv2 := [(7, .int (v7 + 1)), (0, .ref (ad (7, 0, 0))), (1, .ref (ad (1, 0, 0))), (2, .int v2), (3, .int v3), (4, .int v4), (5, .int v5), (6, .int z12)]) hM d_Ki_divide_63 (j := 7) rfl rfl (Nat.le_of_ble_eq_true rfl) rfl ?_
      refine x_goto (tgt := 35) hM d_Ki_divide_66 (by decide) ?_
      refine x_sub [1, 2, 3, 4, 5, 6, 7, 0] rfl ?_
      exact F _ _ hSt V
    refine x_icmp_le (tgt := 63) hM d_Ki_divide_56 (by decide) (fun q13 => ?_) (fun q13 => ?_)
    · exact JJ _ (Eq.symm (if_pos q13))
    · refine x_iload hM d_Ki_divide_59 7 rfl ?_
      refine x_istore (lv2 := [(6, .int v7), (0, .ref (ad (7, 0, 0))), (1, .ref (ad (1, 0, 0))), (2, .int v2), (3, .int v3), (4, .int v4), (5, .int v5), (7, .int v7)]) hM d_Ki_divide_61 (Nat.le_of_ble_eq_true rfl) rfl ?_
      refine x_sub [1, 2, 3, 4, 5, 6, 0, 7] rfl ?_
      exact JJ _ (Eq.symm (if_neg q13))
set_option maxRecDepth 100000 in
set_option maxHeartbeats 4000000 in
theorem T_Ki_divide_100 {G : Gc} {M : Mc} {Q : State → Prop} {ad0 : Ro → Nat} {K : (Ro → Nat) → Option Value → Rs → Prop} (hG : gok G) (hM : mok G M r_Ki_divide Q (KV G [] ad0 K)) (v2 : Int32) (v4 : Int32) (v6 : Int32) (v7 : Int32) (v8 : Int32) (ρ : Rs) (F : (v4 ≤ v8 → (vp_in v6 (nR ρ (34, 14, 0)) ∧ (vp_in v6 (nR ρ (34, 13, 0)) ∧ (vp_in v2 (nR ρ (34, 6, 0)) ∧ (∀ ρ3 : Rs, ρ3 = pI ρ (34, 6, 0) (Int32.toNatClampNeg v2) ((iR ρ (34, 14, 0) (Int32.toNatClampNeg v6)) - (iR ρ (34, 13, 0) (Int32.toNatClampNeg v6))) → (vp_in v6 (nR ρ3 (34, 14, 0)) ∧ (vp_in v2 (nR ρ3 (34, 7, 0)) ∧ (∀ ρ5 : Rs, ρ5 = pI ρ3 (34, 7, 0) (Int32.toNatClampNeg v2) (iR ρ3 (34, 14, 0) (Int32.toNatClampNeg v6)) → (Y G [] ad0 M Q 185 (fun ad => [(0, .ref (ad (7, 0, 0))), (1, .ref (ad (1, 0, 0))), (8, .int v7)]) (fun ad => []) ρ5))))))))) ∧ (¬ v4 ≤ v8 → ((v8 = v6 → (Y G [] ad0 M Q 100 (fun ad => [(0, .ref (ad (7, 0, 0))), (1, .ref (ad (1, 0, 0))), (2, .int v2), (4, .int v4), (6, .int v6), (7, .int v7), (8, .int (v8 + 1))]) (fun ad => []) ρ)) ∧ (¬ v8 = v6 → (vp_in v8 (nR ρ (34, 14, 0)) ∧ (vp_in v8 (nR ρ (34, 13, 0)) ∧ (vp_in v8 (nR ρ (34, 14, 0)) ∧ (semV G r_Ki_open [] (fun ad => [.ref (ad (7, 0, 0)), .int ((iR ρ (34, 14, 0) (Int32.toNatClampNeg v8)) - (iR ρ (34, 13, 0) (Int32.toNatClampNeg v8))), .int (iR ρ (34, 14, 0) (Int32.toNatClampNeg v8))]) ρ (fun ad u15 ρ14 => ∃ x17 : Int32, u15 = some (.int x17) ∧ (Y G [] ad0 M Q 100 (fun ad => [(0, .ref (ad (7, 0, 0))), (1, .ref (ad (1, 0, 0))), (2, .int v2), (4, .int v4), (6, .int v6), (7, .int v7), (8, .int (v8 + 1))]) (fun ad => []) ρ14)))))))))) : Y G [] ad0 M Q 100 (fun ad => [(0, .ref (ad (7, 0, 0))), (1, .ref (ad (1, 0, 0))), (2, .int v2), (4, .int v4), (6, .int v6), (7, .int v7), (8, .int v8)]) (fun ad => []) ρ := by
  intro ad h hSt V
  show X G M Q 100 [(0, .ref (ad (7, 0, 0))), (1, .ref (ad (1, 0, 0))), (2, .int v2), (4, .int v4), (6, .int v6), (7, .int v7), (8, .int v8)] [] h
  refine x_iload hM d_Ki_divide_100 6 rfl ?_
  refine x_iload hM d_Ki_divide_102 3 rfl ?_
  refine x_icmp_ge (tgt := 147) hM d_Ki_divide_104 (by decide) (fun q20 => ?_) (fun q20 => ?_)
  · replace F := F.1 q20
    refine x_aload_n hM d_Ki_divide_147 rfl 0 rfl ?_
    refine y_getr hG hM V ck_Ki 6 (Nat.le_of_ble_eq_true rfl) rfl rfl w_331 rfl d_Ki_divide_148 (7, 0, 0) (34, 6, 0) rfl rfl rfl ?_
    refine x_iload_n hM d_Ki_divide_151 rfl 2 rfl ?_
    refine x_aload_n hM d_Ki_divide_152 rfl 0 rfl ?_
    refine y_getr hG hM V ck_Ki 14 (Nat.le_of_ble_eq_true rfl) rfl rfl w_339 rfl d_Ki_divide_153 (7, 0, 0) (34, 14, 0) rfl rfl rfl ?_
    refine x_iload hM d_Ki_divide_156 4 rfl ?_
    obtain ⟨c1, F⟩ := F
    refine y_iaload hG hM V d_Ki_divide_158 (34, 14, 0) rfl rfl c1 ?_
    refine x_aload_n hM d_Ki_divide_159 rfl 0 rfl ?_
    refine y_getr hG hM V ck_Ki 13 (Nat.le_of_ble_eq_true rfl) rfl rfl w_338 rfl d_Ki_divide_160 (7, 0, 0) (34, 13, 0) rfl rfl rfl ?_
    refine x_iload hM d_Ki_divide_163 4 rfl ?_
    obtain ⟨c2, F⟩ := F
    refine y_iaload hG hM V d_Ki_divide_165 (34, 13, 0) rfl rfl c2 ?_
    refine x_isub hM d_Ki_divide_166 ?_
    obtain ⟨c7, F⟩ := F
    obtain ⟨ρ3, eρ3⟩ : ∃ z : Rs, z = pI ρ (34, 6, 0) (Int32.toNatClampNeg v2) ((iR ρ (34, 14, 0) (Int32.toNatClampNeg v6)) - (iR ρ (34, 13, 0) (Int32.toNatClampNeg v6))) := ⟨_, rfl⟩
    replace F := F ρ3 eρ3
    refine y_iastore hG hM V d_Ki_divide_167 (34, 6, 0) rfl rfl c7 (fun h V => ?_)
    rw [← eρ3] at V
    clear eρ3
    refine x_aload_n hM d_Ki_divide_168 rfl 0 rfl ?_
    refine y_getr hG hM V ck_Ki 7 (Nat.le_of_ble_eq_true rfl) rfl rfl w_332 rfl d_Ki_divide_169 (7, 0, 0) (34, 7, 0) rfl rfl rfl ?_
    refine x_iload_n hM d_Ki_divide_172 rfl 2 rfl ?_
    refine x_aload_n hM d_Ki_divide_173 rfl 0 rfl ?_
    refine y_getr hG hM V ck_Ki 14 (Nat.le_of_ble_eq_true rfl) rfl rfl w_339 rfl d_Ki_divide_174 (7, 0, 0) (34, 14, 0) rfl rfl rfl ?_
    refine x_iload hM d_Ki_divide_177 4 rfl ?_
    obtain ⟨c4, F⟩ := F
    refine y_iaload hG hM V d_Ki_divide_179 (34, 14, 0) rfl rfl c4 ?_
    obtain ⟨c6, F⟩ := F
    obtain ⟨ρ5, eρ5⟩ : ∃ z : Rs, z = pI ρ3 (34, 7, 0) (Int32.toNatClampNeg v2) (iR ρ3 (34, 14, 0) (Int32.toNatClampNeg v6)) := ⟨_, rfl⟩
    replace F := F ρ5 eρ5
    refine y_iastore hG hM V d_Ki_divide_180 (34, 7, 0) rfl rfl c6 (fun h V => ?_)
    rw [← eρ5] at V
    clear eρ5
    refine x_iload hM d_Ki_divide_181 5 rfl ?_
    refine x_istore (lv2 := [(8, .int v7), (0, .ref (ad (7, 0, 0))), (1, .ref (ad (1, 0, 0))), (2, .int v2), (4, .int v4), (6, .int v6), (7, .int v7)]) hM d_Ki_divide_183 (Nat.le_of_ble_eq_true rfl) rfl ?_
    refine x_sub [1, 2, 0] rfl ?_
    exact F _ _ hSt V
  · replace F := F.2 q20
    refine x_iload hM d_Ki_divide_107 6 rfl ?_
    refine x_iload hM d_Ki_divide_109 4 rfl ?_
    refine x_icmp_eq (tgt := 141) hM d_Ki_divide_111 (by decide) (fun q19 => ?_) (fun q19 => ?_)
    · replace F := F.1 q19
      refine x_iinc (v := (v8 + 1)) (lv2 := [(8, .int (v8 + 1)), (0, .ref (ad (7, 0, 0))), (1, .ref (ad (1, 0, 0))), (2, .int v2), (4, .int v4), (6, .int v6), (7, .int v7)]) hM d_Ki_divide_141 (j := 6) rfl rfl (Nat.le_of_ble_eq_true rfl) rfl ?_
      refine x_goto (tgt := 100) hM d_Ki_divide_144 (by decide) ?_
      refine x_sub [1, 2, 3, 4, 5, 6, 0] rfl ?_
      exact F _ _ hSt V
    · replace F := F.2 q19
      refine x_aload_n hM d_Ki_divide_114 rfl 0 rfl ?_
      refine x_aload_n hM d_Ki_divide_115 rfl 0 rfl ?_
      refine y_getr hG hM V ck_Ki 14 (Nat.le_of_ble_eq_true rfl) rfl rfl w_339 rfl d_Ki_divide_116 (7, 0, 0) (34, 14, 0) rfl rfl rfl ?_
      refine x_iload hM d_Ki_divide_119 6 rfl ?_
      obtain ⟨c11, F⟩ := F
      refine y_iaload hG hM V d_Ki_divide_121 (34, 14, 0) rfl rfl c11 ?_
      refine x_aload_n hM d_Ki_divide_122 rfl 0 rfl ?_
      refine y_getr hG hM V ck_Ki 13 (Nat.le_of_ble_eq_true rfl) rfl rfl w_338 rfl d_Ki_divide_123 (7, 0, 0) (34, 13, 0) rfl rfl rfl ?_
      refine x_iload hM d_Ki_divide_126 6 rfl ?_
      obtain ⟨c12, F⟩ := F
      refine y_iaload hG hM V d_Ki_divide_128 (34, 13, 0) rfl rfl c12 ?_
      refine x_isub hM d_Ki_divide_129 ?_
      refine x_aload_n hM d_Ki_divide_130 rfl 0 rfl ?_
      refine y_getr hG hM V ck_Ki 14 (Nat.le_of_ble_eq_true rfl) rfl rfl w_339 rfl d_Ki_divide_131 (7, 0, 0) (34, 14, 0) rfl rfl rfl ?_
      refine x_iload hM d_Ki_divide_134 6 rfl ?_
      obtain ⟨c13, F⟩ := F
      refine y_iaload hG hM V d_Ki_divide_136 (34, 14, 0) rfl rfl c13 ?_
      refine x_callV hG hM (r' := r_Ki_open) (ci := 9) [.int ((iR ρ (34, 14, 0) (Int32.toNatClampNeg v8)) - (iR ρ (34, 13, 0) (Int32.toNatClampNeg v8))), .int (iR ρ (34, 14, 0) (Int32.toNatClampNeg v8))] rfl rfl (Nat.le_of_ble_eq_true rfl) yk_Ki_open ⟨Nat.le_of_ble_eq_true rfl, Nat.le_of_ble_eq_true rfl⟩ w_711 w_713 ws_Ki_open rfl rfl (Nat.le_of_ble_eq_true rfl) d_Ki_divide_137 (by rw [vT V rfl]; rfl) (sem_mono (F _ _ V) ?_)
      intro u15 h F
      obtain ⟨ad18, ρ14, V, hs16, F⟩ := F
      obtain ⟨x17, rfl, F⟩ := F
      have hs16 := (St_eq hs16).symm
      subst hs16
      refine x_pop hM d_Ki_divide_140 rfl ?_
      refine x_iinc (v := (v8 + 1)) (lv2 := [(8, .int (v8 + 1)), (0, .ref (ad (7, 0, 0))), (1, .ref (ad (1, 0, 0))), (2, .int v2), (4, .int v4), (6, .int v6), (7, .int v7)]) hM d_Ki_divide_141 (j := 6) rfl rfl (Nat.le_of_ble_eq_true rfl) rfl ?_
      refine x_goto (tgt := 100) hM d_Ki_divide_144 (by decide) ?_
      refine x_sub [1, 2, 3, 4, 5, 6, 0] rfl ?_
      exact F _ _ hSt V
set_option maxRecDepth 100000 in
set_option maxHeartbeats 4000000 in
theorem T_Ki_divide_185 {G : Gc} {M : Mc} {Q : State → Prop} {ad0 : Ro → Nat} {K : (Ro → Nat) → Option Value → Rs → Prop} (hG : gok G) (hM : mok G M r_Ki_divide Q (KV G [] ad0 K)) (v8 : Int32) (ρ : Rs) (F : ((iR ρ (7, 0, 0) 0) ≤ v8 → (∀ ad, K ad none ρ)) ∧ (¬ (iR ρ (7, 0, 0) 0) ≤ v8 → (vp_in v8 (nR ρ (34, 6, 0)) ∧ (Y G [] ad0 M Q 203 (fun ad => [(0, .ref (ad (7, 0, 0))), (1, .ref (ad (1, 0, 0))), (8, .int v8), (9, .int (iR ρ (34, 6, 0) (Int32.toNatClampNeg v8)))]) (fun ad => []) ρ)))) : Y G [] ad0 M Q 185 (fun ad => [(0, .ref (ad (7, 0, 0))), (1, .ref (ad (1, 0, 0))), (8, .int v8)]) (fun ad => []) ρ := by
  intro ad h hSt V
  show X G M Q 185 [(0, .ref (ad (7, 0, 0))), (1, .ref (ad (1, 0, 0))), (8, .int v8)] [] h
  refine x_iload hM d_Ki_divide_185 2 rfl ?_
  refine x_aload_n hM d_Ki_divide_187 rfl 0 rfl ?_
  refine y_geti hG hM V ck_Ki 0 (Nat.le_of_ble_eq_true rfl) rfl rfl w_321 rfl d_Ki_divide_188 (7, 0, 0) rfl rfl ?_
  refine x_icmp_ge (tgt := 239) hM d_Ki_divide_191 (by decide) (fun q3 => ?_) (fun q3 => ?_)
  · replace F := F.1 q3
    exact x_return hM d_Ki_divide_239 rfl (y_end V hSt (F _))
  · replace F := F.2 q3
    refine x_aload_n hM d_Ki_divide_194 rfl 0 rfl ?_
    refine y_getr hG hM V ck_Ki 6 (Nat.le_of_ble_eq_true rfl) rfl rfl w_331 rfl d_Ki_divide_195 (7, 0, 0) (34, 6, 0) rfl rfl rfl ?_
    refine x_iload hM d_Ki_divide_198 2 rfl ?_
    obtain ⟨c2, F⟩ := F
    refine y_iaload hG hM V d_Ki_divide_200 (34, 6, 0) rfl rfl c2 ?_
    refine x_istore (lv2 := [(9, .int (iR ρ (34, 6, 0) (Int32.toNatClampNeg v8))), (0, .ref (ad (7, 0, 0))), (1, .ref (ad (1, 0, 0))), (8, .int v8)]) hM d_Ki_divide_201 (Nat.le_of_ble_eq_true rfl) rfl ?_
    refine x_sub [1, 2, 3, 0] rfl ?_
    exact F _ _ hSt V
set_option maxRecDepth 100000 in
set_option maxHeartbeats 4000000 in
theorem T_Ki_divide_203 {G : Gc} {M : Mc} {Q : State → Prop} {ad0 : Ro → Nat} {K : (Ro → Nat) → Option Value → Rs → Prop} (hG : gok G) (hM : mok G M r_Ki_divide Q (KV G [] ad0 K)) (v8 : Int32) (v9 : Int32) (ρ : Rs) (F : vp_in v8 (nR ρ (34, 7, 0)) ∧ (((iR ρ (34, 7, 0) (Int32.toNatClampNeg v8)) ≤ v9 → (Y G [] ad0 M Q 185 (fun ad => [(0, .ref (ad (7, 0, 0))), (1, .ref (ad (1, 0, 0))), (8, .int (v8 + 1))]) (fun ad => []) ρ)) ∧ (¬ (iR ρ (34, 7, 0) (Int32.toNatClampNeg v8)) ≤ v9 → (vp_in v9 (nR ρ (34, 15, 0)) ∧ (semV G r_Ki_markThoseBefore [] (fun ad => [.ref (ad (7, 0, 0)), .ref (ad (1, 0, 0)), .int (iR ρ (34, 15, 0) (Int32.toNatClampNeg v9))]) ρ (fun ad u5 ρ4 => u5 = none ∧ (Y G [] ad0 M Q 203 (fun ad => [(0, .ref (ad (7, 0, 0))), (1, .ref (ad (1, 0, 0))), (8, .int v8), (9, .int (v9 + 1))]) (fun ad => []) ρ4))))))) : Y G [] ad0 M Q 203 (fun ad => [(0, .ref (ad (7, 0, 0))), (1, .ref (ad (1, 0, 0))), (8, .int v8), (9, .int v9)]) (fun ad => []) ρ := by
  intro ad h hSt V
  show X G M Q 203 [(0, .ref (ad (7, 0, 0))), (1, .ref (ad (1, 0, 0))), (8, .int v8), (9, .int v9)] [] h
  refine x_iload hM d_Ki_divide_203 3 rfl ?_
  refine x_aload_n hM d_Ki_divide_205 rfl 0 rfl ?_
  refine y_getr hG hM V ck_Ki 7 (Nat.le_of_ble_eq_true rfl) rfl rfl w_332 rfl d_Ki_divide_206 (7, 0, 0) (34, 7, 0) rfl rfl rfl ?_
  refine x_iload hM d_Ki_divide_209 2 rfl ?_
  obtain ⟨c1, F⟩ := F
  refine y_iaload hG hM V d_Ki_divide_211 (34, 7, 0) rfl rfl c1 ?_
  refine x_icmp_ge (tgt := 233) hM d_Ki_divide_212 (by decide) (fun q8 => ?_) (fun q8 => ?_)
  · replace F := F.1 q8
    refine x_iinc (v := (v8 + 1)) (lv2 := [(8, .int (v8 + 1)), (0, .ref (ad (7, 0, 0))), (1, .ref (ad (1, 0, 0))), (9, .int v9)]) hM d_Ki_divide_233 (j := 2) rfl rfl (Nat.le_of_ble_eq_true rfl) rfl ?_
    refine x_goto (tgt := 185) hM d_Ki_divide_236 (by decide) ?_
    refine x_sub [1, 2, 0] rfl ?_
    exact F _ _ hSt V
  · replace F := F.2 q8
    refine x_aload_n hM d_Ki_divide_215 rfl 0 rfl ?_
    refine x_aload_n hM d_Ki_divide_216 rfl 1 rfl ?_
    refine x_aload_n hM d_Ki_divide_217 rfl 0 rfl ?_
    refine y_getr hG hM V ck_Ki 15 (Nat.le_of_ble_eq_true rfl) rfl rfl w_340 rfl d_Ki_divide_218 (7, 0, 0) (34, 15, 0) rfl rfl rfl ?_
    refine x_iload hM d_Ki_divide_221 3 rfl ?_
    obtain ⟨c3, F⟩ := F
    refine y_iaload hG hM V d_Ki_divide_223 (34, 15, 0) rfl rfl c3 ?_
    refine x_callV hG hM (r' := r_Ki_markThoseBefore) (ci := 9) [.ref (ad (1, 0, 0)), .int (iR ρ (34, 15, 0) (Int32.toNatClampNeg v9))] rfl rfl (Nat.le_of_ble_eq_true rfl) yk_Ki_markThoseBefore ⟨Nat.le_of_ble_eq_true rfl, Nat.le_of_ble_eq_true rfl⟩ w_752 w_754 ws_Ki_markThoseBefore rfl rfl (Nat.le_of_ble_eq_true rfl) d_Ki_divide_224 (by rw [vT V rfl]; rfl) (sem_mono (F _ _ V) ?_)
    intro u5 h F
    obtain ⟨ad7, ρ4, V, hs6, F⟩ := F
    obtain ⟨rfl, F⟩ := F
    have hs6 := (St_eq hs6).symm
    subst hs6
    refine x_iinc (v := (v9 + 1)) (lv2 := [(9, .int (v9 + 1)), (0, .ref (ad (7, 0, 0))), (1, .ref (ad (1, 0, 0))), (8, .int v8)]) hM d_Ki_divide_227 (j := 3) rfl rfl (Nat.le_of_ble_eq_true rfl) rfl ?_
    refine x_goto (tgt := 203) hM d_Ki_divide_230 (by decide) ?_
    refine x_sub [1, 2, 3, 0] rfl ?_
    exact F _ _ hSt V
set_option maxRecDepth 100000 in
set_option maxHeartbeats 4000000 in
theorem T_Ki_markThoseBefore_0 {G : Gc} {M : Mc} {Q : State → Prop} {ad0 : Ro → Nat} {K : (Ro → Nat) → Option Value → Rs → Prop} (hG : gok G) (hM : mok G M r_Ki_markThoseBefore Q (KV G [] ad0 K)) (v2 : Int32) (ρ : Rs) (F : vp_in v2 (nR ρ (30, 7, 0)) ∧ (Y G [] ad0 M Q 10 (fun ad => [(0, .ref (ad (7, 0, 0))), (1, .ref (ad (1, 0, 0))), (3, .int (iR ρ (30, 7, 0) (Int32.toNatClampNeg v2))), (4, .int 0)]) (fun ad => []) ρ)) : Y G [] ad0 M Q 0 (fun ad => [(0, .ref (ad (7, 0, 0))), (1, .ref (ad (1, 0, 0))), (2, .int v2)]) (fun ad => []) ρ := by
  intro ad h hSt V
  show X G M Q 0 [(0, .ref (ad (7, 0, 0))), (1, .ref (ad (1, 0, 0))), (2, .int v2)] [] h
  refine x_aload_n hM d_Ki_markThoseBefore_0 rfl 1 rfl ?_
  refine y_getr hG hM V ck_Wo 7 (Nat.le_of_ble_eq_true rfl) rfl rfl w_158 rfl d_Ki_markThoseBefore_1 (1, 0, 0) (30, 7, 0) rfl rfl rfl ?_
  refine x_iload_n hM d_Ki_markThoseBefore_4 rfl 2 rfl ?_
  obtain ⟨c1, F⟩ := F
  refine y_iaload hG hM V d_Ki_markThoseBefore_5 (30, 7, 0) rfl rfl c1 ?_
  refine x_istore_n (lv2 := [(3, .int (iR ρ (30, 7, 0) (Int32.toNatClampNeg v2))), (0, .ref (ad (7, 0, 0))), (1, .ref (ad (1, 0, 0))), (2, .int v2)]) hM d_Ki_markThoseBefore_6 rfl (Nat.le_of_ble_eq_true rfl) rfl ?_
  refine x_iconst (v := 0) hM d_Ki_markThoseBefore_7 (by decide) ?_
  refine x_istore (lv2 := [(4, .int 0), (3, .int (iR ρ (30, 7, 0) (Int32.toNatClampNeg v2))), (0, .ref (ad (7, 0, 0))), (1, .ref (ad (1, 0, 0))), (2, .int v2)]) hM d_Ki_markThoseBefore_8 (Nat.le_of_ble_eq_true rfl) rfl ?_
  refine x_sub [2, 3, 1, 0] rfl ?_
  exact F _ _ hSt V
set_option maxRecDepth 100000 in
set_option maxHeartbeats 4000000 in
theorem T_Ki_markThoseBefore_10 {G : Gc} {M : Mc} {Q : State → Prop} {ad0 : Ro → Nat} {K : (Ro → Nat) → Option Value → Rs → Prop} (hG : gok G) (hM : mok G M r_Ki_markThoseBefore Q (KV G [] ad0 K)) (v3 : Int32) (v4 : Int32) (ρ : Rs) (F : (147456 ≤ v4 → (∀ ad, K ad none ρ)) ∧ (¬ 147456 ≤ v4 → ((v3 = (-1) → (∀ ad, K ad none ρ)) ∧ (¬ v3 = (-1) → (semV G r_WP_stateOf [] (fun ad => [.int v3]) ρ (fun ad u2 ρ1 => ∃ x4 : Int32, u2 = some (.int x4) ∧ (vp_in x4 (nR ρ1 (34, 2, 0)) ∧ (vp_in (iR ρ1 (34, 2, 0) (Int32.toNatClampNeg x4)) (nR ρ1 (34, 7, 0)) ∧ (vp_in (iR ρ1 (34, 2, 0) (Int32.toNatClampNeg x4)) (nR ρ1 (34, 6, 0)) ∧ ((((iR ρ1 (34, 7, 0) (Int32.toNatClampNeg (iR ρ1 (34, 2, 0) (Int32.toNatClampNeg x4)))) - (iR ρ1 (34, 6, 0) (Int32.toNatClampNeg (iR ρ1 (34, 2, 0) (Int32.toNatClampNeg x4))))) ≤ 1 → (semV G r_Wo_nextInto [] (fun ad => [.ref (ad (1, 0, 0)), .int v3]) ρ1 (fun ad u11 ρ10 => ∃ x13 : Int32, u11 = some (.int x13) ∧ (Y G [] ad0 M Q 10 (fun ad => [(0, .ref (ad (7, 0, 0))), (1, .ref (ad (1, 0, 0))), (3, .int x13), (4, .int (v4 + 1))]) (fun ad => []) ρ10)))) ∧ (¬ ((iR ρ1 (34, 7, 0) (Int32.toNatClampNeg (iR ρ1 (34, 2, 0) (Int32.toNatClampNeg x4)))) - (iR ρ1 (34, 6, 0) (Int32.toNatClampNeg (iR ρ1 (34, 2, 0) (Int32.toNatClampNeg x4))))) ≤ 1 → (vp_in x4 (nR ρ1 (34, 9, 0)) ∧ (((iR ρ1 (34, 9, 0) (Int32.toNatClampNeg x4)) = 0 → (semV G r_Ki_moveToChanged [] (fun ad => [.ref (ad (7, 0, 0)), .int x4, .int (iR ρ1 (34, 2, 0) (Int32.toNatClampNeg x4))]) ρ1 (fun ad u17 ρ16 => u17 = none ∧ (Y G [] ad0 M Q 74 (fun ad => [(0, .ref (ad (7, 0, 0))), (1, .ref (ad (1, 0, 0))), (3, .int v3), (4, .int v4), (5, .int x4)]) (fun ad => []) ρ16)))) ∧ (¬ (iR ρ1 (34, 9, 0) (Int32.toNatClampNeg x4)) = 0 → (Y G [] ad0 M Q 74 (fun ad => [(0, .ref (ad (7, 0, 0))), (1, .ref (ad (1, 0, 0))), (3, .int v3), (4, .int v4), (5, .int x4)]) (fun ad => []) ρ1))))))))))))))) : Y G [] ad0 M Q 10 (fun ad => [(0, .ref (ad (7, 0, 0))), (1, .ref (ad (1, 0, 0))), (3, .int v3), (4, .int v4)]) (fun ad => []) ρ := by
  intro ad h hSt V
  show X G M Q 10 [(0, .ref (ad (7, 0, 0))), (1, .ref (ad (1, 0, 0))), (3, .int v3), (4, .int v4)] [] h
  refine x_iload hM d_Ki_markThoseBefore_10 3 rfl ?_
  refine x_ldc hG hM rfl w_756 d_Ki_markThoseBefore_12 ?_
  refine x_icmp_ge (tgt := 102) hM d_Ki_markThoseBefore_14 (by decide) (fun q24 => ?_) (fun q24 => ?_)
  · replace F := F.1 q24
    exact x_return hM d_Ki_markThoseBefore_102 rfl (y_end V hSt (F _))
  · replace F := F.2 q24
    refine x_iload_n hM d_Ki_markThoseBefore_17 rfl 2 rfl ?_
    refine x_iconst (v := (-1)) hM d_Ki_markThoseBefore_18 (by decide) ?_
    refine x_icmp_eq (tgt := 102) hM d_Ki_markThoseBefore_19 (by decide) (fun q23 => ?_) (fun q23 => ?_)
    · replace F := F.1 q23
      exact x_return hM d_Ki_markThoseBefore_102 rfl (y_end V hSt (F _))
    · replace F := F.2 q23
      refine x_iload_n hM d_Ki_markThoseBefore_22 rfl 2 rfl ?_
      refine x_callSN hG hM (r' := r_WP_stateOf) [.int v3] rfl yk_WP_stateOf ⟨Nat.le_of_ble_eq_true rfl, Nat.le_of_ble_eq_true rfl⟩ w_757 w_665 rfl rfl (Nat.le_of_ble_eq_true rfl) d_Ki_markThoseBefore_23 (sem_mono (F _ _ V) ?_)
      intro u2 h F
      obtain ⟨ad22, ρ1, V, hs3, F⟩ := F
      obtain ⟨x4, rfl, F⟩ := F
      have hs3 := (St_eq hs3).symm
      subst hs3
      refine x_istore (lv2 := [(5, .int x4), (0, .ref (ad (7, 0, 0))), (1, .ref (ad (1, 0, 0))), (3, .int v3), (4, .int v4)]) hM d_Ki_markThoseBefore_26 (Nat.le_of_ble_eq_true rfl) rfl ?_
      refine x_aload_n hM d_Ki_markThoseBefore_28 rfl 1 rfl ?_
      refine y_getr hG hM V ck_Ki 2 (Nat.le_of_ble_eq_true rfl) rfl rfl w_325 rfl d_Ki_markThoseBefore_29 (7, 0, 0) (34, 2, 0) rfl rfl rfl ?_
      refine x_iload hM d_Ki_markThoseBefore_32 0 rfl ?_
      obtain ⟨c5, F⟩ := F
      refine y_iaload hG hM V d_Ki_markThoseBefore_34 (34, 2, 0) rfl rfl c5 ?_
      refine x_istore (lv2 := [(6, .int (iR ρ1 (34, 2, 0) (Int32.toNatClampNeg x4))), (5, .int x4), (0, .ref (ad (7, 0, 0))), (1, .ref (ad (1, 0, 0))), (3, .int v3), (4, .int v4)]) hM d_Ki_markThoseBefore_35 (Nat.le_of_ble_eq_true rfl) rfl ?_
      refine x_aload_n hM d_Ki_markThoseBefore_37 rfl 2 rfl ?_
      refine y_getr hG hM V ck_Ki 7 (Nat.le_of_ble_eq_true rfl) rfl rfl w_332 rfl d_Ki_markThoseBefore_38 (7, 0, 0) (34, 7, 0) rfl rfl rfl ?_
      refine x_iload hM d_Ki_markThoseBefore_41 0 rfl ?_
      obtain ⟨c6, F⟩ := F
      refine y_iaload hG hM V d_Ki_markThoseBefore_43 (34, 7, 0) rfl rfl c6 ?_
      refine x_aload_n hM d_Ki_markThoseBefore_44 rfl 2 rfl ?_
      refine y_getr hG hM V ck_Ki 6 (Nat.le_of_ble_eq_true rfl) rfl rfl w_331 rfl d_Ki_markThoseBefore_45 (7, 0, 0) (34, 6, 0) rfl rfl rfl ?_
      refine x_iload hM d_Ki_markThoseBefore_48 0 rfl ?_
      obtain ⟨c7, F⟩ := F
      refine y_iaload hG hM V d_Ki_markThoseBefore_50 (34, 6, 0) rfl rfl c7 ?_
      refine x_isub hM d_Ki_markThoseBefore_51 ?_
      refine x_iconst (v := 1) hM d_Ki_markThoseBefore_52 (by decide) ?_
      refine x_icmp_le (tgt := 90) hM d_Ki_markThoseBefore_53 (by decide) (fun q21 => ?_) (fun q21 => ?_)
      · replace F := F.1 q21
        refine x_aload_n hM d_Ki_markThoseBefore_90 rfl 3 rfl ?_
        refine x_iload_n hM d_Ki_markThoseBefore_91 rfl 4 rfl ?_
        refine x_callV hG hM (r' := r_Wo_nextInto) (ci := 1) [.int v3] rfl rfl (Nat.le_of_ble_eq_true rfl) yk_Wo_nextInto ⟨Nat.le_of_ble_eq_true rfl, Nat.le_of_ble_eq_true rfl⟩ w_763 w_675 w_676 rfl rfl (Nat.le_of_ble_eq_true rfl) d_Ki_markThoseBefore_92 (by rw [vT V rfl]; rfl) (sem_mono (F _ _ V) ?_)
        intro u11 h F
        obtain ⟨ad14, ρ10, V, hs12, F⟩ := F
        obtain ⟨x13, rfl, F⟩ := F
        have hs12 := (St_eq hs12).symm
        subst hs12
        refine x_istore_n (lv2 := [(3, .int x13), (6, .int (iR ρ1 (34, 2, 0) (Int32.toNatClampNeg x4))), (5, .int x4), (0, .ref (ad (7, 0, 0))), (1, .ref (ad (1, 0, 0))), (4, .int v4)]) hM d_Ki_markThoseBefore_95 rfl (Nat.le_of_ble_eq_true rfl) rfl ?_
        refine x_iinc (v := (v4 + 1)) (lv2 := [(4, .int (v4 + 1)), (3, .int x13), (6, .int (iR ρ1 (34, 2, 0) (Int32.toNatClampNeg x4))), (5, .int x4), (0, .ref (ad (7, 0, 0))), (1, .ref (ad (1, 0, 0)))]) hM d_Ki_markThoseBefore_96 (j := 5) rfl rfl (Nat.le_of_ble_eq_true rfl) rfl ?_
        refine x_goto (tgt := 10) hM d_Ki_markThoseBefore_99 (by decide) ?_
        refine x_sub [4, 5, 1, 0] rfl ?_
        exact F _ _ hSt V
      · replace F := F.2 q21
        refine x_aload_n hM d_Ki_markThoseBefore_56 rfl 2 rfl ?_
        refine y_getr hG hM V ck_Ki 9 (Nat.le_of_ble_eq_true rfl) rfl rfl w_334 rfl d_Ki_markThoseBefore_57 (7, 0, 0) (34, 9, 0) rfl rfl rfl ?_
        refine x_iload hM d_Ki_markThoseBefore_60 1 rfl ?_
        obtain ⟨c15, F⟩ := F
        refine y_iaload hG hM V d_Ki_markThoseBefore_62 (34, 9, 0) rfl rfl c15 ?_
        refine x_if_ne (tgt := 74) hM d_Ki_markThoseBefore_63 (by decide) (fun q20 => ?_) (fun q20 => ?_)
        · replace F := F.2 q20
          refine x_sub [2, 3, 4, 5, 1] rfl ?_
          exact F _ _ hSt V
        · replace F := F.1 q20
          refine x_aload_n hM d_Ki_markThoseBefore_66 rfl 2 rfl ?_
          refine x_iload hM d_Ki_markThoseBefore_67 1 rfl ?_
          refine x_iload hM d_Ki_markThoseBefore_69 0 rfl ?_
          refine x_callV hG hM (r' := r_Ki_moveToChanged) (ci := 9) [.int x4, .int (iR ρ1 (34, 2, 0) (Int32.toNatClampNeg x4))] rfl rfl (Nat.le_of_ble_eq_true rfl) yk_Ki_moveToChanged ⟨Nat.le_of_ble_eq_true rfl, Nat.le_of_ble_eq_true rfl⟩ w_758 w_760 ws_Ki_moveToChanged rfl rfl (Nat.le_of_ble_eq_true rfl) d_Ki_markThoseBefore_71 (by rw [vT V rfl]; rfl) (sem_mono (F _ _ V) ?_)
          intro u17 h F
          obtain ⟨ad19, ρ16, V, hs18, F⟩ := F
          obtain ⟨rfl, F⟩ := F
          have hs18 := (St_eq hs18).symm
          subst hs18
          refine x_sub [2, 3, 4, 5, 1] rfl ?_
          exact F _ _ hSt V
set_option maxRecDepth 100000 in
set_option maxHeartbeats 4000000 in
theorem T_Ki_markThoseBefore_74 {G : Gc} {M : Mc} {Q : State → Prop} {ad0 : Ro → Nat} {K : (Ro → Nat) → Option Value → Rs → Prop} (hG : gok G) (hM : mok G M r_Ki_markThoseBefore Q (KV G [] ad0 K)) (v3 : Int32) (v4 : Int32) (v5 : Int32) (ρ : Rs) (F : vp_in v5 (nR ρ (34, 9, 0)) ∧ (semV G r_WP_actOf [] (fun ad => [.int v3]) ρ (fun ad u3 ρ2 => ∃ x5 : Int32, u3 = some (.int x5) ∧ (vp_in v5 (nR ρ2 (34, 9, 0)) ∧ (∀ ρ6 : Rs, ρ6 = pI ρ2 (34, 9, 0) (Int32.toNatClampNeg v5) ((iR ρ (34, 9, 0) (Int32.toNatClampNeg v5)) ||| (1 <<< (x5 &&& 31))) → (semV G r_Wo_nextInto [] (fun ad => [.ref (ad (1, 0, 0)), .int v3]) ρ6 (fun ad u8 ρ7 => ∃ x10 : Int32, u8 = some (.int x10) ∧ (Y G [] ad0 M Q 10 (fun ad => [(0, .ref (ad (7, 0, 0))), (1, .ref (ad (1, 0, 0))), (3, .int x10), (4, .int (v4 + 1))]) (fun ad => []) ρ7)))))))) : Y G [] ad0 M Q 74 (fun ad => [(0, .ref (ad (7, 0, 0))), (1, .ref (ad (1, 0, 0))), (3, .int v3), (4, .int v4), (5, .int v5)]) (fun ad => []) ρ := by
  intro ad h hSt V
  show X G M Q 74 [(0, .ref (ad (7, 0, 0))), (1, .ref (ad (1, 0, 0))), (3, .int v3), (4, .int v4), (5, .int v5)] [] h
  refine x_aload_n hM d_Ki_markThoseBefore_74 rfl 0 rfl ?_
  refine y_getr hG hM V ck_Ki 9 (Nat.le_of_ble_eq_true rfl) rfl rfl w_334 rfl d_Ki_markThoseBefore_75 (7, 0, 0) (34, 9, 0) rfl rfl rfl ?_
  refine x_iload hM d_Ki_markThoseBefore_78 4 rfl ?_
  refine x_dup2 hM d_Ki_markThoseBefore_80 rfl rfl ?_
  obtain ⟨c1, F⟩ := F
  refine y_iaload hG hM V d_Ki_markThoseBefore_81 (34, 9, 0) rfl rfl c1 ?_
  refine x_iconst (v := 1) hM d_Ki_markThoseBefore_82 (by decide) ?_
  refine x_iload_n hM d_Ki_markThoseBefore_83 rfl 2 rfl ?_
  refine x_callSN hG hM (r' := r_WP_actOf) [.int v3] rfl yk_WP_actOf ⟨Nat.le_of_ble_eq_true rfl, Nat.le_of_ble_eq_true rfl⟩ w_762 w_672 rfl rfl (Nat.le_of_ble_eq_true rfl) d_Ki_markThoseBefore_84 (sem_mono (F _ _ V) ?_)
  intro u3 h F
  obtain ⟨ad13, ρ2, V, hs4, F⟩ := F
  obtain ⟨x5, rfl, F⟩ := F
  have hs4 := (St_eq hs4).symm
  subst hs4
  refine x_ishl hM d_Ki_markThoseBefore_87 ?_
  refine x_ior hM d_Ki_markThoseBefore_88 ?_
  obtain ⟨c12, F⟩ := F
  obtain ⟨ρ6, eρ6⟩ : ∃ z : Rs, z = pI ρ2 (34, 9, 0) (Int32.toNatClampNeg v5) ((iR ρ (34, 9, 0) (Int32.toNatClampNeg v5)) ||| (1 <<< (x5 &&& 31))) := ⟨_, rfl⟩
  replace F := F ρ6 eρ6
  refine y_iastore hG hM V d_Ki_markThoseBefore_89 (34, 9, 0) rfl rfl c12 (fun h V => ?_)
  rw [← eρ6] at V
  clear eρ6
  refine x_aload_n hM d_Ki_markThoseBefore_90 rfl 1 rfl ?_
  refine x_iload_n hM d_Ki_markThoseBefore_91 rfl 2 rfl ?_
  refine x_callV hG hM (r' := r_Wo_nextInto) (ci := 1) [.int v3] rfl rfl (Nat.le_of_ble_eq_true rfl) yk_Wo_nextInto ⟨Nat.le_of_ble_eq_true rfl, Nat.le_of_ble_eq_true rfl⟩ w_763 w_675 w_676 rfl rfl (Nat.le_of_ble_eq_true rfl) d_Ki_markThoseBefore_92 (by rw [vT V rfl]; rfl) (sem_mono (F _ _ V) ?_)
  intro u8 h F
  obtain ⟨ad11, ρ7, V, hs9, F⟩ := F
  obtain ⟨x10, rfl, F⟩ := F
  have hs9 := (St_eq hs9).symm
  subst hs9
  refine x_istore_n (lv2 := [(3, .int x10), (0, .ref (ad (7, 0, 0))), (1, .ref (ad (1, 0, 0))), (4, .int v4), (5, .int v5)]) hM d_Ki_markThoseBefore_95 rfl (Nat.le_of_ble_eq_true rfl) rfl ?_
  refine x_iinc (v := (v4 + 1)) (lv2 := [(4, .int (v4 + 1)), (3, .int x10), (0, .ref (ad (7, 0, 0))), (1, .ref (ad (1, 0, 0))), (5, .int v5)]) hM d_Ki_markThoseBefore_96 (j := 3) rfl rfl (Nat.le_of_ble_eq_true rfl) rfl ?_
  refine x_goto (tgt := 10) hM d_Ki_markThoseBefore_99 (by decide) ?_
  refine x_sub [2, 3, 1, 0] rfl ?_
  exact F _ _ hSt V
set_option maxRecDepth 100000 in
set_option maxHeartbeats 4000000 in
theorem T_Ki_moveToChanged_0 {G : Gc} {M : Mc} {Q : State → Prop} {ad0 : Ro → Nat} {K : (Ro → Nat) → Option Value → Rs → Prop} (hG : gok G) (hM : mok G M r_Ki_moveToChanged Q (KV G [] ad0 K)) (v1 : Int32) (v2 : Int32) (ρ : Rs) (F : vp_in v2 (nR ρ (34, 6, 0)) ∧ (vp_in v2 (nR ρ (34, 8, 0)) ∧ (vp_in ((iR ρ (34, 6, 0) (Int32.toNatClampNeg v2)) + (iR ρ (34, 8, 0) (Int32.toNatClampNeg v2))) (nR ρ (34, 4, 0)) ∧ (vp_in v1 (nR ρ (34, 5, 0)) ∧ (vp_in (iR ρ (34, 5, 0) (Int32.toNatClampNeg v1)) (nR ρ (34, 4, 0)) ∧ (∀ ρ5 : Rs, ρ5 = pI ρ (34, 4, 0) (Int32.toNatClampNeg (iR ρ (34, 5, 0) (Int32.toNatClampNeg v1))) (iR ρ (34, 4, 0) (Int32.toNatClampNeg ((iR ρ (34, 6, 0) (Int32.toNatClampNeg v2)) + (iR ρ (34, 8, 0) (Int32.toNatClampNeg v2))))) → (vp_in v1 (nR ρ5 (34, 5, 0)) ∧ (vp_in (iR ρ (34, 4, 0) (Int32.toNatClampNeg ((iR ρ (34, 6, 0) (Int32.toNatClampNeg v2)) + (iR ρ (34, 8, 0) (Int32.toNatClampNeg v2))))) (nR ρ5 (34, 5, 0)) ∧ (∀ ρ7 : Rs, ρ7 = pI ρ5 (34, 5, 0) (Int32.toNatClampNeg (iR ρ (34, 4, 0) (Int32.toNatClampNeg ((iR ρ (34, 6, 0) (Int32.toNatClampNeg v2)) + (iR ρ (34, 8, 0) (Int32.toNatClampNeg v2)))))) (iR ρ5 (34, 5, 0) (Int32.toNatClampNeg v1)) → (vp_in ((iR ρ (34, 6, 0) (Int32.toNatClampNeg v2)) + (iR ρ (34, 8, 0) (Int32.toNatClampNeg v2))) (nR ρ7 (34, 4, 0)) ∧ (∀ ρ8 : Rs, ρ8 = pI ρ7 (34, 4, 0) (Int32.toNatClampNeg ((iR ρ (34, 6, 0) (Int32.toNatClampNeg v2)) + (iR ρ (34, 8, 0) (Int32.toNatClampNeg v2)))) v1 → (vp_in v1 (nR ρ8 (34, 5, 0)) ∧ (∀ ρ9 : Rs, ρ9 = pI ρ8 (34, 5, 0) (Int32.toNatClampNeg v1) ((iR ρ (34, 6, 0) (Int32.toNatClampNeg v2)) + (iR ρ (34, 8, 0) (Int32.toNatClampNeg v2))) → (vp_in v2 (nR ρ9 (34, 8, 0)) ∧ (((iR ρ9 (34, 8, 0) (Int32.toNatClampNeg v2)) = 0 → (vp_in (iR ρ9 (7, 0, 0) 11) (nR ρ9 (34, 10, 0)) ∧ (∀ ρ14 : Rs, ρ14 = pI ρ9 (34, 10, 0) (Int32.toNatClampNeg (iR ρ9 (7, 0, 0) 11)) v2 → (∀ ρ15 : Rs, ρ15 = pI ρ14 (7, 0, 0) 11 ((iR ρ14 (7, 0, 0) 11) + 1) → (vp_in v2 (nR ρ15 (34, 8, 0)) ∧ (vp_in v2 (nR ρ15 (34, 8, 0)) ∧ (∀ ρ17 : Rs, ρ17 = pI ρ15 (34, 8, 0) (Int32.toNatClampNeg v2) ((iR ρ15 (34, 8, 0) (Int32.toNatClampNeg v2)) + 1) → (∀ ad, K ad none ρ17)))))))) ∧ (¬ (iR ρ9 (34, 8, 0) (Int32.toNatClampNeg v2)) = 0 → (vp_in v2 (nR ρ9 (34, 8, 0)) ∧ (vp_in v2 (nR ρ9 (34, 8, 0)) ∧ (∀ ρ12 : Rs, ρ12 = pI ρ9 (34, 8, 0) (Int32.toNatClampNeg v2) ((iR ρ9 (34, 8, 0) (Int32.toNatClampNeg v2)) + 1) → (∀ ad, K ad none ρ12)))))))))))))))))))) : Y G [] ad0 M Q 0 (fun ad => [(0, .ref (ad (7, 0, 0))), (1, .int v1), (2, .int v2)]) (fun ad => []) ρ := by
  intro ad h hSt V
  show X G M Q 0 [(0, .ref (ad (7, 0, 0))), (1, .int v1), (2, .int v2)] [] h
  refine x_aload_n hM d_Ki_moveToChanged_0 rfl 0 rfl ?_
  refine y_getr hG hM V ck_Ki 6 (Nat.le_of_ble_eq_true rfl) rfl rfl w_331 rfl d_Ki_moveToChanged_1 (7, 0, 0) (34, 6, 0) rfl rfl rfl ?_
  refine x_iload_n hM d_Ki_moveToChanged_4 rfl 2 rfl ?_
  obtain ⟨c1, F⟩ := F
  refine y_iaload hG hM V d_Ki_moveToChanged_5 (34, 6, 0) rfl rfl c1 ?_
  refine x_aload_n hM d_Ki_moveToChanged_6 rfl 0 rfl ?_
  refine y_getr hG hM V ck_Ki 8 (Nat.le_of_ble_eq_true rfl) rfl rfl w_333 rfl d_Ki_moveToChanged_7 (7, 0, 0) (34, 8, 0) rfl rfl rfl ?_
  refine x_iload_n hM d_Ki_moveToChanged_10 rfl 2 rfl ?_
  obtain ⟨c2, F⟩ := F
  refine y_iaload hG hM V d_Ki_moveToChanged_11 (34, 8, 0) rfl rfl c2 ?_
  refine x_iadd hM d_Ki_moveToChanged_12 ?_
  refine x_istore_n (lv2 := [(3, .int ((iR ρ (34, 6, 0) (Int32.toNatClampNeg v2)) + (iR ρ (34, 8, 0) (Int32.toNatClampNeg v2)))), (0, .ref (ad (7, 0, 0))), (1, .int v1), (2, .int v2)]) hM d_Ki_moveToChanged_13 rfl (Nat.le_of_ble_eq_true rfl) rfl ?_
  refine x_aload_n hM d_Ki_moveToChanged_14 rfl 1 rfl ?_
  refine y_getr hG hM V ck_Ki 4 (Nat.le_of_ble_eq_true rfl) rfl rfl w_329 rfl d_Ki_moveToChanged_15 (7, 0, 0) (34, 4, 0) rfl rfl rfl ?_
  refine x_iload_n hM d_Ki_moveToChanged_18 rfl 0 rfl ?_
  obtain ⟨c3, F⟩ := F
  refine y_iaload hG hM V d_Ki_moveToChanged_19 (34, 4, 0) rfl rfl c3 ?_
  refine x_istore (lv2 := [(4, .int (iR ρ (34, 4, 0) (Int32.toNatClampNeg ((iR ρ (34, 6, 0) (Int32.toNatClampNeg v2)) + (iR ρ (34, 8, 0) (Int32.toNatClampNeg v2)))))), (3, .int ((iR ρ (34, 6, 0) (Int32.toNatClampNeg v2)) + (iR ρ (34, 8, 0) (Int32.toNatClampNeg v2)))), (0, .ref (ad (7, 0, 0))), (1, .int v1), (2, .int v2)]) hM d_Ki_moveToChanged_20 (Nat.le_of_ble_eq_true rfl) rfl ?_
  refine x_aload_n hM d_Ki_moveToChanged_22 rfl 2 rfl ?_
  refine y_getr hG hM V ck_Ki 4 (Nat.le_of_ble_eq_true rfl) rfl rfl w_329 rfl d_Ki_moveToChanged_23 (7, 0, 0) (34, 4, 0) rfl rfl rfl ?_
  refine x_aload_n hM d_Ki_moveToChanged_26 rfl 2 rfl ?_
  refine y_getr hG hM V ck_Ki 5 (Nat.le_of_ble_eq_true rfl) rfl rfl w_330 rfl d_Ki_moveToChanged_27 (7, 0, 0) (34, 5, 0) rfl rfl rfl ?_
  refine x_iload_n hM d_Ki_moveToChanged_30 rfl 3 rfl ?_
  obtain ⟨c4, F⟩ := F
  refine y_iaload hG hM V d_Ki_moveToChanged_31 (34, 5, 0) rfl rfl c4 ?_
  refine x_iload hM d_Ki_moveToChanged_32 0 rfl ?_
  obtain ⟨c24, F⟩ := F
  obtain ⟨ρ5, eρ5⟩ : ∃ z : Rs, z = pI ρ (34, 4, 0) (Int32.toNatClampNeg (iR ρ (34, 5, 0) (Int32.toNatClampNeg v1))) (iR ρ (34, 4, 0) (Int32.toNatClampNeg ((iR ρ (34, 6, 0) (Int32.toNatClampNeg v2)) + (iR ρ (34, 8, 0) (Int32.toNatClampNeg v2))))) := ⟨_, rfl⟩
  replace F := F ρ5 eρ5
  refine y_iastore hG hM V d_Ki_moveToChanged_34 (34, 4, 0) rfl rfl c24 (fun h V => ?_)
  rw [← eρ5] at V
  clear eρ5
  refine x_aload_n hM d_Ki_moveToChanged_35 rfl 2 rfl ?_
  refine y_getr hG hM V ck_Ki 5 (Nat.le_of_ble_eq_true rfl) rfl rfl w_330 rfl d_Ki_moveToChanged_36 (7, 0, 0) (34, 5, 0) rfl rfl rfl ?_
  refine x_iload hM d_Ki_moveToChanged_39 0 rfl ?_
  refine x_aload_n hM d_Ki_moveToChanged_41 rfl 2 rfl ?_
  refine y_getr hG hM V ck_Ki 5 (Nat.le_of_ble_eq_true rfl) rfl rfl w_330 rfl d_Ki_moveToChanged_42 (7, 0, 0) (34, 5, 0) rfl rfl rfl ?_
  refine x_iload_n hM d_Ki_moveToChanged_45 rfl 3 rfl ?_
  obtain ⟨c6, F⟩ := F
  refine y_iaload hG hM V d_Ki_moveToChanged_46 (34, 5, 0) rfl rfl c6 ?_
  obtain ⟨c23, F⟩ := F
  obtain ⟨ρ7, eρ7⟩ : ∃ z : Rs, z = pI ρ5 (34, 5, 0) (Int32.toNatClampNeg (iR ρ (34, 4, 0) (Int32.toNatClampNeg ((iR ρ (34, 6, 0) (Int32.toNatClampNeg v2)) + (iR ρ (34, 8, 0) (Int32.toNatClampNeg v2)))))) (iR ρ5 (34, 5, 0) (Int32.toNatClampNeg v1)) := ⟨_, rfl⟩
  replace F := F ρ7 eρ7
  refine y_iastore hG hM V d_Ki_moveToChanged_47 (34, 5, 0) rfl rfl c23 (fun h V => ?_)
  rw [← eρ7] at V
  clear eρ7
  refine x_aload_n hM d_Ki_moveToChanged_48 rfl 2 rfl ?_
  refine y_getr hG hM V ck_Ki 4 (Nat.le_of_ble_eq_true rfl) rfl rfl w_329 rfl d_Ki_moveToChanged_49 (7, 0, 0) (34, 4, 0) rfl rfl rfl ?_
  refine x_iload_n hM d_Ki_moveToChanged_52 rfl 1 rfl ?_
  refine x_iload_n hM d_Ki_moveToChanged_53 rfl 3 rfl ?_
  obtain ⟨c22, F⟩ := F
  obtain ⟨ρ8, eρ8⟩ : ∃ z : Rs, z = pI ρ7 (34, 4, 0) (Int32.toNatClampNeg ((iR ρ (34, 6, 0) (Int32.toNatClampNeg v2)) + (iR ρ (34, 8, 0) (Int32.toNatClampNeg v2)))) v1 := ⟨_, rfl⟩
  replace F := F ρ8 eρ8
  refine y_iastore hG hM V d_Ki_moveToChanged_54 (34, 4, 0) rfl rfl c22 (fun h V => ?_)
  rw [← eρ8] at V
  clear eρ8
  refine x_aload_n hM d_Ki_moveToChanged_55 rfl 2 rfl ?_
  refine y_getr hG hM V ck_Ki 5 (Nat.le_of_ble_eq_true rfl) rfl rfl w_330 rfl d_Ki_moveToChanged_56 (7, 0, 0) (34, 5, 0) rfl rfl rfl ?_
  refine x_iload_n hM d_Ki_moveToChanged_59 rfl 3 rfl ?_
  refine x_iload_n hM d_Ki_moveToChanged_60 rfl 1 rfl ?_
  obtain ⟨c21, F⟩ := F
  obtain ⟨ρ9, eρ9⟩ : ∃ z : Rs, z = pI ρ8 (34, 5, 0) (Int32.toNatClampNeg v1) ((iR ρ (34, 6, 0) (Int32.toNatClampNeg v2)) + (iR ρ (34, 8, 0) (Int32.toNatClampNeg v2))) := ⟨_, rfl⟩
  replace F := F ρ9 eρ9
  refine y_iastore hG hM V d_Ki_moveToChanged_61 (34, 5, 0) rfl rfl c21 (fun h V => ?_)
  rw [← eρ9] at V
  clear eρ9
  refine x_aload_n hM d_Ki_moveToChanged_62 rfl 2 rfl ?_
  refine y_getr hG hM V ck_Ki 8 (Nat.le_of_ble_eq_true rfl) rfl rfl w_333 rfl d_Ki_moveToChanged_63 (7, 0, 0) (34, 8, 0) rfl rfl rfl ?_
  refine x_iload_n hM d_Ki_moveToChanged_66 rfl 4 rfl ?_
  obtain ⟨c10, F⟩ := F
  refine y_iaload hG hM V d_Ki_moveToChanged_67 (34, 8, 0) rfl rfl c10 ?_
  refine x_if_ne (tgt := 91) hM d_Ki_moveToChanged_68 (by decide) (fun q20 => ?_) (fun q20 => ?_)
  · replace F := F.2 q20
    refine x_aload_n hM d_Ki_moveToChanged_91 rfl 2 rfl ?_
    refine y_getr hG hM V ck_Ki 8 (Nat.le_of_ble_eq_true rfl) rfl rfl w_333 rfl d_Ki_moveToChanged_92 (7, 0, 0) (34, 8, 0) rfl rfl rfl ?_
    refine x_iload_n hM d_Ki_moveToChanged_95 rfl 4 rfl ?_
    refine x_dup2 hM d_Ki_moveToChanged_96 rfl rfl ?_
    obtain ⟨c11, F⟩ := F
    refine y_iaload hG hM V d_Ki_moveToChanged_97 (34, 8, 0) rfl rfl c11 ?_
    refine x_iconst (v := 1) hM d_Ki_moveToChanged_98 (by decide) ?_
    refine x_iadd hM d_Ki_moveToChanged_99 ?_
    obtain ⟨c13, F⟩ := F
    obtain ⟨ρ12, eρ12⟩ : ∃ z : Rs, z = pI ρ9 (34, 8, 0) (Int32.toNatClampNeg v2) ((iR ρ9 (34, 8, 0) (Int32.toNatClampNeg v2)) + 1) := ⟨_, rfl⟩
    replace F := F ρ12 eρ12
    refine y_iastore hG hM V d_Ki_moveToChanged_100 (34, 8, 0) rfl rfl c13 (fun h V => ?_)
    rw [← eρ12] at V
    clear eρ12
    exact x_return hM d_Ki_moveToChanged_101 rfl (y_end V hSt (F _))
  · replace F := F.1 q20
    refine x_aload_n hM d_Ki_moveToChanged_71 rfl 2 rfl ?_
    refine y_getr hG hM V ck_Ki 10 (Nat.le_of_ble_eq_true rfl) rfl rfl w_335 rfl d_Ki_moveToChanged_72 (7, 0, 0) (34, 10, 0) rfl rfl rfl ?_
    refine x_aload_n hM d_Ki_moveToChanged_75 rfl 2 rfl ?_
    refine y_geti hG hM V ck_Ki 11 (Nat.le_of_ble_eq_true rfl) rfl rfl w_336 rfl d_Ki_moveToChanged_76 (7, 0, 0) rfl rfl ?_
    refine x_iload_n hM d_Ki_moveToChanged_79 rfl 4 rfl ?_
    obtain ⟨c19, F⟩ := F
    obtain ⟨ρ14, eρ14⟩ : ∃ z : Rs, z = pI ρ9 (34, 10, 0) (Int32.toNatClampNeg (iR ρ9 (7, 0, 0) 11)) v2 := ⟨_, rfl⟩
    replace F := F ρ14 eρ14
    refine y_iastore hG hM V d_Ki_moveToChanged_80 (34, 10, 0) rfl rfl c19 (fun h V => ?_)
    rw [← eρ14] at V
    clear eρ14
    refine x_aload_n hM d_Ki_moveToChanged_81 rfl 2 rfl ?_
    refine x_dup hM d_Ki_moveToChanged_82 rfl ?_
    refine y_geti hG hM V ck_Ki 11 (Nat.le_of_ble_eq_true rfl) rfl rfl w_336 rfl d_Ki_moveToChanged_83 (7, 0, 0) rfl rfl ?_
    refine x_iconst (v := 1) hM d_Ki_moveToChanged_86 (by decide) ?_
    refine x_iadd hM d_Ki_moveToChanged_87 ?_
    obtain ⟨ρ15, eρ15⟩ : ∃ z : Rs, z = pI ρ14 (7, 0, 0) 11 ((iR ρ14 (7, 0, 0) 11) + 1) := ⟨_, rfl⟩
    replace F := F ρ15 eρ15
    refine y_puti hG hM V ck_Ki 11 (Nat.le_of_ble_eq_true rfl) rfl rfl w_336 rfl d_Ki_moveToChanged_88 rfl (7, 0, 0) rfl rfl (fun h V => ?_)
    rw [← eρ15] at V
    clear eρ15
    refine x_aload_n hM d_Ki_moveToChanged_91 rfl 2 rfl ?_
    refine y_getr hG hM V ck_Ki 8 (Nat.le_of_ble_eq_true rfl) rfl rfl w_333 rfl d_Ki_moveToChanged_92 (7, 0, 0) (34, 8, 0) rfl rfl rfl ?_
    refine x_iload_n hM d_Ki_moveToChanged_95 rfl 4 rfl ?_
    refine x_dup2 hM d_Ki_moveToChanged_96 rfl rfl ?_
    obtain ⟨c16, F⟩ := F
    refine y_iaload hG hM V d_Ki_moveToChanged_97 (34, 8, 0) rfl rfl c16 ?_
    refine x_iconst (v := 1) hM d_Ki_moveToChanged_98 (by decide) ?_
    refine x_iadd hM d_Ki_moveToChanged_99 ?_
    obtain ⟨c18, F⟩ := F
    obtain ⟨ρ17, eρ17⟩ : ∃ z : Rs, z = pI ρ15 (34, 8, 0) (Int32.toNatClampNeg v2) ((iR ρ15 (34, 8, 0) (Int32.toNatClampNeg v2)) + 1) := ⟨_, rfl⟩
    replace F := F ρ17 eρ17
    refine y_iastore hG hM V d_Ki_moveToChanged_100 (34, 8, 0) rfl rfl c18 (fun h V => ?_)
    rw [← eρ17] at V
    clear eρ17
    exact x_return hM d_Ki_moveToChanged_101 rfl (y_end V hSt (F _))
set_option maxRecDepth 100000 in
set_option maxHeartbeats 4000000 in
theorem T_Ki_findLeast_0 {G : Gc} {M : Mc} {Q : State → Prop} {ad0 : Ro → Nat} {K : (Ro → Nat) → Option Value → Rs → Prop} (hG : gok G) (hM : mok G M r_Ki_findLeast Q (KV G [] ad0 K)) (v1 : Int32) (ρ : Rs) (F : semV G r_Ar_fill [] (fun ad => [.ref (ad (34, 3, 0)), .int 0, .int (iR ρ (7, 0, 0) 0), .int (-1)]) ρ (fun ad u2 ρ1 => u2 = none ∧ (Y G [] ad0 M Q 15 (fun ad => [(0, .ref (ad (7, 0, 0))), (1, .int v1), (2, .int 0)]) (fun ad => []) ρ1))) : Y G [] ad0 M Q 0 (fun ad => [(0, .ref (ad (7, 0, 0))), (1, .int v1)]) (fun ad => []) ρ := by
  intro ad h hSt V
  show X G M Q 0 [(0, .ref (ad (7, 0, 0))), (1, .int v1)] [] h
  refine x_aload_n hM d_Ki_findLeast_0 rfl 0 rfl ?_
  refine y_getr hG hM V ck_Ki 3 (Nat.le_of_ble_eq_true rfl) rfl rfl w_327 rfl d_Ki_findLeast_1 (7, 0, 0) (34, 3, 0) rfl rfl rfl ?_
  refine x_iconst (v := 0) hM d_Ki_findLeast_4 (by decide) ?_
  refine x_aload_n hM d_Ki_findLeast_5 rfl 0 rfl ?_
  refine y_geti hG hM V ck_Ki 0 (Nat.le_of_ble_eq_true rfl) rfl rfl w_321 rfl d_Ki_findLeast_6 (7, 0, 0) rfl rfl ?_
  refine x_iconst (v := (-1)) hM d_Ki_findLeast_9 (by decide) ?_
  refine x_callS hG hM (r' := r_Ar_fill) [.ref (ad (34, 3, 0)), .int 0, .int (iR ρ (7, 0, 0) 0), .int (-1)] rfl yk_Ar_fill ⟨Nat.le_of_ble_eq_true rfl, Nat.le_of_ble_eq_true rfl⟩ w_727 w_604 rfl rfl (Nat.le_of_ble_eq_true rfl) d_Ki_findLeast_10 (sem_mono (F _ _ V) ?_)
  intro u2 h F
  obtain ⟨ad4, ρ1, V, hs3, F⟩ := F
  obtain ⟨rfl, F⟩ := F
  have hs3 := (St_eq hs3).symm
  subst hs3
  refine x_iconst (v := 0) hM d_Ki_findLeast_13 (by decide) ?_
  refine x_istore_n (lv2 := [(2, .int 0), (0, .ref (ad (7, 0, 0))), (1, .int v1)]) hM d_Ki_findLeast_14 rfl (Nat.le_of_ble_eq_true rfl) rfl ?_
  refine x_sub [1, 2, 0] rfl ?_
  exact F _ _ hSt V
set_option maxRecDepth 100000 in
set_option maxHeartbeats 4000000 in
theorem T_Ki_findLeast_15 {G : Gc} {M : Mc} {Q : State → Prop} {ad0 : Ro → Nat} {K : (Ro → Nat) → Option Value → Rs → Prop} (hG : gok G) (hM : mok G M r_Ki_findLeast Q (KV G [] ad0 K)) (v1 : Int32) (v2 : Int32) (ρ : Rs) (F : (v1 ≤ v2 → (∀ ad, K ad none ρ)) ∧ (¬ v1 ≤ v2 → (vp_in v2 (nR ρ (34, 2, 0)) ∧ (vp_in (iR ρ (34, 2, 0) (Int32.toNatClampNeg v2)) (nR ρ (34, 3, 0)) ∧ (((iR ρ (34, 3, 0) (Int32.toNatClampNeg (iR ρ (34, 2, 0) (Int32.toNatClampNeg v2)))) = (-1) → (vp_in v2 (nR ρ (34, 2, 0)) ∧ (vp_in (iR ρ (34, 2, 0) (Int32.toNatClampNeg v2)) (nR ρ (34, 3, 0)) ∧ (∀ ρ7 : Rs, ρ7 = pI ρ (34, 3, 0) (Int32.toNatClampNeg (iR ρ (34, 2, 0) (Int32.toNatClampNeg v2))) v2 → (Y G [] ad0 M Q 15 (fun ad => [(0, .ref (ad (7, 0, 0))), (1, .int v1), (2, .int (v2 + 1))]) (fun ad => []) ρ7))))) ∧ (¬ (iR ρ (34, 3, 0) (Int32.toNatClampNeg (iR ρ (34, 2, 0) (Int32.toNatClampNeg v2)))) = (-1) → (Y G [] ad0 M Q 15 (fun ad => [(0, .ref (ad (7, 0, 0))), (1, .int v1), (2, .int (v2 + 1))]) (fun ad => []) ρ))))))) : Y G [] ad0 M Q 15 (fun ad => [(0, .ref (ad (7, 0, 0))), (1, .int v1), (2, .int v2)]) (fun ad => []) ρ := by
  intro ad h hSt V
  show X G M Q 15 [(0, .ref (ad (7, 0, 0))), (1, .int v1), (2, .int v2)] [] h
  refine x_iload_n hM d_Ki_findLeast_15 rfl 2 rfl ?_
  refine x_iload_n hM d_Ki_findLeast_16 rfl 1 rfl ?_
  refine x_icmp_ge (tgt := 53) hM d_Ki_findLeast_17 (by decide) (fun q10 => ?_) (fun q10 => ?_)
  · replace F := F.1 q10
    exact x_return hM d_Ki_findLeast_53 rfl (y_end V hSt (F _))
  · replace F := F.2 q10
    refine x_aload_n hM d_Ki_findLeast_20 rfl 0 rfl ?_
    refine y_getr hG hM V ck_Ki 3 (Nat.le_of_ble_eq_true rfl) rfl rfl w_327 rfl d_Ki_findLeast_21 (7, 0, 0) (34, 3, 0) rfl rfl rfl ?_
    refine x_aload_n hM d_Ki_findLeast_24 rfl 0 rfl ?_
    refine y_getr hG hM V ck_Ki 2 (Nat.le_of_ble_eq_true rfl) rfl rfl w_325 rfl d_Ki_findLeast_25 (7, 0, 0) (34, 2, 0) rfl rfl rfl ?_
    refine x_iload_n hM d_Ki_findLeast_28 rfl 2 rfl ?_
    obtain ⟨c3, F⟩ := F
    refine y_iaload hG hM V d_Ki_findLeast_29 (34, 2, 0) rfl rfl c3 ?_
    obtain ⟨c4, F⟩ := F
    refine y_iaload hG hM V d_Ki_findLeast_30 (34, 3, 0) rfl rfl c4 ?_
    refine x_iconst (v := (-1)) hM d_Ki_findLeast_31 (by decide) ?_
    refine x_icmp_ne (tgt := 47) hM d_Ki_findLeast_32 (by decide) (fun q9 => ?_) (fun q9 => ?_)
    · replace F := F.2 q9
      refine x_iinc (v := (v2 + 1)) (lv2 := [(2, .int (v2 + 1)), (0, .ref (ad (7, 0, 0))), (1, .int v1)]) hM d_Ki_findLeast_47 (j := 2) rfl rfl (Nat.le_of_ble_eq_true rfl) rfl ?_
      refine x_goto (tgt := 15) hM d_Ki_findLeast_50 (by decide) ?_
      refine x_sub [1, 2, 0] rfl ?_
      exact F _ _ hSt V
    · replace F := F.1 q9
      refine x_aload_n hM d_Ki_findLeast_35 rfl 0 rfl ?_
      refine y_getr hG hM V ck_Ki 3 (Nat.le_of_ble_eq_true rfl) rfl rfl w_327 rfl d_Ki_findLeast_36 (7, 0, 0) (34, 3, 0) rfl rfl rfl ?_
      refine x_aload_n hM d_Ki_findLeast_39 rfl 0 rfl ?_
      refine y_getr hG hM V ck_Ki 2 (Nat.le_of_ble_eq_true rfl) rfl rfl w_325 rfl d_Ki_findLeast_40 (7, 0, 0) (34, 2, 0) rfl rfl rfl ?_
      refine x_iload_n hM d_Ki_findLeast_43 rfl 2 rfl ?_
      obtain ⟨c6, F⟩ := F
      refine y_iaload hG hM V d_Ki_findLeast_44 (34, 2, 0) rfl rfl c6 ?_
      refine x_iload_n hM d_Ki_findLeast_45 rfl 2 rfl ?_
      obtain ⟨c8, F⟩ := F
      obtain ⟨ρ7, eρ7⟩ : ∃ z : Rs, z = pI ρ (34, 3, 0) (Int32.toNatClampNeg (iR ρ (34, 2, 0) (Int32.toNatClampNeg v2))) v2 := ⟨_, rfl⟩
      replace F := F ρ7 eρ7
      refine y_iastore hG hM V d_Ki_findLeast_46 (34, 3, 0) rfl rfl c8 (fun h V => ?_)
      rw [← eρ7] at V
      clear eρ7
      refine x_iinc (v := (v2 + 1)) (lv2 := [(2, .int (v2 + 1)), (0, .ref (ad (7, 0, 0))), (1, .int v1)]) hM d_Ki_findLeast_47 (j := 2) rfl rfl (Nat.le_of_ble_eq_true rfl) rfl ?_
      refine x_goto (tgt := 15) hM d_Ki_findLeast_50 (by decide) ?_
      refine x_sub [1, 2, 0] rfl ?_
      exact F _ _ hSt V
