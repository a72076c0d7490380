set_option maxRecDepth 100000 in
set_option maxHeartbeats 4000000 in
theorem T_Mo_partAll_0 {G : Gc} {M : Mc} {Q : State → Prop} {ad0 : Ro → Nat} {K : (Ro → Nat) → Option Value → Rs → Prop} (hG : gok G) (hM : mok G M r_Mo_partAll Q (KV G [] ad0 K))  (ρ : Rs) (F : semV G r_Mo_lay [] (fun ad => [.ref (ad (40, 0, 0))]) ρ (fun ad u2 ρ1 => u2 = none ∧ (((iR ρ1 (40, 0, 0) 26) = 0 → (∀ ρ4 : Rs, ρ4 = pI ρ1 (40, 0, 0) 26 1 → (Y G [] ad0 M Q 21 (fun ad => [(0, .ref (ad (40, 0, 0))), (1, .int 0), (2, .int 0)]) (fun ad => []) ρ4))) ∧ (¬ (iR ρ1 (40, 0, 0) 26) = 0 → (∀ ad, K ad none ρ1))))) : Y G [] ad0 M Q 0 (fun ad => [(0, .ref (ad (40, 0, 0)))]) (fun ad => []) ρ := by
  intro ad h hSt V
  show X G M Q 0 [(0, .ref (ad (40, 0, 0)))] [] h
  refine x_aload_n hM d_Mo_partAll_0 rfl 0 rfl ?_
  refine x_callV hG hM (r' := r_Mo_lay) (ci := 11) [] rfl rfl (Nat.le_of_ble_eq_true rfl) yk_Mo_lay ⟨Nat.le_of_ble_eq_true rfl, Nat.le_of_ble_eq_true rfl⟩ w_1112 w_1114 ws_Mo_lay rfl rfl (Nat.le_of_ble_eq_true rfl) d_Mo_partAll_1 (by rw [vT V rfl]; rfl) (sem_mono (F _ _ V) ?_)
  intro u2 h F
  obtain ⟨ad6, ρ1, V, hs3, F⟩ := F
  obtain ⟨rfl, F⟩ := F
  have hs3 := (St_eq hs3).symm
  subst hs3
  refine x_aload_n hM d_Mo_partAll_4 rfl 0 rfl ?_
  refine y_geti hG hM V ck_Mo 26 (Nat.le_of_ble_eq_true rfl) rfl rfl w_923 rfl d_Mo_partAll_5 (40, 0, 0) rfl rfl ?_
  refine x_if_eq (tgt := 12) hM d_Mo_partAll_8 (by decide) (fun q5 => ?_) (fun q5 => ?_)
  · replace F := F.1 q5
    refine x_aload_n hM d_Mo_partAll_12 rfl 0 rfl ?_
    refine x_iconst (v := 1) hM d_Mo_partAll_13 (by decide) ?_
    obtain ⟨ρ4, eρ4⟩ : ∃ z : Rs, z = pI ρ1 (40, 0, 0) 26 1 := ⟨_, rfl⟩
    replace F := F ρ4 eρ4
    refine y_putz hG hM V ck_Mo 26 (Nat.le_of_ble_eq_true rfl) rfl rfl w_923 rfl d_Mo_partAll_14 rfl (40, 0, 0) rfl rfl (Or.inr rfl) (fun h V => ?_)
    rw [← eρ4] at V
    clear eρ4
    refine x_iconst (v := 0) hM d_Mo_partAll_17 (by decide) ?_
    refine x_istore_n (lv2 := [(1, .int 0), (0, .ref (ad (40, 0, 0)))]) hM d_Mo_partAll_18 rfl (Nat.le_of_ble_eq_true rfl) rfl ?_
    refine x_iconst (v := 0) hM d_Mo_partAll_19 (by decide) ?_
    refine x_istore_n (lv2 := [(2, .int 0), (1, .int 0), (0, .ref (ad (40, 0, 0)))]) hM d_Mo_partAll_20 rfl (Nat.le_of_ble_eq_true rfl) rfl ?_
    refine x_sub [2, 1, 0] rfl ?_
    exact F _ _ hSt V
  · replace F := F.2 q5
    exact x_return hM d_Mo_partAll_11 rfl (y_end V hSt (F _))
set_option maxRecDepth 100000 in
set_option maxHeartbeats 4000000 in
theorem T_Mo_partAll_21 {G : Gc} {M : Mc} {Q : State → Prop} {ad0 : Ro → Nat} {K : (Ro → Nat) → Option Value → Rs → Prop} (hG : gok G) (hM : mok G M r_Mo_partAll Q (KV G [] ad0 K)) (v1 : Int32) (v2 : Int32) (ρ : Rs) (F : ((iR ρ (40, 0, 0) 13) ≤ v2 → (∀ ρ2 : Rs, ρ2 = pI ρ (40, 0, 0) 32 1 → (Y G [] ad0 M Q 62 (fun ad => [(0, .ref (ad (40, 0, 0))), (1, .int v1), (2, .int 1)]) (fun ad => []) ρ2))) ∧ (¬ (iR ρ (40, 0, 0) 13) ≤ v2 → (vp_in v2 4096 ∧ (∀ z4 : Int32, z4 = (if (iR ρ (41, 15, 0) (Int32.toNatClampNeg v2)) = 0 then 0 else 1) → (vp_in v2 4096 ∧ (∀ ρ5 : Rs, ρ5 = pI ρ (41, 27, 0) (Int32.toNatClampNeg v2) z4 → (Y G [] ad0 M Q 21 (fun ad => [(0, .ref (ad (40, 0, 0))), (1, .int v1), (2, .int (v2 + 1))]) (fun ad => []) ρ5))))))) : Y G [] ad0 M Q 21 (fun ad => [(0, .ref (ad (40, 0, 0))), (1, .int v1), (2, .int v2)]) (fun ad => []) ρ := by
  intro ad h hSt V
  show X G M Q 21 [(0, .ref (ad (40, 0, 0))), (1, .int v1), (2, .int v2)] [] h
  refine x_iload_n hM d_Mo_partAll_21 rfl 2 rfl ?_
  refine x_aload_n hM d_Mo_partAll_22 rfl 0 rfl ?_
  refine y_geti hG hM V ck_Mo 13 (Nat.le_of_ble_eq_true rfl) rfl rfl w_910 rfl d_Mo_partAll_23 (40, 0, 0) rfl rfl ?_
  refine x_icmp_ge (tgt := 55) hM d_Mo_partAll_26 (by decide) (fun q8 => ?_) (fun q8 => ?_)
  · replace F := F.1 q8
    refine x_aload_n hM d_Mo_partAll_55 rfl 0 rfl ?_
    refine x_iconst (v := 1) hM d_Mo_partAll_56 (by decide) ?_
    obtain ⟨ρ2, eρ2⟩ : ∃ z : Rs, z = pI ρ (40, 0, 0) 32 1 := ⟨_, rfl⟩
    replace F := F ρ2 eρ2
    refine y_puti hG hM V ck_Mo 32 (Nat.le_of_ble_eq_true rfl) rfl rfl w_929 rfl d_Mo_partAll_57 rfl (40, 0, 0) rfl rfl (fun h V => ?_)
    rw [← eρ2] at V
    clear eρ2
    refine x_iconst (v := 1) hM d_Mo_partAll_60 (by decide) ?_
    refine x_istore_n (lv2 := [(2, .int 1), (0, .ref (ad (40, 0, 0))), (1, .int v1)]) hM d_Mo_partAll_61 rfl (Nat.le_of_ble_eq_true rfl) rfl ?_
    refine x_sub [1, 2, 0] rfl ?_
    exact F _ _ hSt V
  · replace F := F.2 q8
    refine x_aload_n hM d_Mo_partAll_29 rfl 0 rfl ?_
    refine y_getr hG hM V ck_Mo 27 (Nat.le_of_ble_eq_true rfl) rfl rfl w_924 rfl d_Mo_partAll_30 (40, 0, 0) (41, 27, 0) rfl rfl rfl ?_
    refine x_iload_n hM d_Mo_partAll_33 rfl 2 rfl ?_
    refine x_aload_n hM d_Mo_partAll_34 rfl 0 rfl ?_
    refine y_getr hG hM V ck_Mo 15 (Nat.le_of_ble_eq_true rfl) rfl rfl w_912 rfl d_Mo_partAll_35 (40, 0, 0) (41, 15, 0) rfl rfl rfl ?_
    refine x_iload_n hM d_Mo_partAll_38 rfl 2 rfl ?_
    obtain ⟨c3, F⟩ := F
    refine y_zaload hG hM V d_Mo_partAll_39 (41, 15, 0) rfl rfl (by rw [vlen V (r := (41, 15, 0)) rfl rfl]; exact c3) ?_
    have JJ : ∀ (z4 : Int32) (ez4 : z4 = (if (iR ρ (41, 15, 0) (Int32.toNatClampNeg v2)) = 0 then 0 else 1)), X G M Q 48 [(0, .ref (ad (40, 0, 0))), (1, .int v1), (2, .int v2)] [.int z4, .int v2, .ref (ad (41, 27, 0))] h := by
      intro z4 ez4
      replace F := F _ ez4
      obtain ⟨c6, F⟩ := F
      obtain ⟨ρ5, eρ5⟩ : ∃ z : Rs, z = pI ρ (41, 27, 0) (Int32.toNatClampNeg v2) z4 := ⟨_, rfl⟩
      replace F := F ρ5 eρ5
      refine y_iastore hG hM V d_Mo_partAll_48 (41, 27, 0) rfl rfl (by rw [vlen V (r := (41, 27, 0)) rfl rfl]; exact c6) (fun h V => ?_)
      rw [← eρ5] at V
      clear eρ5
      refine x_iinc (v := (v2 + 1)) (lv2 := [(2, .int (v2 + 1)), (0, .ref (ad (40, 0, 0))), (1, .int v1)]) hM d_Mo_partAll_49 (j := 2) rfl rfl (Nat.le_of_ble_eq_true rfl) rfl ?_
      refine x_goto (tgt := 21) hM d_Mo_partAll_52 (by decide) ?_
      refine x_sub [1, 2, 0] rfl ?_
      exact F _ _ hSt V
    refine x_if_eq (tgt := 47) hM d_Mo_partAll_40 (by decide) (fun q7 => ?_) (fun q7 => ?_)
    · refine x_iconst (v := 0) hM d_Mo_partAll_47 (by decide) ?_
      exact JJ _ (Eq.symm (if_pos q7))
    · refine x_iconst (v := 1) hM d_Mo_partAll_43 (by decide) ?_
      refine x_goto (tgt := 48) hM d_Mo_partAll_44 (by decide) ?_
      exact JJ _ (Eq.symm (if_neg q7))
set_option maxRecDepth 100000 in
set_option maxHeartbeats 4000000 in
theorem T_Mo_partAll_62 {G : Gc} {M : Mc} {Q : State → Prop} {ad0 : Ro → Nat} {K : (Ro → Nat) → Option Value → Rs → Prop} (hG : gok G) (hM : mok G M r_Mo_partAll Q (KV G [] ad0 K)) (v1 : Int32) (v2 : Int32) (ρ : Rs) (F : (v2 = 0 → (∀ ad, K ad none ρ)) ∧ (¬ v2 = 0 → (Y G [] ad0 M Q 68 (fun ad => [(0, .ref (ad (40, 0, 0))), (1, .int v1), (3, .int 0)]) (fun ad => []) ρ))) : Y G [] ad0 M Q 62 (fun ad => [(0, .ref (ad (40, 0, 0))), (1, .int v1), (2, .int v2)]) (fun ad => []) ρ := by
  intro ad h hSt V
  show X G M Q 62 [(0, .ref (ad (40, 0, 0))), (1, .int v1), (2, .int v2)] [] h
  refine x_iload_n hM d_Mo_partAll_62 rfl 2 rfl ?_
  refine x_if_eq (tgt := 300) hM d_Mo_partAll_63 (by decide) (fun q1 => ?_) (fun q1 => ?_)
  · replace F := F.1 q1
    exact x_return hM d_Mo_partAll_300 rfl (y_end V hSt (F _))
  · replace F := F.2 q1
    refine x_iconst (v := 0) hM d_Mo_partAll_66 (by decide) ?_
    refine x_istore_n (lv2 := [(3, .int 0), (0, .ref (ad (40, 0, 0))), (1, .int v1), (2, .int v2)]) hM d_Mo_partAll_67 rfl (Nat.le_of_ble_eq_true rfl) rfl ?_
    refine x_sub [1, 2, 0] rfl ?_
    exact F _ _ hSt V
set_option maxRecDepth 100000 in
set_option maxHeartbeats 4000000 in
theorem T_Mo_partAll_68 {G : Gc} {M : Mc} {Q : State → Prop} {ad0 : Ro → Nat} {K : (Ro → Nat) → Option Value → Rs → Prop} (hG : gok G) (hM : mok G M r_Mo_partAll Q (KV G [] ad0 K)) (v1 : Int32) (v3 : Int32) (ρ : Rs) (F : (8192 ≤ v3 → (∀ ρ1 : Rs, ρ1 = pI ρ (40, 0, 0) 32 0 → (Y G [] ad0 M Q 95 (fun ad => [(0, .ref (ad (40, 0, 0))), (1, .int v1), (3, .int 0)]) (fun ad => []) ρ1))) ∧ (¬ 8192 ≤ v3 → (vp_in v3 8192 ∧ (∀ ρ2 : Rs, ρ2 = pI ρ (41, 30, 0) (Int32.toNatClampNeg v3) (-1) → (Y G [] ad0 M Q 68 (fun ad => [(0, .ref (ad (40, 0, 0))), (1, .int v1), (3, .int (v3 + 1))]) (fun ad => []) ρ2))))) : Y G [] ad0 M Q 68 (fun ad => [(0, .ref (ad (40, 0, 0))), (1, .int v1), (3, .int v3)]) (fun ad => []) ρ := by
  intro ad h hSt V
  show X G M Q 68 [(0, .ref (ad (40, 0, 0))), (1, .int v1), (3, .int v3)] [] h
  refine x_iload_n hM d_Mo_partAll_68 rfl 2 rfl ?_
  refine x_sipush (v := 8192) hM d_Mo_partAll_69 (by decide) ?_
  refine x_icmp_ge (tgt := 88) hM d_Mo_partAll_72 (by decide) (fun q4 => ?_) (fun q4 => ?_)
  · replace F := F.1 q4
    refine x_aload_n hM d_Mo_partAll_88 rfl 0 rfl ?_
    refine x_iconst (v := 0) hM d_Mo_partAll_89 (by decide) ?_
    obtain ⟨ρ1, eρ1⟩ : ∃ z : Rs, z = pI ρ (40, 0, 0) 32 0 := ⟨_, rfl⟩
    replace F := F ρ1 eρ1
    refine y_puti hG hM V ck_Mo 32 (Nat.le_of_ble_eq_true rfl) rfl rfl w_929 rfl d_Mo_partAll_90 rfl (40, 0, 0) rfl rfl (fun h V => ?_)
    rw [← eρ1] at V
    clear eρ1
    refine x_iconst (v := 0) hM d_Mo_partAll_93 (by decide) ?_
    refine x_istore_n (lv2 := [(3, .int 0), (0, .ref (ad (40, 0, 0))), (1, .int v1)]) hM d_Mo_partAll_94 rfl (Nat.le_of_ble_eq_true rfl) rfl ?_
    refine x_sub [1, 2, 0] rfl ?_
    exact F _ _ hSt V
  · replace F := F.2 q4
    refine x_aload_n hM d_Mo_partAll_75 rfl 0 rfl ?_
    refine y_getr hG hM V ck_Mo 30 (Nat.le_of_ble_eq_true rfl) rfl rfl w_927 rfl d_Mo_partAll_76 (40, 0, 0) (41, 30, 0) rfl rfl rfl ?_
    refine x_iload_n hM d_Mo_partAll_79 rfl 2 rfl ?_
    refine x_iconst (v := (-1)) hM d_Mo_partAll_80 (by decide) ?_
    obtain ⟨c3, F⟩ := F
    obtain ⟨ρ2, eρ2⟩ : ∃ z : Rs, z = pI ρ (41, 30, 0) (Int32.toNatClampNeg v3) (-1) := ⟨_, rfl⟩
    replace F := F ρ2 eρ2
    refine y_iastore hG hM V d_Mo_partAll_81 (41, 30, 0) rfl rfl (by rw [vlen V (r := (41, 30, 0)) rfl rfl]; exact c3) (fun h V => ?_)
    rw [← eρ2] at V
    clear eρ2
    refine x_iinc (v := (v3 + 1)) (lv2 := [(3, .int (v3 + 1)), (0, .ref (ad (40, 0, 0))), (1, .int v1)]) hM d_Mo_partAll_82 (j := 2) rfl rfl (Nat.le_of_ble_eq_true rfl) rfl ?_
    refine x_goto (tgt := 68) hM d_Mo_partAll_85 (by decide) ?_
    refine x_sub [1, 2, 0] rfl ?_
    exact F _ _ hSt V
set_option maxRecDepth 100000 in
set_option maxHeartbeats 4000000 in
theorem T_Mo_partAll_95 {G : Gc} {M : Mc} {Q : State → Prop} {ad0 : Ro → Nat} {K : (Ro → Nat) → Option Value → Rs → Prop} (hG : gok G) (hM : mok G M r_Mo_partAll Q (KV G [] ad0 K)) (v1 : Int32) (v3 : Int32) (ρ : Rs) (F : ((iR ρ (40, 0, 0) 13) ≤ v3 → (Y G [] ad0 M Q 252 (fun ad => [(0, .ref (ad (40, 0, 0))), (1, .int v1), (3, .int 0)]) (fun ad => []) ρ)) ∧ (¬ (iR ρ (40, 0, 0) 13) ≤ v3 → (semV G r_Mo_signOf [] (fun ad => [.ref (ad (40, 0, 0)), .int v3]) ρ (fun ad u2 ρ1 => ∃ x4 : Int64, u2 = some (.long x4) ∧ (vp_in v3 4096 ∧ (∀ ρ5 : Rs, ρ5 = pL ρ1 (41, 29, 0) (Int32.toNatClampNeg v3) x4 → (vp_in v3 4096 ∧ (vp_in (Int64.toInt32 ((lR ρ5 (41, 29, 0) (Int32.toNatClampNeg v3)) &&& 8191)) 8192 ∧ (Y G [] ad0 M Q 136 (fun ad => [(0, .ref (ad (40, 0, 0))), (1, .int v1), (3, .int v3), (4, .int (Int64.toInt32 ((lR ρ5 (41, 29, 0) (Int32.toNatClampNeg v3)) &&& 8191))), (5, .int (iR ρ5 (41, 30, 0) (Int32.toNatClampNeg (Int64.toInt32 ((lR ρ5 (41, 29, 0) (Int32.toNatClampNeg v3)) &&& 8191)))))]) (fun ad => []) ρ5))))))))) : Y G [] ad0 M Q 95 (fun ad => [(0, .ref (ad (40, 0, 0))), (1, .int v1), (3, .int v3)]) (fun ad => []) ρ := by
  intro ad h hSt V
  show X G M Q 95 [(0, .ref (ad (40, 0, 0))), (1, .int v1), (3, .int v3)] [] h
  refine x_iload_n hM d_Mo_partAll_95 rfl 2 rfl ?_
  refine x_aload_n hM d_Mo_partAll_96 rfl 0 rfl ?_
  refine y_geti hG hM V ck_Mo 13 (Nat.le_of_ble_eq_true rfl) rfl rfl w_910 rfl d_Mo_partAll_97 (40, 0, 0) rfl rfl ?_
  refine x_icmp_ge (tgt := 250) hM d_Mo_partAll_100 (by decide) (fun q10 => ?_) (fun q10 => ?_)
  · replace F := F.1 q10
    refine x_iconst (v := 0) hM d_Mo_partAll_250 (by decide) ?_
    refine x_istore_n (lv2 := [(3, .int 0), (0, .ref (ad (40, 0, 0))), (1, .int v1)]) hM d_Mo_partAll_251 rfl (Nat.le_of_ble_eq_true rfl) rfl ?_
    refine x_sub [1, 2, 0] rfl ?_
    exact F _ _ hSt V
  · replace F := F.2 q10
    refine x_aload_n hM d_Mo_partAll_103 rfl 0 rfl ?_
    refine y_getr hG hM V ck_Mo 29 (Nat.le_of_ble_eq_true rfl) rfl rfl w_926 rfl d_Mo_partAll_104 (40, 0, 0) (41, 29, 0) rfl rfl rfl ?_
    refine x_iload_n hM d_Mo_partAll_107 rfl 2 rfl ?_
    refine x_aload_n hM d_Mo_partAll_108 rfl 0 rfl ?_
    refine x_iload_n hM d_Mo_partAll_109 rfl 2 rfl ?_
    refine x_callV hG hM (r' := r_Mo_signOf) (ci := 11) [.int v3] rfl rfl (Nat.le_of_ble_eq_true rfl) yk_Mo_signOf ⟨Nat.le_of_ble_eq_true rfl, Nat.le_of_ble_eq_true rfl⟩ w_1144 w_1146 ws_Mo_signOf rfl rfl (Nat.le_of_ble_eq_true rfl) d_Mo_partAll_110 (by rw [vT V rfl]; rfl) (sem_mono (F _ _ V) ?_)
    intro u2 h F
    obtain ⟨ad9, ρ1, V, hs3, F⟩ := F
    obtain ⟨x4, rfl, F⟩ := F
    have hs3 := (St_eq hs3).symm
    subst hs3
    obtain ⟨c8, F⟩ := F
    obtain ⟨ρ5, eρ5⟩ : ∃ z : Rs, z = pL ρ1 (41, 29, 0) (Int32.toNatClampNeg v3) x4 := ⟨_, rfl⟩
    replace F := F ρ5 eρ5
    refine y_lastore hG hM V d_Mo_partAll_113 (41, 29, 0) rfl rfl (by rw [vlen V (r := (41, 29, 0)) rfl rfl]; exact c8) (fun h V => ?_)
    rw [← eρ5] at V
    clear eρ5
    refine x_aload_n hM d_Mo_partAll_114 rfl 0 rfl ?_
    refine y_getr hG hM V ck_Mo 29 (Nat.le_of_ble_eq_true rfl) rfl rfl w_926 rfl d_Mo_partAll_115 (40, 0, 0) (41, 29, 0) rfl rfl rfl ?_
    refine x_iload_n hM d_Mo_partAll_118 rfl 2 rfl ?_
    obtain ⟨c6, F⟩ := F
    refine y_laload hG hM V d_Mo_partAll_119 (41, 29, 0) rfl rfl (by rw [vlen V (r := (41, 29, 0)) rfl rfl]; exact c6) ?_
    refine x_ldc2 hG hM rfl w_1152 d_Mo_partAll_120 ?_
    refine x_land hM d_Mo_partAll_123 ?_
    refine x_l2i hM d_Mo_partAll_124 ?_
    refine x_istore (lv2 := [(4, .int (Int64.toInt32 ((lR ρ5 (41, 29, 0) (Int32.toNatClampNeg v3)) &&& 8191))), (0, .ref (ad (40, 0, 0))), (1, .int v1), (3, .int v3)]) hM d_Mo_partAll_125 (Nat.le_of_ble_eq_true rfl) rfl ?_
    refine x_aload_n hM d_Mo_partAll_127 rfl 1 rfl ?_
    refine y_getr hG hM V ck_Mo 30 (Nat.le_of_ble_eq_true rfl) rfl rfl w_927 rfl d_Mo_partAll_128 (40, 0, 0) (41, 30, 0) rfl rfl rfl ?_
    refine x_iload hM d_Mo_partAll_131 0 rfl ?_
    obtain ⟨c7, F⟩ := F
    refine y_iaload hG hM V d_Mo_partAll_133 (41, 30, 0) rfl rfl (by rw [vlen V (r := (41, 30, 0)) rfl rfl]; exact c7) ?_
    refine x_istore (lv2 := [(5, .int (iR ρ5 (41, 30, 0) (Int32.toNatClampNeg (Int64.toInt32 ((lR ρ5 (41, 29, 0) (Int32.toNatClampNeg v3)) &&& 8191))))), (4, .int (Int64.toInt32 ((lR ρ5 (41, 29, 0) (Int32.toNatClampNeg v3)) &&& 8191))), (0, .ref (ad (40, 0, 0))), (1, .int v1), (3, .int v3)]) hM d_Mo_partAll_134 (Nat.le_of_ble_eq_true rfl) rfl ?_
    refine x_sub [2, 3, 4, 1, 0] rfl ?_
    exact F _ _ hSt V
set_option maxRecDepth 100000 in
set_option maxHeartbeats 4000000 in
theorem T_Mo_partAll_136 {G : Gc} {M : Mc} {Q : State → Prop} {ad0 : Ro → Nat} {K : (Ro → Nat) → Option Value → Rs → Prop} (hG : gok G) (hM : mok G M r_Mo_partAll Q (KV G [] ad0 K)) (v1 : Int32) (v3 : Int32) (v4 : Int32) (v5 : Int32) (ρ : Rs) (F : (v5 = (-1) → (Y G [] ad0 M Q 181 (fun ad => [(0, .ref (ad (40, 0, 0))), (1, .int v1), (3, .int v3), (4, .int v4), (5, .int v5)]) (fun ad => []) ρ)) ∧ (¬ v5 = (-1) → (vp_in v5 4096 ∧ (vp_in v3 4096 ∧ (((lg_cmp (lR ρ (41, 29, 0) (Int32.toNatClampNeg v5)) (lR ρ (41, 29, 0) (Int32.toNatClampNeg v3))) = 0 → (semV G r_Mo_areAlike [] (fun ad => [.ref (ad (40, 0, 0)), .int v3, .int v5]) ρ (fun ad u9 ρ8 => ∃ x11 : Int32, u9 = some (.int x11) ∧ ((x11 = 0 → (vp_in v5 4096 ∧ (Y G [] ad0 M Q 136 (fun ad => [(0, .ref (ad (40, 0, 0))), (1, .int v1), (3, .int v3), (4, .int v4), (5, .int (iR ρ8 (41, 31, 0) (Int32.toNatClampNeg v5)))]) (fun ad => []) ρ8))) ∧ (¬ x11 = 0 → (Y G [] ad0 M Q 181 (fun ad => [(0, .ref (ad (40, 0, 0))), (1, .int v1), (3, .int v3), (4, .int v4), (5, .int v5)]) (fun ad => []) ρ8)))))) ∧ (¬ (lg_cmp (lR ρ (41, 29, 0) (Int32.toNatClampNeg v5)) (lR ρ (41, 29, 0) (Int32.toNatClampNeg v3))) = 0 → (vp_in v5 4096 ∧ (Y G [] ad0 M Q 136 (fun ad => [(0, .ref (ad (40, 0, 0))), (1, .int v1), (3, .int v3), (4, .int v4), (5, .int (iR ρ (41, 31, 0) (Int32.toNatClampNeg v5)))]) (fun ad => []) ρ)))))))) : Y G [] ad0 M Q 136 (fun ad => [(0, .ref (ad (40, 0, 0))), (1, .int v1), (3, .int v3), (4, .int v4), (5, .int v5)]) (fun ad => []) ρ := by
  intro ad h hSt V
  show X G M Q 136 [(0, .ref (ad (40, 0, 0))), (1, .int v1), (3, .int v3), (4, .int v4), (5, .int v5)] [] h
  refine x_iload hM d_Mo_partAll_136 4 rfl ?_
  refine x_iconst (v := (-1)) hM d_Mo_partAll_138 (by decide) ?_
  refine x_icmp_eq (tgt := 181) hM d_Mo_partAll_139 (by decide) (fun q17 => ?_) (fun q17 => ?_)
  · replace F := F.1 q17
    exact F _ _ hSt V
  · replace F := F.2 q17
    refine x_aload_n hM d_Mo_partAll_142 rfl 0 rfl ?_
    refine y_getr hG hM V ck_Mo 29 (Nat.le_of_ble_eq_true rfl) rfl rfl w_926 rfl d_Mo_partAll_143 (40, 0, 0) (41, 29, 0) rfl rfl rfl ?_
    refine x_iload hM d_Mo_partAll_146 4 rfl ?_
    obtain ⟨c4, F⟩ := F
    refine y_laload hG hM V d_Mo_partAll_148 (41, 29, 0) rfl rfl (by rw [vlen V (r := (41, 29, 0)) rfl rfl]; exact c4) ?_
    refine x_aload_n hM d_Mo_partAll_149 rfl 0 rfl ?_
    refine y_getr hG hM V ck_Mo 29 (Nat.le_of_ble_eq_true rfl) rfl rfl w_926 rfl d_Mo_partAll_150 (40, 0, 0) (41, 29, 0) rfl rfl rfl ?_
    refine x_iload_n hM d_Mo_partAll_153 rfl 2 rfl ?_
    obtain ⟨c5, F⟩ := F
    refine y_laload hG hM V d_Mo_partAll_154 (41, 29, 0) rfl rfl (by rw [vlen V (r := (41, 29, 0)) rfl rfl]; exact c5) ?_
    refine x_lcmp hM d_Mo_partAll_155 ?_
    refine x_if_ne (tgt := 169) hM d_Mo_partAll_156 (by decide) (fun q16 => ?_) (fun q16 => ?_)
    · replace F := F.2 q16
      refine x_aload_n hM d_Mo_partAll_169 rfl 0 rfl ?_
      refine y_getr hG hM V ck_Mo 31 (Nat.le_of_ble_eq_true rfl) rfl rfl w_928 rfl d_Mo_partAll_170 (40, 0, 0) (41, 31, 0) rfl rfl rfl ?_
      refine x_iload hM d_Mo_partAll_173 4 rfl ?_
      obtain ⟨c7, F⟩ := F
      refine y_iaload hG hM V d_Mo_partAll_175 (41, 31, 0) rfl rfl (by rw [vlen V (r := (41, 31, 0)) rfl rfl]; exact c7) ?_
      refine x_istore (lv2 := [(5, .int (iR ρ (41, 31, 0) (Int32.toNatClampNeg v5))), (0, .ref (ad (40, 0, 0))), (1, .int v1), (3, .int v3), (4, .int v4)]) hM d_Mo_partAll_176 (Nat.le_of_ble_eq_true rfl) rfl ?_
      refine x_goto (tgt := 136) hM d_Mo_partAll_178 (by decide) ?_
      refine x_sub [1, 2, 3, 4, 0] rfl ?_
      exact F _ _ hSt V
    · replace F := F.1 q16
      refine x_aload_n hM d_Mo_partAll_159 rfl 0 rfl ?_
      refine x_iload_n hM d_Mo_partAll_160 rfl 2 rfl ?_
      refine x_iload hM d_Mo_partAll_161 4 rfl ?_
      refine x_callV hG hM (r' := r_Mo_areAlike) (ci := 11) [.int v3, .int v5] rfl rfl (Nat.le_of_ble_eq_true rfl) yk_Mo_areAlike ⟨Nat.le_of_ble_eq_true rfl, Nat.le_of_ble_eq_true rfl⟩ w_1153 w_1155 ws_Mo_areAlike rfl rfl (Nat.le_of_ble_eq_true rfl) d_Mo_partAll_163 (by rw [vT V rfl]; rfl) (sem_mono (F _ _ V) ?_)
      intro u9 h F
      obtain ⟨ad15, ρ8, V, hs10, F⟩ := F
      obtain ⟨x11, rfl, F⟩ := F
      have hs10 := (St_eq hs10).symm
      subst hs10
      refine x_if_ne (tgt := 181) hM d_Mo_partAll_166 (by decide) (fun q14 => ?_) (fun q14 => ?_)
      · replace F := F.2 q14
        exact F _ _ hSt V
      · replace F := F.1 q14
        refine x_aload_n hM d_Mo_partAll_169 rfl 0 rfl ?_
        refine y_getr hG hM V ck_Mo 31 (Nat.le_of_ble_eq_true rfl) rfl rfl w_928 rfl d_Mo_partAll_170 (40, 0, 0) (41, 31, 0) rfl rfl rfl ?_
        refine x_iload hM d_Mo_partAll_173 4 rfl ?_
        obtain ⟨c13, F⟩ := F
        refine y_iaload hG hM V d_Mo_partAll_175 (41, 31, 0) rfl rfl (by rw [vlen V (r := (41, 31, 0)) rfl rfl]; exact c13) ?_
        refine x_istore (lv2 := [(5, .int (iR ρ8 (41, 31, 0) (Int32.toNatClampNeg v5))), (0, .ref (ad (40, 0, 0))), (1, .int v1), (3, .int v3), (4, .int v4)]) hM d_Mo_partAll_176 (Nat.le_of_ble_eq_true rfl) rfl ?_
        refine x_goto (tgt := 136) hM d_Mo_partAll_178 (by decide) ?_
        refine x_sub [1, 2, 3, 4, 0] rfl ?_
        exact F _ _ hSt V
set_option maxRecDepth 100000 in
set_option maxHeartbeats 4000000 in
theorem T_Mo_partAll_252 {G : Gc} {M : Mc} {Q : State → Prop} {ad0 : Ro → Nat} {K : (Ro → Nat) → Option Value → Rs → Prop} (hG : gok G) (hM : mok G M r_Mo_partAll Q (KV G [] ad0 K)) (v1 : Int32) (v3 : Int32) (ρ : Rs) (F : ((iR ρ (40, 0, 0) 13) ≤ v3 → (∀ z2 : Int32, z2 = (if (iR ρ (40, 0, 0) 32) = v1 then 0 else 1) → (Y G [] ad0 M Q 62 (fun ad => [(0, .ref (ad (40, 0, 0))), (1, .int (iR ρ (40, 0, 0) 32)), (2, .int z2)]) (fun ad => []) ρ))) ∧ (¬ (iR ρ (40, 0, 0) 13) ≤ v3 → (vp_in v3 4096 ∧ (vp_in v3 4096 ∧ (∀ ρ5 : Rs, ρ5 = pI ρ (41, 27, 0) (Int32.toNatClampNeg v3) (iR ρ (41, 28, 0) (Int32.toNatClampNeg v3)) → (Y G [] ad0 M Q 252 (fun ad => [(0, .ref (ad (40, 0, 0))), (1, .int v1), (3, .int (v3 + 1))]) (fun ad => []) ρ5)))))) : Y G [] ad0 M Q 252 (fun ad => [(0, .ref (ad (40, 0, 0))), (1, .int v1), (3, .int v3)]) (fun ad => []) ρ := by
  intro ad h hSt V
  show X G M Q 252 [(0, .ref (ad (40, 0, 0))), (1, .int v1), (3, .int v3)] [] h
  refine x_iload_n hM d_Mo_partAll_252 rfl 2 rfl ?_
  refine x_aload_n hM d_Mo_partAll_253 rfl 0 rfl ?_
  refine y_geti hG hM V ck_Mo 13 (Nat.le_of_ble_eq_true rfl) rfl rfl w_910 rfl d_Mo_partAll_254 (40, 0, 0) rfl rfl ?_
  refine x_icmp_ge (tgt := 278) hM d_Mo_partAll_257 (by decide) (fun q7 => ?_) (fun q7 => ?_)
  · replace F := F.1 q7
    refine x_aload_n hM d_Mo_partAll_278 rfl 0 rfl ?_
    refine y_geti hG hM V ck_Mo 32 (Nat.le_of_ble_eq_true rfl) rfl rfl w_929 rfl d_Mo_partAll_279 (40, 0, 0) rfl rfl ?_
    refine x_iload_n hM d_Mo_partAll_282 rfl 1 rfl ?_
    have JJ : ∀ (z2 : Int32) (ez2 : z2 = (if (iR ρ (40, 0, 0) 32) = v1 then 0 else 1)), X G M Q 291 [(0, .ref (ad (40, 0, 0)))] [.int z2] h := by
      intro z2 ez2
      replace F := F _ ez2
      refine x_istore_n (lv2 := [(2, .int z2), (0, .ref (ad (40, 0, 0)))]) hM d_Mo_partAll_291 rfl (Nat.le_of_ble_eq_true rfl) rfl ?_
      refine x_aload_n hM d_Mo_partAll_292 rfl 1 rfl ?_
      refine y_geti hG hM V ck_Mo 32 (Nat.le_of_ble_eq_true rfl) rfl rfl w_929 rfl d_Mo_partAll_293 (40, 0, 0) rfl rfl ?_
      refine x_istore_n (lv2 := [(1, .int (iR ρ (40, 0, 0) 32)), (2, .int z2), (0, .ref (ad (40, 0, 0)))]) hM d_Mo_partAll_296 rfl (Nat.le_of_ble_eq_true rfl) rfl ?_
      refine x_goto (tgt := 62) hM d_Mo_partAll_297 (by decide) ?_
      refine x_sub [2, 0, 1] rfl ?_
      exact F _ _ hSt V
    refine x_icmp_eq (tgt := 290) hM d_Mo_partAll_283 (by decide) (fun q3 => ?_) (fun q3 => ?_)
    · refine x_iconst (v := 0) hM d_Mo_partAll_290 (by decide) ?_
      refine x_sub [0] rfl ?_
      exact JJ _ (Eq.symm (if_pos q3))
    · refine x_iconst (v := 1) hM d_Mo_partAll_286 (by decide) ?_
      refine x_goto (tgt := 291) hM d_Mo_partAll_287 (by decide) ?_
      refine x_sub [0] rfl ?_
      exact JJ _ (Eq.symm (if_neg q3))
  · replace F := F.2 q7
    refine x_aload_n hM d_Mo_partAll_260 rfl 0 rfl ?_
    refine y_getr hG hM V ck_Mo 27 (Nat.le_of_ble_eq_true rfl) rfl rfl w_924 rfl d_Mo_partAll_261 (40, 0, 0) (41, 27, 0) rfl rfl rfl ?_
    refine x_iload_n hM d_Mo_partAll_264 rfl 2 rfl ?_
    refine x_aload_n hM d_Mo_partAll_265 rfl 0 rfl ?_
    refine y_getr hG hM V ck_Mo 28 (Nat.le_of_ble_eq_true rfl) rfl rfl w_925 rfl d_Mo_partAll_266 (40, 0, 0) (41, 28, 0) rfl rfl rfl ?_
    refine x_iload_n hM d_Mo_partAll_269 rfl 2 rfl ?_
    obtain ⟨c4, F⟩ := F
    refine y_iaload hG hM V d_Mo_partAll_270 (41, 28, 0) rfl rfl (by rw [vlen V (r := (41, 28, 0)) rfl rfl]; exact c4) ?_
    obtain ⟨c6, F⟩ := F
    obtain ⟨ρ5, eρ5⟩ : ∃ z : Rs, z = pI ρ (41, 27, 0) (Int32.toNatClampNeg v3) (iR ρ (41, 28, 0) (Int32.toNatClampNeg v3)) := ⟨_, rfl⟩
    replace F := F ρ5 eρ5
    refine y_iastore hG hM V d_Mo_partAll_271 (41, 27, 0) rfl rfl (by rw [vlen V (r := (41, 27, 0)) rfl rfl]; exact c6) (fun h V => ?_)
    rw [← eρ5] at V
    clear eρ5
    refine x_iinc (v := (v3 + 1)) (lv2 := [(3, .int (v3 + 1)), (0, .ref (ad (40, 0, 0))), (1, .int v1)]) hM d_Mo_partAll_272 (j := 2) rfl rfl (Nat.le_of_ble_eq_true rfl) rfl ?_
    refine x_goto (tgt := 252) hM d_Mo_partAll_275 (by decide) ?_
    refine x_sub [1, 2, 0] rfl ?_
    exact F _ _ hSt V
set_option maxRecDepth 100000 in
set_option maxHeartbeats 4000000 in
theorem T_Mo_partAll_181 {G : Gc} {M : Mc} {Q : State → Prop} {ad0 : Ro → Nat} {K : (Ro → Nat) → Option Value → Rs → Prop} (hG : gok G) (hM : mok G M r_Mo_partAll Q (KV G [] ad0 K)) (v1 : Int32) (v3 : Int32) (v4 : Int32) (v5 : Int32) (ρ : Rs) (F : (v5 = (-1) → (vp_in v3 4096 ∧ (∀ ρ5 : Rs, ρ5 = pI ρ (41, 28, 0) (Int32.toNatClampNeg v3) (iR ρ (40, 0, 0) 32) → (∀ ρ6 : Rs, ρ6 = pI ρ5 (40, 0, 0) 32 ((iR ρ5 (40, 0, 0) 32) + 1) → (vp_in v4 8192 ∧ (vp_in v3 4096 ∧ (∀ ρ8 : Rs, ρ8 = pI ρ6 (41, 31, 0) (Int32.toNatClampNeg v3) (iR ρ6 (41, 30, 0) (Int32.toNatClampNeg v4)) → (vp_in v4 8192 ∧ (∀ ρ9 : Rs, ρ9 = pI ρ8 (41, 30, 0) (Int32.toNatClampNeg v4) v3 → (Y G [] ad0 M Q 95 (fun ad => [(0, .ref (ad (40, 0, 0))), (1, .int v1), (3, .int (v3 + 1))]) (fun ad => []) ρ9)))))))))) ∧ (¬ v5 = (-1) → (vp_in v5 4096 ∧ (vp_in v3 4096 ∧ (∀ ρ3 : Rs, ρ3 = pI ρ (41, 28, 0) (Int32.toNatClampNeg v3) (iR ρ (41, 28, 0) (Int32.toNatClampNeg v5)) → (Y G [] ad0 M Q 95 (fun ad => [(0, .ref (ad (40, 0, 0))), (1, .int v1), (3, .int (v3 + 1))]) (fun ad => []) ρ3)))))) : Y G [] ad0 M Q 181 (fun ad => [(0, .ref (ad (40, 0, 0))), (1, .int v1), (3, .int v3), (4, .int v4), (5, .int v5)]) (fun ad => []) ρ := by
  intro ad h hSt V
  show X G M Q 181 [(0, .ref (ad (40, 0, 0))), (1, .int v1), (3, .int v3), (4, .int v4), (5, .int v5)] [] h
  refine x_iload hM d_Mo_partAll_181 4 rfl ?_
  refine x_iconst (v := (-1)) hM d_Mo_partAll_183 (by decide) ?_
  refine x_icmp_ne (tgt := 231) hM d_Mo_partAll_184 (by decide) (fun q13 => ?_) (fun q13 => ?_)
  · replace F := F.2 q13
    refine x_aload_n hM d_Mo_partAll_231 rfl 0 rfl ?_
    refine y_getr hG hM V ck_Mo 28 (Nat.le_of_ble_eq_true rfl) rfl rfl w_925 rfl d_Mo_partAll_232 (40, 0, 0) (41, 28, 0) rfl rfl rfl ?_
    refine x_iload_n hM d_Mo_partAll_235 rfl 2 rfl ?_
    refine x_aload_n hM d_Mo_partAll_236 rfl 0 rfl ?_
    refine y_getr hG hM V ck_Mo 28 (Nat.le_of_ble_eq_true rfl) rfl rfl w_925 rfl d_Mo_partAll_237 (40, 0, 0) (41, 28, 0) rfl rfl rfl ?_
    refine x_iload hM d_Mo_partAll_240 4 rfl ?_
    obtain ⟨c2, F⟩ := F
    refine y_iaload hG hM V d_Mo_partAll_242 (41, 28, 0) rfl rfl (by rw [vlen V (r := (41, 28, 0)) rfl rfl]; exact c2) ?_
    obtain ⟨c4, F⟩ := F
    obtain ⟨ρ3, eρ3⟩ : ∃ z : Rs, z = pI ρ (41, 28, 0) (Int32.toNatClampNeg v3) (iR ρ (41, 28, 0) (Int32.toNatClampNeg v5)) := ⟨_, rfl⟩
    replace F := F ρ3 eρ3
    refine y_iastore hG hM V d_Mo_partAll_243 (41, 28, 0) rfl rfl (by rw [vlen V (r := (41, 28, 0)) rfl rfl]; exact c4) (fun h V => ?_)
    rw [← eρ3] at V
    clear eρ3
    refine x_iinc (v := (v3 + 1)) (lv2 := [(3, .int (v3 + 1)), (0, .ref (ad (40, 0, 0))), (1, .int v1), (4, .int v4), (5, .int v5)]) hM d_Mo_partAll_244 (j := 2) rfl rfl (Nat.le_of_ble_eq_true rfl) rfl ?_
    refine x_goto (tgt := 95) hM d_Mo_partAll_247 (by decide) ?_
    refine x_sub [1, 2, 0] rfl ?_
    exact F _ _ hSt V
  · replace F := F.1 q13
    refine x_aload_n hM d_Mo_partAll_187 rfl 0 rfl ?_
    refine y_getr hG hM V ck_Mo 28 (Nat.le_of_ble_eq_true rfl) rfl rfl w_925 rfl d_Mo_partAll_188 (40, 0, 0) (41, 28, 0) rfl rfl rfl ?_
    refine x_iload_n hM d_Mo_partAll_191 rfl 2 rfl ?_
    refine x_aload_n hM d_Mo_partAll_192 rfl 0 rfl ?_
    refine y_geti hG hM V ck_Mo 32 (Nat.le_of_ble_eq_true rfl) rfl rfl w_929 rfl d_Mo_partAll_193 (40, 0, 0) rfl rfl ?_
    obtain ⟨c12, F⟩ := F
    obtain ⟨ρ5, eρ5⟩ : ∃ z : Rs, z = pI ρ (41, 28, 0) (Int32.toNatClampNeg v3) (iR ρ (40, 0, 0) 32) := ⟨_, rfl⟩
    replace F := F ρ5 eρ5
    refine y_iastore hG hM V d_Mo_partAll_196 (41, 28, 0) rfl rfl (by rw [vlen V (r := (41, 28, 0)) rfl rfl]; exact c12) (fun h V => ?_)
    rw [← eρ5] at V
    clear eρ5
    refine x_aload_n hM d_Mo_partAll_197 rfl 0 rfl ?_
    refine x_dup hM d_Mo_partAll_198 rfl ?_
    refine y_geti hG hM V ck_Mo 32 (Nat.le_of_ble_eq_true rfl) rfl rfl w_929 rfl d_Mo_partAll_199 (40, 0, 0) rfl rfl ?_
    refine x_iconst (v := 1) hM d_Mo_partAll_202 (by decide) ?_
    refine x_iadd hM d_Mo_partAll_203 ?_
    obtain ⟨ρ6, eρ6⟩ : ∃ z : Rs, z = pI ρ5 (40, 0, 0) 32 ((iR ρ5 (40, 0, 0) 32) + 1) := ⟨_, rfl⟩
    replace F := F ρ6 eρ6
    refine y_puti hG hM V ck_Mo 32 (Nat.le_of_ble_eq_true rfl) rfl rfl w_929 rfl d_Mo_partAll_204 rfl (40, 0, 0) rfl rfl (fun h V => ?_)
    rw [← eρ6] at V
    clear eρ6
    refine x_aload_n hM d_Mo_partAll_207 rfl 0 rfl ?_
    refine y_getr hG hM V ck_Mo 31 (Nat.le_of_ble_eq_true rfl) rfl rfl w_928 rfl d_Mo_partAll_208 (40, 0, 0) (41, 31, 0) rfl rfl rfl ?_
    refine x_iload_n hM d_Mo_partAll_211 rfl 2 rfl ?_
    refine x_aload_n hM d_Mo_partAll_212 rfl 0 rfl ?_
    refine y_getr hG hM V ck_Mo 30 (Nat.le_of_ble_eq_true rfl) rfl rfl w_927 rfl d_Mo_partAll_213 (40, 0, 0) (41, 30, 0) rfl rfl rfl ?_
    refine x_iload hM d_Mo_partAll_216 3 rfl ?_
    obtain ⟨c7, F⟩ := F
    refine y_iaload hG hM V d_Mo_partAll_218 (41, 30, 0) rfl rfl (by rw [vlen V (r := (41, 30, 0)) rfl rfl]; exact c7) ?_
    obtain ⟨c11, F⟩ := F
    obtain ⟨ρ8, eρ8⟩ : ∃ z : Rs, z = pI ρ6 (41, 31, 0) (Int32.toNatClampNeg v3) (iR ρ6 (41, 30, 0) (Int32.toNatClampNeg v4)) := ⟨_, rfl⟩
    replace F := F ρ8 eρ8
    refine y_iastore hG hM V d_Mo_partAll_219 (41, 31, 0) rfl rfl (by rw [vlen V (r := (41, 31, 0)) rfl rfl]; exact c11) (fun h V => ?_)
    rw [← eρ8] at V
    clear eρ8
    refine x_aload_n hM d_Mo_partAll_220 rfl 0 rfl ?_
    refine y_getr hG hM V ck_Mo 30 (Nat.le_of_ble_eq_true rfl) rfl rfl w_927 rfl d_Mo_partAll_221 (40, 0, 0) (41, 30, 0) rfl rfl rfl ?_
    refine x_iload hM d_Mo_partAll_224 3 rfl ?_
    refine x_iload_n hM d_Mo_partAll_226 rfl 2 rfl ?_
    obtain ⟨c10, F⟩ := F
    obtain ⟨ρ9, eρ9⟩ : ∃ z : Rs, z = pI ρ8 (41, 30, 0) (Int32.toNatClampNeg v4) v3 := ⟨_, rfl⟩
    replace F := F ρ9 eρ9
    refine y_iastore hG hM V d_Mo_partAll_227 (41, 30, 0) rfl rfl (by rw [vlen V (r := (41, 30, 0)) rfl rfl]; exact c10) (fun h V => ?_)
    rw [← eρ9] at V
    clear eρ9
    refine x_goto (tgt := 244) hM d_Mo_partAll_228 (by decide) ?_
    refine x_iinc (v := (v3 + 1)) (lv2 := [(3, .int (v3 + 1)), (0, .ref (ad (40, 0, 0))), (1, .int v1), (4, .int v4), (5, .int v5)]) hM d_Mo_partAll_244 (j := 2) rfl rfl (Nat.le_of_ble_eq_true rfl) rfl ?_
    refine x_goto (tgt := 95) hM d_Mo_partAll_247 (by decide) ?_
    refine x_sub [1, 2, 0] rfl ?_
    exact F _ _ hSt V
set_option maxRecDepth 100000 in
set_option maxHeartbeats 4000000 in
theorem T_Mo_signOf_0 {G : Gc} {M : Mc} {Q : State → Prop} {ad0 : Ro → Nat} {K : (Ro → Nat) → Option Value → Rs → Prop} (hG : gok G) (hM : mok G M r_Mo_signOf Q (KV G [] ad0 K)) (v1 : Int32) (ρ : Rs) (F : vp_in v1 4096 ∧ (Y G [] ad0 M Q 13 (fun ad => [(0, .ref (ad (40, 0, 0))), (1, .int v1), (2, .long ((Int32.toInt64 (iR ρ (41, 27, 0) (Int32.toNatClampNeg v1))) + 1)), (4, .int 0)]) (fun ad => []) ρ)) : Y G [] ad0 M Q 0 (fun ad => [(0, .ref (ad (40, 0, 0))), (1, .int v1)]) (fun ad => []) ρ := by
  intro ad h hSt V
  show X G M Q 0 [(0, .ref (ad (40, 0, 0))), (1, .int v1)] [] h
  refine x_aload_n hM d_Mo_signOf_0 rfl 0 rfl ?_
  refine y_getr hG hM V ck_Mo 27 (Nat.le_of_ble_eq_true rfl) rfl rfl w_924 rfl d_Mo_signOf_1 (40, 0, 0) (41, 27, 0) rfl rfl rfl ?_
  refine x_iload_n hM d_Mo_signOf_4 rfl 1 rfl ?_
  obtain ⟨c1, F⟩ := F
  refine y_iaload hG hM V d_Mo_signOf_5 (41, 27, 0) rfl rfl (by rw [vlen V (r := (41, 27, 0)) rfl rfl]; exact c1) ?_
  refine x_i2l hM d_Mo_signOf_6 ?_
  refine x_lconst (v := 1) hM d_Mo_signOf_7 (by decide) ?_
  refine x_ladd hM d_Mo_signOf_8 ?_
  refine x_lstore_n (lv2 := [(2, .long ((Int32.toInt64 (iR ρ (41, 27, 0) (Int32.toNatClampNeg v1))) + 1)), (0, .ref (ad (40, 0, 0))), (1, .int v1)]) hM d_Mo_signOf_9 rfl (Nat.le_of_ble_eq_true rfl) rfl ?_
  refine x_iconst (v := 0) hM d_Mo_signOf_10 (by decide) ?_
  refine x_istore (lv2 := [(4, .int 0), (2, .long ((Int32.toInt64 (iR ρ (41, 27, 0) (Int32.toNatClampNeg v1))) + 1)), (0, .ref (ad (40, 0, 0))), (1, .int v1)]) hM d_Mo_signOf_11 (Nat.le_of_ble_eq_true rfl) rfl ?_
  refine x_sub [2, 3, 1, 0] rfl ?_
  exact F _ _ hSt V
set_option maxRecDepth 100000 in
set_option maxHeartbeats 4000000 in
theorem T_Mo_signOf_13 {G : Gc} {M : Mc} {Q : State → Prop} {ad0 : Ro → Nat} {K : (Ro → Nat) → Option Value → Rs → Prop} (hG : gok G) (hM : mok G M r_Mo_signOf Q (KV G [] ad0 K)) (v1 : Int32) (v2 : Int64) (v4 : Int32) (ρ : Rs) (F : ((iR ρ (40, 0, 0) 3) ≤ v4 → (∀ ad, K ad (some (.long v2)) ρ)) ∧ (¬ (iR ρ (40, 0, 0) 3) ≤ v4 → (Y G [] ad0 M Q 28 (fun ad => [(0, .ref (ad (40, 0, 0))), (1, .int v1), (2, .long v2), (4, .int v4), (5, .long 1), (7, .int 0)]) (fun ad => []) ρ))) : Y G [] ad0 M Q 13 (fun ad => [(0, .ref (ad (40, 0, 0))), (1, .int v1), (2, .long v2), (4, .int v4)]) (fun ad => []) ρ := by
  intro ad h hSt V
  show X G M Q 13 [(0, .ref (ad (40, 0, 0))), (1, .int v1), (2, .long v2), (4, .int v4)] [] h
  refine x_iload hM d_Mo_signOf_13 3 rfl ?_
  refine x_aload_n hM d_Mo_signOf_15 rfl 0 rfl ?_
  refine y_geti hG hM V ck_Mo 3 (Nat.le_of_ble_eq_true rfl) rfl rfl w_900 rfl d_Mo_signOf_16 (40, 0, 0) rfl rfl ?_
  refine x_icmp_ge (tgt := 196) hM d_Mo_signOf_19 (by decide) (fun q1 => ?_) (fun q1 => ?_)
  · replace F := F.1 q1
    refine x_lload_n hM d_Mo_signOf_196 rfl 2 rfl ?_
    exact x_lreturn hM d_Mo_signOf_197 rfl (y_end V hSt (F _))
  · replace F := F.2 q1
    refine x_lconst (v := 1) hM d_Mo_signOf_22 (by decide) ?_
    refine x_lstore (lv2 := [(5, .long 1), (0, .ref (ad (40, 0, 0))), (1, .int v1), (2, .long v2), (4, .int v4)]) hM d_Mo_signOf_23 (Nat.le_of_ble_eq_true rfl) rfl ?_
    refine x_iconst (v := 0) hM d_Mo_signOf_25 (by decide) ?_
    refine x_istore (lv2 := [(7, .int 0), (5, .long 1), (0, .ref (ad (40, 0, 0))), (1, .int v1), (2, .long v2), (4, .int v4)]) hM d_Mo_signOf_26 (Nat.le_of_ble_eq_true rfl) rfl ?_
    refine x_sub [2, 3, 4, 5, 1, 0] rfl ?_
    exact F _ _ hSt V
set_option maxRecDepth 100000 in
set_option maxHeartbeats 4000000 in
theorem T_Mo_signOf_28 {G : Gc} {M : Mc} {Q : State → Prop} {ad0 : Ro → Nat} {K : (Ro → Nat) → Option Value → Rs → Prop} (hG : gok G) (hM : mok G M r_Mo_signOf Q (KV G [] ad0 K)) (v1 : Int32) (v2 : Int64) (v4 : Int32) (v5 : Int64) (v7 : Int32) (ρ : Rs) (F : vp_in v4 12 ∧ (((iR ρ (41, 4, 0) (Int32.toNatClampNeg v4)) ≤ v7 → (Y G [] ad0 M Q 13 (fun ad => [(0, .ref (ad (40, 0, 0))), (1, .int v1), (2, .long ((((v2 * 31) + v5) * 1000003) ^^^ ((Int64.toUInt64 (((v2 * 31) + v5) * 1000003) >>> ((Int32.toInt64 29).toUInt64 &&& Int64.toUInt64 63)).toInt64))), (4, .int (v4 + 1))]) (fun ad => []) ρ)) ∧ (¬ (iR ρ (41, 4, 0) (Int32.toNatClampNeg v4)) ≤ v7 → (vp_in (((36 * v1) + (3 * v4)) + v7) 147456 ∧ (Y G [] ad0 M Q 65 (fun ad => [(0, .ref (ad (40, 0, 0))), (1, .int v1), (2, .long v2), (4, .int v4), (5, .long v5), (7, .int v7), (8, .int (iR ρ (41, 14, 0) (Int32.toNatClampNeg (((36 * v1) + (3 * v4)) + v7)))), (9, .int 0), (10, .int 0)]) (fun ad => []) ρ))))) : Y G [] ad0 M Q 28 (fun ad => [(0, .ref (ad (40, 0, 0))), (1, .int v1), (2, .long v2), (4, .int v4), (5, .long v5), (7, .int v7)]) (fun ad => []) ρ := by
  intro ad h hSt V
  show X G M Q 28 [(0, .ref (ad (40, 0, 0))), (1, .int v1), (2, .long v2), (4, .int v4), (5, .long v5), (7, .int v7)] [] h
  refine x_iload hM d_Mo_signOf_28 5 rfl ?_
  refine x_aload_n hM d_Mo_signOf_30 rfl 0 rfl ?_
  refine y_getr hG hM V ck_Mo 4 (Nat.le_of_ble_eq_true rfl) rfl rfl w_901 rfl d_Mo_signOf_31 (40, 0, 0) (41, 4, 0) rfl rfl rfl ?_
  refine x_iload hM d_Mo_signOf_34 3 rfl ?_
  obtain ⟨c1, F⟩ := F
  refine y_iaload hG hM V d_Mo_signOf_36 (41, 4, 0) rfl rfl (by rw [vlen V (r := (41, 4, 0)) rfl rfl]; exact c1) ?_
  refine x_icmp_ge (tgt := 170) hM d_Mo_signOf_37 (by decide) (fun q4 => ?_) (fun q4 => ?_)
  · replace F := F.1 q4
    refine x_lload_n hM d_Mo_signOf_170 rfl 2 rfl ?_
    refine x_ldc2 hG hM rfl w_1150 d_Mo_signOf_171 ?_
    refine x_lmul hM d_Mo_signOf_174 ?_
    refine x_lload hM d_Mo_signOf_175 4 rfl ?_
    refine x_ladd hM d_Mo_signOf_177 ?_
    refine x_ldc2 hG hM rfl w_1151 d_Mo_signOf_178 ?_
    refine x_lmul hM d_Mo_signOf_181 ?_
    refine x_lstore_n (lv2 := [(2, .long (((v2 * 31) + v5) * 1000003)), (0, .ref (ad (40, 0, 0))), (1, .int v1), (4, .int v4), (5, .long v5), (7, .int v7)]) hM d_Mo_signOf_182 rfl (Nat.le_of_ble_eq_true rfl) rfl ?_
    refine x_lload_n hM d_Mo_signOf_183 rfl 0 rfl ?_
    refine x_lload_n hM d_Mo_signOf_184 rfl 0 rfl ?_
    refine x_bipush (v := 29) hM d_Mo_signOf_185 (by decide) ?_
    refine x_lushr hM d_Mo_signOf_187 ?_
    refine x_lxor hM d_Mo_signOf_188 ?_
    refine x_lstore_n (lv2 := [(2, .long ((((v2 * 31) + v5) * 1000003) ^^^ ((Int64.toUInt64 (((v2 * 31) + v5) * 1000003) >>> ((Int32.toInt64 29).toUInt64 &&& Int64.toUInt64 63)).toInt64))), (0, .ref (ad (40, 0, 0))), (1, .int v1), (4, .int v4), (5, .long v5), (7, .int v7)]) hM d_Mo_signOf_189 rfl (Nat.le_of_ble_eq_true rfl) rfl ?_
    refine x_iinc (v := (v4 + 1)) (lv2 := [(4, .int (v4 + 1)), (2, .long ((((v2 * 31) + v5) * 1000003) ^^^ ((Int64.toUInt64 (((v2 * 31) + v5) * 1000003) >>> ((Int32.toInt64 29).toUInt64 &&& Int64.toUInt64 63)).toInt64))), (0, .ref (ad (40, 0, 0))), (1, .int v1), (5, .long v5), (7, .int v7)]) hM d_Mo_signOf_190 (j := 3) rfl rfl (Nat.le_of_ble_eq_true rfl) rfl ?_
    refine x_goto (tgt := 13) hM d_Mo_signOf_193 (by decide) ?_
    refine x_sub [2, 3, 1, 0] rfl ?_
    exact F _ _ hSt V
  · replace F := F.2 q4
    refine x_aload_n hM d_Mo_signOf_40 rfl 0 rfl ?_
    refine y_getr hG hM V ck_Mo 14 (Nat.le_of_ble_eq_true rfl) rfl rfl w_911 rfl d_Mo_signOf_41 (40, 0, 0) (41, 14, 0) rfl rfl rfl ?_
    refine x_bipush (v := 36) hM d_Mo_signOf_44 (by decide) ?_
    refine x_iload_n hM d_Mo_signOf_46 rfl 1 rfl ?_
    refine x_imul hM d_Mo_signOf_47 ?_
    refine x_iconst (v := 3) hM d_Mo_signOf_48 (by decide) ?_
    refine x_iload hM d_Mo_signOf_49 3 rfl ?_
    refine x_imul hM d_Mo_signOf_51 ?_
    refine x_iadd hM d_Mo_signOf_52 ?_
    refine x_iload hM d_Mo_signOf_53 5 rfl ?_
    refine x_iadd hM d_Mo_signOf_55 ?_
    obtain ⟨c3, F⟩ := F
    refine y_iaload hG hM V d_Mo_signOf_56 (41, 14, 0) rfl rfl (by rw [vlen V (r := (41, 14, 0)) rfl rfl]; exact c3) ?_
    refine x_istore (lv2 := [(8, .int (iR ρ (41, 14, 0) (Int32.toNatClampNeg (((36 * v1) + (3 * v4)) + v7)))), (0, .ref (ad (40, 0, 0))), (1, .int v1), (2, .long v2), (4, .int v4), (5, .long v5), (7, .int v7)]) hM d_Mo_signOf_57 (Nat.le_of_ble_eq_true rfl) rfl ?_
    refine x_iconst (v := 0) hM d_Mo_signOf_59 (by decide) ?_
    refine x_istore (lv2 := [(9, .int 0), (8, .int (iR ρ (41, 14, 0) (Int32.toNatClampNeg (((36 * v1) + (3 * v4)) + v7)))), (0, .ref (ad (40, 0, 0))), (1, .int v1), (2, .long v2), (4, .int v4), (5, .long v5), (7, .int v7)]) hM d_Mo_signOf_60 (Nat.le_of_ble_eq_true rfl) rfl ?_
    refine x_iconst (v := 0) hM d_Mo_signOf_62 (by decide) ?_
    refine x_istore (lv2 := [(10, .int 0), (9, .int 0), (8, .int (iR ρ (41, 14, 0) (Int32.toNatClampNeg (((36 * v1) + (3 * v4)) + v7)))), (0, .ref (ad (40, 0, 0))), (1, .int v1), (2, .long v2), (4, .int v4), (5, .long v5), (7, .int v7)]) hM d_Mo_signOf_63 (Nat.le_of_ble_eq_true rfl) rfl ?_
    refine x_sub [3, 4, 5, 6, 7, 8, 2, 1, 0] rfl ?_
    exact F _ _ hSt V
set_option maxRecDepth 100000 in
set_option maxHeartbeats 4000000 in
theorem T_Mo_signOf_65 {G : Gc} {M : Mc} {Q : State → Prop} {ad0 : Ro → Nat} {K : (Ro → Nat) → Option Value → Rs → Prop} (hG : gok G) (hM : mok G M r_Mo_signOf Q (KV G [] ad0 K)) (v1 : Int32) (v2 : Int64) (v4 : Int32) (v5 : Int64) (v7 : Int32) (v8 : Int32) (v9 : Int32) (v10 : Int32) (ρ : Rs) (F : (v7 ≤ v10 → (Y G [] ad0 M Q 128 (fun ad => [(0, .ref (ad (40, 0, 0))), (1, .int v1), (2, .long v2), (4, .int v4), (5, .long v5), (7, .int v7), (8, .int v8), (9, .int v9)]) (fun ad => []) ρ)) ∧ (¬ v7 ≤ v10 → ((v8 = (-1) → (Y G [] ad0 M Q 128 (fun ad => [(0, .ref (ad (40, 0, 0))), (1, .int v1), (2, .long v2), (4, .int v4), (5, .long v5), (7, .int v7), (8, .int v8), (9, .int v9)]) (fun ad => []) ρ)) ∧ (¬ v8 = (-1) → ((v9 = 0 → (vp_in (((36 * v1) + (3 * v4)) + v10) 147456 ∧ vp_in (iR ρ (41, 14, 0) (Int32.toNatClampNeg (((36 * v1) + (3 * v4)) + v10))) 4096 ∧ vp_in v8 4096)) ∧ (∀ z4 : Int32, z4 = (if v9 = 0 then (if (iR ρ (41, 27, 0) (Int32.toNatClampNeg (iR ρ (41, 14, 0) (Int32.toNatClampNeg (((36 * v1) + (3 * v4)) + v10))))) = (iR ρ (41, 27, 0) (Int32.toNatClampNeg v8)) then 1 else 0) else 1) → (Y G [] ad0 M Q 65 (fun ad => [(0, .ref (ad (40, 0, 0))), (1, .int v1), (2, .long v2), (4, .int v4), (5, .long v5), (7, .int v7), (8, .int v8), (9, .int z4), (10, .int (v10 + 1))]) (fun ad => []) ρ))))))) : Y G [] ad0 M Q 65 (fun ad => [(0, .ref (ad (40, 0, 0))), (1, .int v1), (2, .long v2), (4, .int v4), (5, .long v5), (7, .int v7), (8, .int v8), (9, .int v9), (10, .int v10)]) (fun ad => []) ρ := by
  intro ad h hSt V
  show X G M Q 65 [(0, .ref (ad (40, 0, 0))), (1, .int v1), (2, .long v2), (4, .int v4), (5, .long v5), (7, .int v7), (8, .int v8), (9, .int v9), (10, .int v10)] [] h
  refine x_iload hM d_Mo_signOf_65 8 rfl ?_
  refine x_iload hM d_Mo_signOf_67 5 rfl ?_
  refine x_icmp_ge (tgt := 128) hM d_Mo_signOf_69 (by decide) (fun q8 => ?_) (fun q8 => ?_)
  · replace F := F.1 q8
    refine x_sub [0, 1, 2, 3, 4, 5, 6, 7] rfl ?_
    exact F _ _ hSt V
  · replace F := F.2 q8
    refine x_iload hM d_Mo_signOf_72 6 rfl ?_
    refine x_iconst (v := (-1)) hM d_Mo_signOf_74 (by decide) ?_
    refine x_icmp_eq (tgt := 128) hM d_Mo_signOf_75 (by decide) (fun q7 => ?_) (fun q7 => ?_)
    · replace F := F.1 q7
      refine x_sub [0, 1, 2, 3, 4, 5, 6, 7] rfl ?_
      exact F _ _ hSt V
    · replace F := F.2 q7
      refine x_iload hM d_Mo_signOf_78 7 rfl ?_
      obtain ⟨S, F⟩ := F
      have JJ : ∀ (z4 : Int32) (ez4 : z4 = (if v9 = 0 then (if (iR ρ (41, 27, 0) (Int32.toNatClampNeg (iR ρ (41, 14, 0) (Int32.toNatClampNeg (((36 * v1) + (3 * v4)) + v10))))) = (iR ρ (41, 27, 0) (Int32.toNatClampNeg v8)) then 1 else 0) else 1)), X G M Q 120 [(0, .ref (ad (40, 0, 0))), (1, .int v1), (2, .long v2), (4, .int v4), (5, .long v5), (7, .int v7), (8, .int v8), (10, .int v10)] [.int z4] h := by
        intro z4 ez4
        replace F := F _ ez4
        refine x_istore (lv2 := [(9, .int z4), (0, .ref (ad (40, 0, 0))), (1, .int v1), (2, .long v2), (4, .int v4), (5, .long v5), (7, .int v7), (8, .int v8), (10, .int v10)]) hM d_Mo_signOf_120 (Nat.le_of_ble_eq_true rfl) rfl ?_
        refine x_iinc (v := (v10 + 1)) (lv2 := [(10, .int (v10 + 1)), (9, .int z4), (0, .ref (ad (40, 0, 0))), (1, .int v1), (2, .long v2), (4, .int v4), (5, .long v5), (7, .int v7), (8, .int v8)]) hM d_Mo_signOf_122 (j := 8) rfl rfl (Nat.le_of_ble_eq_true rfl) rfl ?_
        refine x_goto (tgt := 65) hM d_Mo_signOf_125 (by decide) ?_
        refine x_sub [2, 3, 4, 5, 6, 7, 8, 1, 0] rfl ?_
        exact F _ _ hSt V
      refine x_if_ne (tgt := 115) hM d_Mo_signOf_80 (by decide) (fun q5 => ?_) (fun q5 => ?_)
      · refine x_iconst (v := 1) hM d_Mo_signOf_115 (by decide) ?_
        refine x_goto (tgt := 120) hM d_Mo_signOf_116 (by decide) ?_
        refine x_sub [0, 1, 2, 3, 4, 5, 6, 8] rfl ?_
        exact JJ _ (Eq.symm (if_neg q5))
      · replace S := S q5
        refine x_aload_n hM d_Mo_signOf_83 rfl 0 rfl ?_
        refine y_getr hG hM V ck_Mo 27 (Nat.le_of_ble_eq_true rfl) rfl rfl w_924 rfl d_Mo_signOf_84 (40, 0, 0) (41, 27, 0) rfl rfl rfl ?_
        refine x_aload_n hM d_Mo_signOf_87 rfl 0 rfl ?_
        refine y_getr hG hM V ck_Mo 14 (Nat.le_of_ble_eq_true rfl) rfl rfl w_911 rfl d_Mo_signOf_88 (40, 0, 0) (41, 14, 0) rfl rfl rfl ?_
        refine x_bipush (v := 36) hM d_Mo_signOf_91 (by decide) ?_
        refine x_iload_n hM d_Mo_signOf_93 rfl 1 rfl ?_
        refine x_imul hM d_Mo_signOf_94 ?_
        refine x_iconst (v := 3) hM d_Mo_signOf_95 (by decide) ?_
        refine x_iload hM d_Mo_signOf_96 3 rfl ?_
        refine x_imul hM d_Mo_signOf_98 ?_
        refine x_iadd hM d_Mo_signOf_99 ?_
        refine x_iload hM d_Mo_signOf_100 8 rfl ?_
        refine x_iadd hM d_Mo_signOf_102 ?_
        obtain ⟨c1, S⟩ := S
        refine y_iaload hG hM V d_Mo_signOf_103 (41, 14, 0) rfl rfl (by rw [vlen V (r := (41, 14, 0)) rfl rfl]; exact c1) ?_
        obtain ⟨c2, S⟩ := S
        refine y_iaload hG hM V d_Mo_signOf_104 (41, 27, 0) rfl rfl (by rw [vlen V (r := (41, 27, 0)) rfl rfl]; exact c2) ?_
        refine x_aload_n hM d_Mo_signOf_105 rfl 0 rfl ?_
        refine y_getr hG hM V ck_Mo 27 (Nat.le_of_ble_eq_true rfl) rfl rfl w_924 rfl d_Mo_signOf_106 (40, 0, 0) (41, 27, 0) rfl rfl rfl ?_
        refine x_iload hM d_Mo_signOf_109 6 rfl ?_
        have c3 := S
        refine y_iaload hG hM V d_Mo_signOf_111 (41, 27, 0) rfl rfl (by rw [vlen V (r := (41, 27, 0)) rfl rfl]; exact c3) ?_
        refine x_icmp_ne (tgt := 119) hM d_Mo_signOf_112 (by decide) (fun q6 => ?_) (fun q6 => ?_)
        · refine x_iconst (v := 0) hM d_Mo_signOf_119 (by decide) ?_
          refine x_sub [0, 1, 2, 3, 4, 5, 6, 8] rfl ?_
          exact JJ _ (Eq.symm (Eq.trans (if_pos q5) (if_neg q6)))
        · refine x_iconst (v := 1) hM d_Mo_signOf_115 (by decide) ?_
          refine x_goto (tgt := 120) hM d_Mo_signOf_116 (by decide) ?_
          refine x_sub [0, 1, 2, 3, 4, 5, 6, 8] rfl ?_
          exact JJ _ (Eq.symm (Eq.trans (if_pos q5) (if_pos q6)))
set_option maxRecDepth 100000 in
set_option maxHeartbeats 4000000 in
theorem T_Mo_signOf_128 {G : Gc} {M : Mc} {Q : State → Prop} {ad0 : Ro → Nat} {K : (Ro → Nat) → Option Value → Rs → Prop} (hG : gok G) (hM : mok G M r_Mo_signOf Q (KV G [] ad0 K)) (v1 : Int32) (v2 : Int64) (v4 : Int32) (v5 : Int64) (v7 : Int32) (v8 : Int32) (v9 : Int32) (ρ : Rs) (F : (¬ v8 = (-1) → (v9 = 0 → vp_in v8 4096)) ∧ (∀ z2 : Int64, z2 = (if v8 = (-1) then 0 else (if v9 = 0 then (((Int32.toInt64 (iR ρ (41, 27, 0) (Int32.toNatClampNeg v8))) + 3) * 1099511628211) else 0)) → (Y G [] ad0 M Q 28 (fun ad => [(0, .ref (ad (40, 0, 0))), (1, .int v1), (2, .long v2), (4, .int v4), (5, .long (v5 + z2)), (7, .int (v7 + 1))]) (fun ad => []) ρ))) : Y G [] ad0 M Q 128 (fun ad => [(0, .ref (ad (40, 0, 0))), (1, .int v1), (2, .long v2), (4, .int v4), (5, .long v5), (7, .int v7), (8, .int v8), (9, .int v9)]) (fun ad => []) ρ := by
  intro ad h hSt V
  show X G M Q 128 [(0, .ref (ad (40, 0, 0))), (1, .int v1), (2, .long v2), (4, .int v4), (5, .long v5), (7, .int v7), (8, .int v8), (9, .int v9)] [] h
  refine x_lload hM d_Mo_signOf_128 4 rfl ?_
  refine x_iload hM d_Mo_signOf_130 6 rfl ?_
  refine x_iconst (v := (-1)) hM d_Mo_signOf_132 (by decide) ?_
  obtain ⟨S, F⟩ := F
  have JJ : ∀ (z2 : Int64) (ez2 : z2 = (if v8 = (-1) then 0 else (if v9 = 0 then (((Int32.toInt64 (iR ρ (41, 27, 0) (Int32.toNatClampNeg v8))) + 3) * 1099511628211) else 0))), X G M Q 161 [(0, .ref (ad (40, 0, 0))), (1, .int v1), (2, .long v2), (4, .int v4), (7, .int v7)] [.long z2, .long v5] h := by
    intro z2 ez2
    replace F := F _ ez2
    refine x_ladd hM d_Mo_signOf_161 ?_
    refine x_lstore (lv2 := [(5, .long (v5 + z2)), (0, .ref (ad (40, 0, 0))), (1, .int v1), (2, .long v2), (4, .int v4), (7, .int v7)]) hM d_Mo_signOf_162 (Nat.le_of_ble_eq_true rfl) rfl ?_
    refine x_iinc (v := (v7 + 1)) (lv2 := [(7, .int (v7 + 1)), (5, .long (v5 + z2)), (0, .ref (ad (40, 0, 0))), (1, .int v1), (2, .long v2), (4, .int v4)]) hM d_Mo_signOf_164 (j := 5) rfl rfl (Nat.le_of_ble_eq_true rfl) rfl ?_
    refine x_goto (tgt := 28) hM d_Mo_signOf_167 (by decide) ?_
    refine x_sub [2, 3, 4, 5, 1, 0] rfl ?_
    exact F _ _ hSt V
  refine x_icmp_eq (tgt := 141) hM d_Mo_signOf_133 (by decide) (fun q3 => ?_) (fun q3 => ?_)
  · refine x_lconst (v := 0) hM d_Mo_signOf_141 (by decide) ?_
    refine x_goto (tgt := 161) hM d_Mo_signOf_142 (by decide) ?_
    refine x_sub [0, 1, 2, 3, 5] rfl ?_
    exact JJ _ (Eq.symm (if_pos q3))
  · replace S := S q3
    refine x_iload hM d_Mo_signOf_136 7 rfl ?_
    refine x_if_eq (tgt := 145) hM d_Mo_signOf_138 (by decide) (fun q4 => ?_) (fun q4 => ?_)
    · replace S := S q4
      refine x_aload_n hM d_Mo_signOf_145 rfl 0 rfl ?_
      refine y_getr hG hM V ck_Mo 27 (Nat.le_of_ble_eq_true rfl) rfl rfl w_924 rfl d_Mo_signOf_146 (40, 0, 0) (41, 27, 0) rfl rfl rfl ?_
      refine x_iload hM d_Mo_signOf_149 6 rfl ?_
      have c1 := S
      refine y_iaload hG hM V d_Mo_signOf_151 (41, 27, 0) rfl rfl (by rw [vlen V (r := (41, 27, 0)) rfl rfl]; exact c1) ?_
      refine x_i2l hM d_Mo_signOf_152 ?_
      refine x_ldc2 hG hM rfl w_1148 d_Mo_signOf_153 ?_
      refine x_ladd hM d_Mo_signOf_156 ?_
      refine x_ldc2 hG hM rfl w_1149 d_Mo_signOf_157 ?_
      refine x_lmul hM d_Mo_signOf_160 ?_
      refine x_sub [0, 1, 2, 3, 5] rfl ?_
      exact JJ _ (Eq.symm (Eq.trans (if_neg q3) (if_pos q4)))
    · refine x_lconst (v := 0) hM d_Mo_signOf_141 (by decide) ?_
      refine x_goto (tgt := 161) hM d_Mo_signOf_142 (by decide) ?_
      refine x_sub [0, 1, 2, 3, 5] rfl ?_
      exact JJ _ (Eq.symm (Eq.trans (if_neg q3) (if_neg q4)))
set_option maxRecDepth 100000 in
set_option maxHeartbeats 4000000 in
theorem T_Mo_areAlike_0 {G : Gc} {M : Mc} {Q : State → Prop} {ad0 : Ro → Nat} {K : (Ro → Nat) → Option Value → Rs → Prop} (hG : gok G) (hM : mok G M r_Mo_areAlike Q (KV G [] ad0 K)) (v1 : Int32) (v2 : Int32) (ρ : Rs) (F : vp_in v1 4096 ∧ (vp_in v2 4096 ∧ (∀ z3 : Int32, z3 = (if (iR ρ (41, 27, 0) (Int32.toNatClampNeg v1)) = (iR ρ (41, 27, 0) (Int32.toNatClampNeg v2)) then 1 else 0) → (Y G [] ad0 M Q 24 (fun ad => [(0, .ref (ad (40, 0, 0))), (1, .int v1), (2, .int v2), (3, .int z3), (4, .int 0)]) (fun ad => []) ρ)))) : Y G [] ad0 M Q 0 (fun ad => [(0, .ref (ad (40, 0, 0))), (1, .int v1), (2, .int v2)]) (fun ad => []) ρ := by
  intro ad h hSt V
  show X G M Q 0 [(0, .ref (ad (40, 0, 0))), (1, .int v1), (2, .int v2)] [] h
  refine x_aload_n hM d_Mo_areAlike_0 rfl 0 rfl ?_
  refine y_getr hG hM V ck_Mo 27 (Nat.le_of_ble_eq_true rfl) rfl rfl w_924 rfl d_Mo_areAlike_1 (40, 0, 0) (41, 27, 0) rfl rfl rfl ?_
  refine x_iload_n hM d_Mo_areAlike_4 rfl 1 rfl ?_
  obtain ⟨c1, F⟩ := F
  refine y_iaload hG hM V d_Mo_areAlike_5 (41, 27, 0) rfl rfl (by rw [vlen V (r := (41, 27, 0)) rfl rfl]; exact c1) ?_
  refine x_aload_n hM d_Mo_areAlike_6 rfl 0 rfl ?_
  refine y_getr hG hM V ck_Mo 27 (Nat.le_of_ble_eq_true rfl) rfl rfl w_924 rfl d_Mo_areAlike_7 (40, 0, 0) (41, 27, 0) rfl rfl rfl ?_
  refine x_iload_n hM d_Mo_areAlike_10 rfl 2 rfl ?_
  obtain ⟨c2, F⟩ := F
  refine y_iaload hG hM V d_Mo_areAlike_11 (41, 27, 0) rfl rfl (by rw [vlen V (r := (41, 27, 0)) rfl rfl]; exact c2) ?_
  have JJ : ∀ (z3 : Int32) (ez3 : z3 = (if (iR ρ (41, 27, 0) (Int32.toNatClampNeg v1)) = (iR ρ (41, 27, 0) (Int32.toNatClampNeg v2)) then 1 else 0)), X G M Q 20 [(0, .ref (ad (40, 0, 0))), (1, .int v1), (2, .int v2)] [.int z3] h := by
    intro z3 ez3
    replace F := F _ ez3
    refine x_istore_n (lv2 := [(3, .int z3), (0, .ref (ad (40, 0, 0))), (1, .int v1), (2, .int v2)]) hM d_Mo_areAlike_20 rfl (Nat.le_of_ble_eq_true rfl) rfl ?_
    refine x_iconst (v := 0) hM d_Mo_areAlike_21 (by decide) ?_
    refine x_istore (lv2 := [(4, .int 0), (3, .int z3), (0, .ref (ad (40, 0, 0))), (1, .int v1), (2, .int v2)]) hM d_Mo_areAlike_22 (Nat.le_of_ble_eq_true rfl) rfl ?_
    refine x_sub [2, 3, 4, 1, 0] rfl ?_
    exact F _ _ hSt V
  refine x_icmp_ne (tgt := 19) hM d_Mo_areAlike_12 (by decide) (fun q4 => ?_) (fun q4 => ?_)
  · refine x_iconst (v := 0) hM d_Mo_areAlike_19 (by decide) ?_
    exact JJ _ (Eq.symm (if_neg q4))
  · refine x_iconst (v := 1) hM d_Mo_areAlike_15 (by decide) ?_
    refine x_goto (tgt := 20) hM d_Mo_areAlike_16 (by decide) ?_
    exact JJ _ (Eq.symm (if_pos q4))
set_option maxRecDepth 100000 in
set_option maxHeartbeats 4000000 in
theorem T_Mo_areAlike_24 {G : Gc} {M : Mc} {Q : State → Prop} {ad0 : Ro → Nat} {K : (Ro → Nat) → Option Value → Rs → Prop} (hG : gok G) (hM : mok G M r_Mo_areAlike Q (KV G [] ad0 K)) (v1 : Int32) (v2 : Int32) (v3 : Int32) (v4 : Int32) (ρ : Rs) (F : ((iR ρ (40, 0, 0) 3) ≤ v4 → (nb v3 ∧ (∀ ad, K ad (some (.int v3)) ρ))) ∧ (¬ (iR ρ (40, 0, 0) 3) ≤ v4 → ((v3 = 0 → (nb v3 ∧ (∀ ad, K ad (some (.int v3)) ρ))) ∧ (¬ v3 = 0 → (semV G r_Mo_isOneWay [] (fun ad => [.ref (ad (40, 0, 0)), .int v1, .int v2, .int v4]) ρ (fun ad u2 ρ1 => ∃ x4 : Int32, u2 = some (.int x4) ∧ (Y G [] ad0 M Q 24 (fun ad => [(0, .ref (ad (40, 0, 0))), (1, .int v1), (2, .int v2), (3, .int x4), (4, .int (v4 + 1))]) (fun ad => []) ρ1))))))) : Y G [] ad0 M Q 24 (fun ad => [(0, .ref (ad (40, 0, 0))), (1, .int v1), (2, .int v2), (3, .int v3), (4, .int v4)]) (fun ad => []) ρ := by
  intro ad h hSt V
  show X G M Q 24 [(0, .ref (ad (40, 0, 0))), (1, .int v1), (2, .int v2), (3, .int v3), (4, .int v4)] [] h
  refine x_iload hM d_Mo_areAlike_24 4 rfl ?_
  refine x_aload_n hM d_Mo_areAlike_26 rfl 0 rfl ?_
  refine y_geti hG hM V ck_Mo 3 (Nat.le_of_ble_eq_true rfl) rfl rfl w_900 rfl d_Mo_areAlike_27 (40, 0, 0) rfl rfl ?_
  refine x_icmp_ge (tgt := 52) hM d_Mo_areAlike_30 (by decide) (fun q7 => ?_) (fun q7 => ?_)
  · replace F := F.1 q7
    refine x_iload_n hM d_Mo_areAlike_52 rfl 3 rfl ?_
    exact x_zreturn hM d_Mo_areAlike_53 rfl F.1 (y_end V hSt (F.2 _))
  · replace F := F.2 q7
    refine x_iload_n hM d_Mo_areAlike_33 rfl 3 rfl ?_
    refine x_if_eq (tgt := 52) hM d_Mo_areAlike_34 (by decide) (fun q6 => ?_) (fun q6 => ?_)
    · replace F := F.1 q6
      refine x_iload_n hM d_Mo_areAlike_52 rfl 3 rfl ?_
      exact x_zreturn hM d_Mo_areAlike_53 rfl F.1 (y_end V hSt (F.2 _))
    · replace F := F.2 q6
      refine x_aload_n hM d_Mo_areAlike_37 rfl 0 rfl ?_
      refine x_iload_n hM d_Mo_areAlike_38 rfl 1 rfl ?_
      refine x_iload_n hM d_Mo_areAlike_39 rfl 2 rfl ?_
      refine x_iload hM d_Mo_areAlike_40 4 rfl ?_
      refine x_callV hG hM (r' := r_Mo_isOneWay) (ci := 11) [.int v1, .int v2, .int v4] rfl rfl (Nat.le_of_ble_eq_true rfl) yk_Mo_isOneWay ⟨Nat.le_of_ble_eq_true rfl, Nat.le_of_ble_eq_true rfl⟩ w_1157 w_1159 ws_Mo_isOneWay rfl rfl (Nat.le_of_ble_eq_true rfl) d_Mo_areAlike_42 (by rw [vT V rfl]; rfl) (sem_mono (F _ _ V) ?_)
      intro u2 h F
      obtain ⟨ad5, ρ1, V, hs3, F⟩ := F
      obtain ⟨x4, rfl, F⟩ := F
      have hs3 := (St_eq hs3).symm
      subst hs3
      refine x_istore_n (lv2 := [(3, .int x4), (0, .ref (ad (40, 0, 0))), (1, .int v1), (2, .int v2), (4, .int v4)]) hM d_Mo_areAlike_45 rfl (Nat.le_of_ble_eq_true rfl) rfl ?_
      refine x_iinc (v := (v4 + 1)) (lv2 := [(4, .int (v4 + 1)), (3, .int x4), (0, .ref (ad (40, 0, 0))), (1, .int v1), (2, .int v2)]) hM d_Mo_areAlike_46 (j := 4) rfl rfl (Nat.le_of_ble_eq_true rfl) rfl ?_
      refine x_goto (tgt := 24) hM d_Mo_areAlike_49 (by decide) ?_
      refine x_sub [2, 3, 4, 1, 0] rfl ?_
      exact F _ _ hSt V
