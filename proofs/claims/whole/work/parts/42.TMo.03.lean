set_option maxRecDepth 100000 in
set_option maxHeartbeats 4000000 in
theorem T_Mo_lay_0 {G : Gc} {M : Mc} {Q : State → Prop} {ad0 : Ro → Nat} {K : (Ro → Nat) → Option Value → Rs → Prop} (hG : gok G) (hM : mok G M r_Mo_lay Q (KV G [] ad0 K))  (ρ : Rs) (F : ((iR ρ (40, 0, 0) 12) = 0 → (∀ ρ1 : Rs, ρ1 = pI ρ (40, 0, 0) 12 1 → (semV G r_Mo_states [] (fun ad => [.ref (ad (40, 0, 0))]) ρ1 (fun ad u3 ρ2 => ∃ x5 : Int32, u3 = some (.int x5) ∧ (∀ ρ6 : Rs, ρ6 = pI ρ2 (40, 0, 0) 13 x5 → (Y G [] ad0 M Q 23 (fun ad => [(0, .ref (ad (40, 0, 0))), (1, .int 0)]) (fun ad => []) ρ6)))))) ∧ (¬ (iR ρ (40, 0, 0) 12) = 0 → (∀ ad, K ad none ρ))) : Y G [] ad0 M Q 0 (fun ad => [(0, .ref (ad (40, 0, 0)))]) (fun ad => []) ρ := by
  intro ad h hSt V
  show X G M Q 0 [(0, .ref (ad (40, 0, 0)))] [] h
  refine x_aload_n hM d_Mo_lay_0 rfl 0 rfl ?_
  refine y_geti hG hM V ck_Mo 12 (Nat.le_of_ble_eq_true rfl) rfl rfl w_909 rfl d_Mo_lay_1 (40, 0, 0) rfl rfl ?_
  refine x_if_eq (tgt := 8) hM d_Mo_lay_4 (by decide) (fun q8 => ?_) (fun q8 => ?_)
  · replace F := F.1 q8
    refine x_aload_n hM d_Mo_lay_8 rfl 0 rfl ?_
    refine x_iconst (v := 1) hM d_Mo_lay_9 (by decide) ?_
    obtain ⟨ρ1, eρ1⟩ : ∃ z : Rs, z = pI ρ (40, 0, 0) 12 1 := ⟨_, rfl⟩
    replace F := F ρ1 eρ1
    refine y_putz hG hM V ck_Mo 12 (Nat.le_of_ble_eq_true rfl) rfl rfl w_909 rfl d_Mo_lay_10 rfl (40, 0, 0) rfl rfl (Or.inr rfl) (fun h V => ?_)
    rw [← eρ1] at V
    clear eρ1
    refine x_aload_n hM d_Mo_lay_13 rfl 0 rfl ?_
    refine x_aload_n hM d_Mo_lay_14 rfl 0 rfl ?_
    refine x_callV hG hM (r' := r_Mo_states) (ci := 11) [] rfl rfl (Nat.le_of_ble_eq_true rfl) yk_Mo_states ⟨Nat.le_of_ble_eq_true rfl, Nat.le_of_ble_eq_true rfl⟩ w_1020 w_1022 ws_Mo_states rfl rfl (Nat.le_of_ble_eq_true rfl) d_Mo_lay_15 (by rw [vT V rfl]; rfl) (sem_mono (F _ _ V) ?_)
    intro u3 h F
    obtain ⟨ad7, ρ2, V, hs4, F⟩ := F
    obtain ⟨x5, rfl, F⟩ := F
    have hs4 := (St_eq hs4).symm
    subst hs4
    obtain ⟨ρ6, eρ6⟩ : ∃ z : Rs, z = pI ρ2 (40, 0, 0) 13 x5 := ⟨_, rfl⟩
    replace F := F ρ6 eρ6
    refine y_puti hG hM V ck_Mo 13 (Nat.le_of_ble_eq_true rfl) rfl rfl w_910 rfl d_Mo_lay_18 rfl (40, 0, 0) rfl rfl (fun h V => ?_)
    rw [← eρ6] at V
    clear eρ6
    refine x_iconst (v := 0) hM d_Mo_lay_21 (by decide) ?_
    refine x_istore_n (lv2 := [(1, .int 0), (0, .ref (ad (40, 0, 0)))]) hM d_Mo_lay_22 rfl (Nat.le_of_ble_eq_true rfl) rfl ?_
    refine x_sub [1, 0] rfl ?_
    exact F _ _ hSt V
  · replace F := F.2 q8
    exact x_return hM d_Mo_lay_7 rfl (y_end V hSt (F _))
set_option maxRecDepth 100000 in
set_option maxHeartbeats 4000000 in
theorem T_Mo_lay_23 {G : Gc} {M : Mc} {Q : State → Prop} {ad0 : Ro → Nat} {K : (Ro → Nat) → Option Value → Rs → Prop} (hG : gok G) (hM : mok G M r_Mo_lay Q (KV G [] ad0 K)) (v1 : Int32) (ρ : Rs) (F : ((iR ρ (40, 0, 0) 13) ≤ v1 → (Y G [] ad0 M Q 147 (fun ad => [(0, .ref (ad (40, 0, 0))), (1, .int 0), (2, .int 0)]) (fun ad => []) ρ)) ∧ (¬ (iR ρ (40, 0, 0) 13) ≤ v1 → (semV G r_Mo_open [] (fun ad => [.ref (ad (40, 0, 0)), .int v1]) ρ (fun ad u2 ρ1 => u2 = none ∧ (semV G r_Mo_hold [] (fun ad => [.ref (ad (40, 0, 0)), .int 12]) ρ1 (fun ad u5 ρ4 => ∃ x7 : Int32, u5 = some (.int x7) ∧ (vp_in v1 4096 ∧ nb x7 ∧ (∀ ρ8 : Rs, ρ8 = pI ρ4 (41, 15, 0) (Int32.toNatClampNeg v1) x7 → (vp_in v1 4096 ∧ (∀ ρ9 : Rs, ρ9 = pI ρ8 (41, 16, 0) (Int32.toNatClampNeg v1) (-1) → (Y G [] ad0 M Q 57 (fun ad => [(0, .ref (ad (40, 0, 0))), (1, .int v1), (2, .int 0)]) (fun ad => []) ρ9))))))))))) : Y G [] ad0 M Q 23 (fun ad => [(0, .ref (ad (40, 0, 0))), (1, .int v1)]) (fun ad => []) ρ := by
  intro ad h hSt V
  show X G M Q 23 [(0, .ref (ad (40, 0, 0))), (1, .int v1)] [] h
  refine x_iload_n hM d_Mo_lay_23 rfl 1 rfl ?_
  refine x_aload_n hM d_Mo_lay_24 rfl 0 rfl ?_
  refine y_geti hG hM V ck_Mo 13 (Nat.le_of_ble_eq_true rfl) rfl rfl w_910 rfl d_Mo_lay_25 (40, 0, 0) rfl rfl ?_
  refine x_icmp_ge (tgt := 143) hM d_Mo_lay_28 (by decide) (fun q15 => ?_) (fun q15 => ?_)
  · replace F := F.1 q15
    refine x_iconst (v := 0) hM d_Mo_lay_143 (by decide) ?_
    refine x_istore_n (lv2 := [(1, .int 0), (0, .ref (ad (40, 0, 0)))]) hM d_Mo_lay_144 rfl (Nat.le_of_ble_eq_true rfl) rfl ?_
    refine x_iconst (v := 0) hM d_Mo_lay_145 (by decide) ?_
    refine x_istore_n (lv2 := [(2, .int 0), (1, .int 0), (0, .ref (ad (40, 0, 0)))]) hM d_Mo_lay_146 rfl (Nat.le_of_ble_eq_true rfl) rfl ?_
    refine x_sub [2, 1, 0] rfl ?_
    exact F _ _ hSt V
  · replace F := F.2 q15
    refine x_aload_n hM d_Mo_lay_31 rfl 0 rfl ?_
    refine x_iload_n hM d_Mo_lay_32 rfl 1 rfl ?_
    refine x_callV hG hM (r' := r_Mo_open) (ci := 11) [.int v1] rfl rfl (Nat.le_of_ble_eq_true rfl) yk_Mo_open ⟨Nat.le_of_ble_eq_true rfl, Nat.le_of_ble_eq_true rfl⟩ w_1092 w_1094 ws_Mo_open rfl rfl (Nat.le_of_ble_eq_true rfl) d_Mo_lay_33 (by rw [vT V rfl]; rfl) (sem_mono (F _ _ V) ?_)
    intro u2 h F
    obtain ⟨ad14, ρ1, V, hs3, F⟩ := F
    obtain ⟨rfl, F⟩ := F
    have hs3 := (St_eq hs3).symm
    subst hs3
    refine x_aload_n hM d_Mo_lay_36 rfl 0 rfl ?_
    refine y_getr hG hM V ck_Mo 15 (Nat.le_of_ble_eq_true rfl) rfl rfl w_912 rfl d_Mo_lay_37 (40, 0, 0) (41, 15, 0) rfl rfl rfl ?_
    refine x_iload_n hM d_Mo_lay_40 rfl 1 rfl ?_
    refine x_aload_n hM d_Mo_lay_41 rfl 0 rfl ?_
    refine x_bipush (v := 12) hM d_Mo_lay_42 (by decide) ?_
    refine x_callV hG hM (r' := r_Mo_hold) (ci := 11) [.int 12] rfl rfl (Nat.le_of_ble_eq_true rfl) yk_Mo_hold ⟨Nat.le_of_ble_eq_true rfl, Nat.le_of_ble_eq_true rfl⟩ w_1096 w_1098 ws_Mo_hold rfl rfl (Nat.le_of_ble_eq_true rfl) d_Mo_lay_44 (by rw [vT V rfl]; rfl) (sem_mono (F _ _ V) ?_)
    intro u5 h F
    obtain ⟨ad13, ρ4, V, hs6, F⟩ := F
    obtain ⟨x7, rfl, F⟩ := F
    have hs6 := (St_eq hs6).symm
    subst hs6
    obtain ⟨c11, F⟩ := F
    obtain ⟨c12, F⟩ := F
    obtain ⟨ρ8, eρ8⟩ : ∃ z : Rs, z = pI ρ4 (41, 15, 0) (Int32.toNatClampNeg v1) x7 := ⟨_, rfl⟩
    replace F := F ρ8 eρ8
    refine y_zastore hG hM V d_Mo_lay_47 (41, 15, 0) rfl rfl (by rw [vlen V (r := (41, 15, 0)) rfl rfl]; exact c11) c12 (fun h V => ?_)
    rw [← eρ8] at V
    clear eρ8
    refine x_aload_n hM d_Mo_lay_48 rfl 0 rfl ?_
    refine y_getr hG hM V ck_Mo 16 (Nat.le_of_ble_eq_true rfl) rfl rfl w_913 rfl d_Mo_lay_49 (40, 0, 0) (41, 16, 0) rfl rfl rfl ?_
    refine x_iload_n hM d_Mo_lay_52 rfl 1 rfl ?_
    refine x_iconst (v := (-1)) hM d_Mo_lay_53 (by decide) ?_
    obtain ⟨c10, F⟩ := F
    obtain ⟨ρ9, eρ9⟩ : ∃ z : Rs, z = pI ρ8 (41, 16, 0) (Int32.toNatClampNeg v1) (-1) := ⟨_, rfl⟩
    replace F := F ρ9 eρ9
    refine y_iastore hG hM V d_Mo_lay_54 (41, 16, 0) rfl rfl (by rw [vlen V (r := (41, 16, 0)) rfl rfl]; exact c10) (fun h V => ?_)
    rw [← eρ9] at V
    clear eρ9
    refine x_iconst (v := 0) hM d_Mo_lay_55 (by decide) ?_
    refine x_istore_n (lv2 := [(2, .int 0), (0, .ref (ad (40, 0, 0))), (1, .int v1)]) hM d_Mo_lay_56 rfl (Nat.le_of_ble_eq_true rfl) rfl ?_
    refine x_sub [1, 2, 0] rfl ?_
    exact F _ _ hSt V
set_option maxRecDepth 100000 in
set_option maxHeartbeats 4000000 in
theorem T_Mo_lay_57 {G : Gc} {M : Mc} {Q : State → Prop} {ad0 : Ro → Nat} {K : (Ro → Nat) → Option Value → Rs → Prop} (hG : gok G) (hM : mok G M r_Mo_lay Q (KV G [] ad0 K)) (v1 : Int32) (v2 : Int32) (ρ : Rs) (F : ((iR ρ (40, 0, 0) 3) ≤ v2 → (Y G [] ad0 M Q 23 (fun ad => [(0, .ref (ad (40, 0, 0))), (1, .int (v1 + 1))]) (fun ad => []) ρ)) ∧ (¬ (iR ρ (40, 0, 0) 3) ≤ v2 → (semV G r_Mo_hold [] (fun ad => [.ref (ad (40, 0, 0)), .int v2]) ρ (fun ad u2 ρ1 => ∃ x4 : Int32, u2 = some (.int x4) ∧ (Y G [] ad0 M Q 74 (fun ad => [(0, .ref (ad (40, 0, 0))), (1, .int v1), (2, .int v2), (3, .int x4), (4, .int 0)]) (fun ad => []) ρ1))))) : Y G [] ad0 M Q 57 (fun ad => [(0, .ref (ad (40, 0, 0))), (1, .int v1), (2, .int v2)]) (fun ad => []) ρ := by
  intro ad h hSt V
  show X G M Q 57 [(0, .ref (ad (40, 0, 0))), (1, .int v1), (2, .int v2)] [] h
  refine x_iload_n hM d_Mo_lay_57 rfl 2 rfl ?_
  refine x_aload_n hM d_Mo_lay_58 rfl 0 rfl ?_
  refine y_geti hG hM V ck_Mo 3 (Nat.le_of_ble_eq_true rfl) rfl rfl w_900 rfl d_Mo_lay_59 (40, 0, 0) rfl rfl ?_
  refine x_icmp_ge (tgt := 137) hM d_Mo_lay_62 (by decide) (fun q6 => ?_) (fun q6 => ?_)
  · replace F := F.1 q6
    refine x_iinc (v := (v1 + 1)) (lv2 := [(1, .int (v1 + 1)), (0, .ref (ad (40, 0, 0))), (2, .int v2)]) hM d_Mo_lay_137 (j := 1) rfl rfl (Nat.le_of_ble_eq_true rfl) rfl ?_
    refine x_goto (tgt := 23) hM d_Mo_lay_140 (by decide) ?_
    refine x_sub [1, 0] rfl ?_
    exact F _ _ hSt V
  · replace F := F.2 q6
    refine x_aload_n hM d_Mo_lay_65 rfl 0 rfl ?_
    refine x_iload_n hM d_Mo_lay_66 rfl 2 rfl ?_
    refine x_callV hG hM (r' := r_Mo_hold) (ci := 11) [.int v2] rfl rfl (Nat.le_of_ble_eq_true rfl) yk_Mo_hold ⟨Nat.le_of_ble_eq_true rfl, Nat.le_of_ble_eq_true rfl⟩ w_1096 w_1098 ws_Mo_hold rfl rfl (Nat.le_of_ble_eq_true rfl) d_Mo_lay_67 (by rw [vT V rfl]; rfl) (sem_mono (F _ _ V) ?_)
    intro u2 h F
    obtain ⟨ad5, ρ1, V, hs3, F⟩ := F
    obtain ⟨x4, rfl, F⟩ := F
    have hs3 := (St_eq hs3).symm
    subst hs3
    refine x_istore_n (lv2 := [(3, .int x4), (0, .ref (ad (40, 0, 0))), (1, .int v1), (2, .int v2)]) hM d_Mo_lay_70 rfl (Nat.le_of_ble_eq_true rfl) rfl ?_
    refine x_iconst (v := 0) hM d_Mo_lay_71 (by decide) ?_
    refine x_istore (lv2 := [(4, .int 0), (3, .int x4), (0, .ref (ad (40, 0, 0))), (1, .int v1), (2, .int v2)]) hM d_Mo_lay_72 (Nat.le_of_ble_eq_true rfl) rfl ?_
    refine x_sub [2, 3, 4, 1, 0] rfl ?_
    exact F _ _ hSt V
set_option maxRecDepth 100000 in
set_option maxHeartbeats 4000000 in
theorem T_Mo_lay_74 {G : Gc} {M : Mc} {Q : State → Prop} {ad0 : Ro → Nat} {K : (Ro → Nat) → Option Value → Rs → Prop} (hG : gok G) (hM : mok G M r_Mo_lay Q (KV G [] ad0 K)) (v1 : Int32) (v2 : Int32) (v3 : Int32) (v4 : Int32) (ρ : Rs) (F : (3 ≤ v4 → (Y G [] ad0 M Q 57 (fun ad => [(0, .ref (ad (40, 0, 0))), (1, .int v1), (2, .int (v2 + 1))]) (fun ad => []) ρ)) ∧ (¬ 3 ≤ v4 → ((v3 = 0 → (vp_in (((36 * v1) + (3 * v2)) + v4) 147456 ∧ (∀ ρ2 : Rs, ρ2 = pI ρ (41, 14, 0) (Int32.toNatClampNeg (((36 * v1) + (3 * v2)) + v4)) (-1) → (Y G [] ad0 M Q 74 (fun ad => [(0, .ref (ad (40, 0, 0))), (1, .int v1), (2, .int v2), (3, .int v3), (4, .int (v4 + 1))]) (fun ad => []) ρ2)))) ∧ (¬ v3 = 0 → (vp_in v2 12 ∧ (((iR ρ (41, 4, 0) (Int32.toNatClampNeg v2)) ≤ v4 → (vp_in (((36 * v1) + (3 * v2)) + v4) 147456 ∧ (∀ ρ5 : Rs, ρ5 = pI ρ (41, 14, 0) (Int32.toNatClampNeg (((36 * v1) + (3 * v2)) + v4)) (-1) → (Y G [] ad0 M Q 74 (fun ad => [(0, .ref (ad (40, 0, 0))), (1, .int v1), (2, .int v2), (3, .int v3), (4, .int (v4 + 1))]) (fun ad => []) ρ5)))) ∧ (¬ (iR ρ (41, 4, 0) (Int32.toNatClampNeg v2)) ≤ v4 → (semV G r_Mo_goes [] (fun ad => [.ref (ad (40, 0, 0)), .int ((3 * v2) + v4)]) ρ (fun ad u8 ρ7 => ∃ x10 : Int32, u8 = some (.int x10) ∧ (vp_in (((36 * v1) + (3 * v2)) + v4) 147456 ∧ (∀ ρ11 : Rs, ρ11 = pI ρ7 (41, 14, 0) (Int32.toNatClampNeg (((36 * v1) + (3 * v2)) + v4)) x10 → (Y G [] ad0 M Q 74 (fun ad => [(0, .ref (ad (40, 0, 0))), (1, .int v1), (2, .int v2), (3, .int v3), (4, .int (v4 + 1))]) (fun ad => []) ρ11)))))))))))) : Y G [] ad0 M Q 74 (fun ad => [(0, .ref (ad (40, 0, 0))), (1, .int v1), (2, .int v2), (3, .int v3), (4, .int v4)]) (fun ad => []) ρ := by
  intro ad h hSt V
  show X G M Q 74 [(0, .ref (ad (40, 0, 0))), (1, .int v1), (2, .int v2), (3, .int v3), (4, .int v4)] [] h
  refine x_iload hM d_Mo_lay_74 4 rfl ?_
  refine x_iconst (v := 3) hM d_Mo_lay_76 (by decide) ?_
  refine x_icmp_ge (tgt := 131) hM d_Mo_lay_77 (by decide) (fun q16 => ?_) (fun q16 => ?_)
  · replace F := F.1 q16
    refine x_iinc (v := (v2 + 1)) (lv2 := [(2, .int (v2 + 1)), (0, .ref (ad (40, 0, 0))), (1, .int v1), (3, .int v3), (4, .int v4)]) hM d_Mo_lay_131 (j := 2) rfl rfl (Nat.le_of_ble_eq_true rfl) rfl ?_
    refine x_goto (tgt := 57) hM d_Mo_lay_134 (by decide) ?_
    refine x_sub [1, 2, 0] rfl ?_
    exact F _ _ hSt V
  · replace F := F.2 q16
    refine x_aload_n hM d_Mo_lay_80 rfl 0 rfl ?_
    refine y_getr hG hM V ck_Mo 14 (Nat.le_of_ble_eq_true rfl) rfl rfl w_911 rfl d_Mo_lay_81 (40, 0, 0) (41, 14, 0) rfl rfl rfl ?_
    refine x_bipush (v := 36) hM d_Mo_lay_84 (by decide) ?_
    refine x_iload_n hM d_Mo_lay_86 rfl 1 rfl ?_
    refine x_imul hM d_Mo_lay_87 ?_
    refine x_iconst (v := 3) hM d_Mo_lay_88 (by decide) ?_
    refine x_iload_n hM d_Mo_lay_89 rfl 2 rfl ?_
    refine x_imul hM d_Mo_lay_90 ?_
    refine x_iadd hM d_Mo_lay_91 ?_
    refine x_iload hM d_Mo_lay_92 4 rfl ?_
    refine x_iadd hM d_Mo_lay_94 ?_
    refine x_iload_n hM d_Mo_lay_95 rfl 3 rfl ?_
    refine x_if_eq (tgt := 123) hM d_Mo_lay_96 (by decide) (fun q15 => ?_) (fun q15 => ?_)
    · replace F := F.1 q15
      refine x_iconst (v := (-1)) hM d_Mo_lay_123 (by decide) ?_
      obtain ⟨c3, F⟩ := F
      obtain ⟨ρ2, eρ2⟩ : ∃ z : Rs, z = pI ρ (41, 14, 0) (Int32.toNatClampNeg (((36 * v1) + (3 * v2)) + v4)) (-1) := ⟨_, rfl⟩
      replace F := F ρ2 eρ2
      refine y_iastore hG hM V d_Mo_lay_124 (41, 14, 0) rfl rfl (by rw [vlen V (r := (41, 14, 0)) rfl rfl]; exact c3) (fun h V => ?_)
      rw [← eρ2] at V
      clear eρ2
      refine x_iinc (v := (v4 + 1)) (lv2 := [(4, .int (v4 + 1)), (0, .ref (ad (40, 0, 0))), (1, .int v1), (2, .int v2), (3, .int v3)]) hM d_Mo_lay_125 (j := 4) rfl rfl (Nat.le_of_ble_eq_true rfl) rfl ?_
      refine x_goto (tgt := 74) hM d_Mo_lay_128 (by decide) ?_
      refine x_sub [1, 2, 3, 4, 0] rfl ?_
      exact F _ _ hSt V
    · replace F := F.2 q15
      refine x_iload hM d_Mo_lay_99 4 rfl ?_
      refine x_aload_n hM d_Mo_lay_101 rfl 0 rfl ?_
      refine y_getr hG hM V ck_Mo 4 (Nat.le_of_ble_eq_true rfl) rfl rfl w_901 rfl d_Mo_lay_102 (40, 0, 0) (41, 4, 0) rfl rfl rfl ?_
      refine x_iload_n hM d_Mo_lay_105 rfl 2 rfl ?_
      obtain ⟨c4, F⟩ := F
      refine y_iaload hG hM V d_Mo_lay_106 (41, 4, 0) rfl rfl (by rw [vlen V (r := (41, 4, 0)) rfl rfl]; exact c4) ?_
      refine x_icmp_ge (tgt := 123) hM d_Mo_lay_107 (by decide) (fun q14 => ?_) (fun q14 => ?_)
      · replace F := F.1 q14
        refine x_iconst (v := (-1)) hM d_Mo_lay_123 (by decide) ?_
        obtain ⟨c6, F⟩ := F
        obtain ⟨ρ5, eρ5⟩ : ∃ z : Rs, z = pI ρ (41, 14, 0) (Int32.toNatClampNeg (((36 * v1) + (3 * v2)) + v4)) (-1) := ⟨_, rfl⟩
        replace F := F ρ5 eρ5
        refine y_iastore hG hM V d_Mo_lay_124 (41, 14, 0) rfl rfl (by rw [vlen V (r := (41, 14, 0)) rfl rfl]; exact c6) (fun h V => ?_)
        rw [← eρ5] at V
        clear eρ5
        refine x_iinc (v := (v4 + 1)) (lv2 := [(4, .int (v4 + 1)), (0, .ref (ad (40, 0, 0))), (1, .int v1), (2, .int v2), (3, .int v3)]) hM d_Mo_lay_125 (j := 4) rfl rfl (Nat.le_of_ble_eq_true rfl) rfl ?_
        refine x_goto (tgt := 74) hM d_Mo_lay_128 (by decide) ?_
        refine x_sub [1, 2, 3, 4, 0] rfl ?_
        exact F _ _ hSt V
      · replace F := F.2 q14
        refine x_aload_n hM d_Mo_lay_110 rfl 0 rfl ?_
        refine x_iconst (v := 3) hM d_Mo_lay_111 (by decide) ?_
        refine x_iload_n hM d_Mo_lay_112 rfl 2 rfl ?_
        refine x_imul hM d_Mo_lay_113 ?_
        refine x_iload hM d_Mo_lay_114 4 rfl ?_
        refine x_iadd hM d_Mo_lay_116 ?_
        refine x_callV hG hM (r' := r_Mo_goes) (ci := 11) [.int ((3 * v2) + v4)] rfl rfl (Nat.le_of_ble_eq_true rfl) yk_Mo_goes ⟨Nat.le_of_ble_eq_true rfl, Nat.le_of_ble_eq_true rfl⟩ w_1100 w_1102 ws_Mo_goes rfl rfl (Nat.le_of_ble_eq_true rfl) d_Mo_lay_117 (by rw [vT V rfl]; rfl) (sem_mono (F _ _ V) ?_)
        intro u8 h F
        obtain ⟨ad13, ρ7, V, hs9, F⟩ := F
        obtain ⟨x10, rfl, F⟩ := F
        have hs9 := (St_eq hs9).symm
        subst hs9
        refine x_goto (tgt := 124) hM d_Mo_lay_120 (by decide) ?_
        obtain ⟨c12, F⟩ := F
        obtain ⟨ρ11, eρ11⟩ : ∃ z : Rs, z = pI ρ7 (41, 14, 0) (Int32.toNatClampNeg (((36 * v1) + (3 * v2)) + v4)) x10 := ⟨_, rfl⟩
        replace F := F ρ11 eρ11
        refine y_iastore hG hM V d_Mo_lay_124 (41, 14, 0) rfl rfl (by rw [vlen V (r := (41, 14, 0)) rfl rfl]; exact c12) (fun h V => ?_)
        rw [← eρ11] at V
        clear eρ11
        refine x_iinc (v := (v4 + 1)) (lv2 := [(4, .int (v4 + 1)), (0, .ref (ad (40, 0, 0))), (1, .int v1), (2, .int v2), (3, .int v3)]) hM d_Mo_lay_125 (j := 4) rfl rfl (Nat.le_of_ble_eq_true rfl) rfl ?_
        refine x_goto (tgt := 74) hM d_Mo_lay_128 (by decide) ?_
        refine x_sub [1, 2, 3, 4, 0] rfl ?_
        exact F _ _ hSt V
set_option maxRecDepth 100000 in
set_option maxHeartbeats 4000000 in
theorem T_Mo_lay_147 {G : Gc} {M : Mc} {Q : State → Prop} {ad0 : Ro → Nat} {K : (Ro → Nat) → Option Value → Rs → Prop} (hG : gok G) (hM : mok G M r_Mo_lay Q (KV G [] ad0 K)) (v1 : Int32) (v2 : Int32) (ρ : Rs) (F : ((iR ρ (40, 0, 0) 13) ≤ v2 → (semV G r_Mo_forward [] (fun ad => [.ref (ad (40, 0, 0))]) ρ (fun ad u2 ρ1 => u2 = none ∧ (semV G r_Mo_backward [] (fun ad => [.ref (ad (40, 0, 0))]) ρ1 (fun ad u5 ρ4 => u5 = none ∧ (semV G r_Mo_surely [] (fun ad => [.ref (ad (40, 0, 0))]) ρ4 (fun ad u8 ρ7 => u8 = none ∧ (semV G r_Mo_fairly [] (fun ad => [.ref (ad (40, 0, 0))]) ρ7 (fun ad u11 ρ10 => u11 = none ∧ (∀ ad, K ad none ρ10)))))))))) ∧ (¬ (iR ρ (40, 0, 0) 13) ≤ v2 → (Y G [] ad0 M Q 157 (fun ad => [(0, .ref (ad (40, 0, 0))), (1, .int v1), (2, .int v2), (3, .int 0)]) (fun ad => []) ρ))) : Y G [] ad0 M Q 147 (fun ad => [(0, .ref (ad (40, 0, 0))), (1, .int v1), (2, .int v2)]) (fun ad => []) ρ := by
  intro ad h hSt V
  show X G M Q 147 [(0, .ref (ad (40, 0, 0))), (1, .int v1), (2, .int v2)] [] h
  refine x_iload_n hM d_Mo_lay_147 rfl 2 rfl ?_
  refine x_aload_n hM d_Mo_lay_148 rfl 0 rfl ?_
  refine y_geti hG hM V ck_Mo 13 (Nat.le_of_ble_eq_true rfl) rfl rfl w_910 rfl d_Mo_lay_149 (40, 0, 0) rfl rfl ?_
  refine x_icmp_ge (tgt := 234) hM d_Mo_lay_152 (by decide) (fun q17 => ?_) (fun q17 => ?_)
  · replace F := F.1 q17
    refine x_aload_n hM d_Mo_lay_234 rfl 0 rfl ?_
    refine x_callV hG hM (r' := r_Mo_forward) (ci := 11) [] rfl rfl (Nat.le_of_ble_eq_true rfl) yk_Mo_forward ⟨Nat.le_of_ble_eq_true rfl, Nat.le_of_ble_eq_true rfl⟩ w_1116 w_1118 ws_Mo_forward rfl rfl (Nat.le_of_ble_eq_true rfl) d_Mo_lay_235 (by rw [vT V rfl]; rfl) (sem_mono (F _ _ V) ?_)
    intro u2 h F
    obtain ⟨ad16, ρ1, V, hs3, F⟩ := F
    obtain ⟨rfl, F⟩ := F
    have hs3 := (St_eq hs3).symm
    subst hs3
    refine x_aload_n hM d_Mo_lay_238 rfl 0 rfl ?_
    refine x_callV hG hM (r' := r_Mo_backward) (ci := 11) [] rfl rfl (Nat.le_of_ble_eq_true rfl) yk_Mo_backward ⟨Nat.le_of_ble_eq_true rfl, Nat.le_of_ble_eq_true rfl⟩ w_1120 w_1122 ws_Mo_backward rfl rfl (Nat.le_of_ble_eq_true rfl) d_Mo_lay_239 (by rw [vT V rfl]; rfl) (sem_mono (F _ _ V) ?_)
    intro u5 h F
    obtain ⟨ad15, ρ4, V, hs6, F⟩ := F
    obtain ⟨rfl, F⟩ := F
    have hs6 := (St_eq hs6).symm
    subst hs6
    refine x_aload_n hM d_Mo_lay_242 rfl 0 rfl ?_
    refine x_callV hG hM (r' := r_Mo_surely) (ci := 11) [] rfl rfl (Nat.le_of_ble_eq_true rfl) yk_Mo_surely ⟨Nat.le_of_ble_eq_true rfl, Nat.le_of_ble_eq_true rfl⟩ w_1128 w_1130 ws_Mo_surely rfl rfl (Nat.le_of_ble_eq_true rfl) d_Mo_lay_243 (by rw [vT V rfl]; rfl) (sem_mono (F _ _ V) ?_)
    intro u8 h F
    obtain ⟨ad14, ρ7, V, hs9, F⟩ := F
    obtain ⟨rfl, F⟩ := F
    have hs9 := (St_eq hs9).symm
    subst hs9
    refine x_aload_n hM d_Mo_lay_246 rfl 0 rfl ?_
    refine x_callV hG hM (r' := r_Mo_fairly) (ci := 11) [] rfl rfl (Nat.le_of_ble_eq_true rfl) yk_Mo_fairly ⟨Nat.le_of_ble_eq_true rfl, Nat.le_of_ble_eq_true rfl⟩ w_1132 w_1134 ws_Mo_fairly rfl rfl (Nat.le_of_ble_eq_true rfl) d_Mo_lay_247 (by rw [vT V rfl]; rfl) (sem_mono (F _ _ V) ?_)
    intro u11 h F
    obtain ⟨ad13, ρ10, V, hs12, F⟩ := F
    obtain ⟨rfl, F⟩ := F
    have hs12 := (St_eq hs12).symm
    subst hs12
    exact x_return hM d_Mo_lay_250 rfl (y_end V hSt (F _))
  · replace F := F.2 q17
    refine x_iconst (v := 0) hM d_Mo_lay_155 (by decide) ?_
    refine x_istore_n (lv2 := [(3, .int 0), (0, .ref (ad (40, 0, 0))), (1, .int v1), (2, .int v2)]) hM d_Mo_lay_156 rfl (Nat.le_of_ble_eq_true rfl) rfl ?_
    refine x_sub [1, 2, 3, 0] rfl ?_
    exact F _ _ hSt V
set_option maxRecDepth 100000 in
set_option maxHeartbeats 4000000 in
theorem T_Mo_lay_157 {G : Gc} {M : Mc} {Q : State → Prop} {ad0 : Ro → Nat} {K : (Ro → Nat) → Option Value → Rs → Prop} (hG : gok G) (hM : mok G M r_Mo_lay Q (KV G [] ad0 K)) (v1 : Int32) (v2 : Int32) (v3 : Int32) (ρ : Rs) (F : ((3 * (iR ρ (40, 0, 0) 3)) ≤ v3 → (Y G [] ad0 M Q 147 (fun ad => [(0, .ref (ad (40, 0, 0))), (1, .int v1), (2, .int (v2 + 1))]) (fun ad => []) ρ)) ∧ (¬ (3 * (iR ρ (40, 0, 0) 3)) ≤ v3 → (vp_in ((36 * v2) + v3) 147456 ∧ (((iR ρ (41, 14, 0) (Int32.toNatClampNeg ((36 * v2) + v3))) = (-1) → (Y G [] ad0 M Q 157 (fun ad => [(0, .ref (ad (40, 0, 0))), (1, .int v1), (2, .int v2), (3, .int (v3 + 1))]) (fun ad => []) ρ)) ∧ (¬ (iR ρ (41, 14, 0) (Int32.toNatClampNeg ((36 * v2) + v3))) = (-1) → (vp_in v1 147456 ∧ (∀ ρ3 : Rs, ρ3 = pI ρ (41, 17, 0) (Int32.toNatClampNeg v1) ((36 * v2) + v3) → (vp_in (iR ρ (41, 14, 0) (Int32.toNatClampNeg ((36 * v2) + v3))) 4096 ∧ (vp_in v1 147456 ∧ (∀ ρ5 : Rs, ρ5 = pI ρ3 (41, 18, 0) (Int32.toNatClampNeg v1) (iR ρ3 (41, 16, 0) (Int32.toNatClampNeg (iR ρ (41, 14, 0) (Int32.toNatClampNeg ((36 * v2) + v3))))) → (vp_in (iR ρ (41, 14, 0) (Int32.toNatClampNeg ((36 * v2) + v3))) 4096 ∧ (∀ ρ6 : Rs, ρ6 = pI ρ5 (41, 16, 0) (Int32.toNatClampNeg (iR ρ (41, 14, 0) (Int32.toNatClampNeg ((36 * v2) + v3)))) v1 → (Y G [] ad0 M Q 157 (fun ad => [(0, .ref (ad (40, 0, 0))), (1, .int (v1 + 1)), (2, .int v2), (3, .int (v3 + 1))]) (fun ad => []) ρ6))))))))))))) : Y G [] ad0 M Q 157 (fun ad => [(0, .ref (ad (40, 0, 0))), (1, .int v1), (2, .int v2), (3, .int v3)]) (fun ad => []) ρ := by
  intro ad h hSt V
  show X G M Q 157 [(0, .ref (ad (40, 0, 0))), (1, .int v1), (2, .int v2), (3, .int v3)] [] h
  refine x_iload_n hM d_Mo_lay_157 rfl 3 rfl ?_
  refine x_iconst (v := 3) hM d_Mo_lay_158 (by decide) ?_
  refine x_aload_n hM d_Mo_lay_159 rfl 0 rfl ?_
  refine y_geti hG hM V ck_Mo 3 (Nat.le_of_ble_eq_true rfl) rfl rfl w_900 rfl d_Mo_lay_160 (40, 0, 0) rfl rfl ?_
  refine x_imul hM d_Mo_lay_163 ?_
  refine x_icmp_ge (tgt := 228) hM d_Mo_lay_164 (by decide) (fun q11 => ?_) (fun q11 => ?_)
  · replace F := F.1 q11
    refine x_iinc (v := (v2 + 1)) (lv2 := [(2, .int (v2 + 1)), (0, .ref (ad (40, 0, 0))), (1, .int v1), (3, .int v3)]) hM d_Mo_lay_228 (j := 2) rfl rfl (Nat.le_of_ble_eq_true rfl) rfl ?_
    refine x_goto (tgt := 147) hM d_Mo_lay_231 (by decide) ?_
    refine x_sub [1, 2, 0] rfl ?_
    exact F _ _ hSt V
  · replace F := F.2 q11
    refine x_aload_n hM d_Mo_lay_167 rfl 0 rfl ?_
    refine y_getr hG hM V ck_Mo 14 (Nat.le_of_ble_eq_true rfl) rfl rfl w_911 rfl d_Mo_lay_168 (40, 0, 0) (41, 14, 0) rfl rfl rfl ?_
    refine x_bipush (v := 36) hM d_Mo_lay_171 (by decide) ?_
    refine x_iload_n hM d_Mo_lay_173 rfl 2 rfl ?_
    refine x_imul hM d_Mo_lay_174 ?_
    refine x_iload_n hM d_Mo_lay_175 rfl 3 rfl ?_
    refine x_iadd hM d_Mo_lay_176 ?_
    obtain ⟨c2, F⟩ := F
    refine y_iaload hG hM V d_Mo_lay_177 (41, 14, 0) rfl rfl (by rw [vlen V (r := (41, 14, 0)) rfl rfl]; exact c2) ?_
    refine x_istore (lv2 := [(4, .int (iR ρ (41, 14, 0) (Int32.toNatClampNeg ((36 * v2) + v3)))), (0, .ref (ad (40, 0, 0))), (1, .int v1), (2, .int v2), (3, .int v3)]) hM d_Mo_lay_178 (Nat.le_of_ble_eq_true rfl) rfl ?_
    refine x_iload hM d_Mo_lay_180 0 rfl ?_
    refine x_iconst (v := (-1)) hM d_Mo_lay_182 (by decide) ?_
    refine x_icmp_eq (tgt := 222) hM d_Mo_lay_183 (by decide) (fun q10 => ?_) (fun q10 => ?_)
    · replace F := F.1 q10
      refine x_iinc (v := (v3 + 1)) (lv2 := [(3, .int (v3 + 1)), (4, .int (iR ρ (41, 14, 0) (Int32.toNatClampNeg ((36 * v2) + v3)))), (0, .ref (ad (40, 0, 0))), (1, .int v1), (2, .int v2)]) hM d_Mo_lay_222 (j := 4) rfl rfl (Nat.le_of_ble_eq_true rfl) rfl ?_
      refine x_goto (tgt := 157) hM d_Mo_lay_225 (by decide) ?_
      refine x_sub [2, 3, 4, 0] rfl ?_
      exact F _ _ hSt V
    · replace F := F.2 q10
      refine x_aload_n hM d_Mo_lay_186 rfl 1 rfl ?_
      refine y_getr hG hM V ck_Mo 17 (Nat.le_of_ble_eq_true rfl) rfl rfl w_914 rfl d_Mo_lay_187 (40, 0, 0) (41, 17, 0) rfl rfl rfl ?_
      refine x_iload_n hM d_Mo_lay_190 rfl 2 rfl ?_
      refine x_bipush (v := 36) hM d_Mo_lay_191 (by decide) ?_
      refine x_iload_n hM d_Mo_lay_193 rfl 3 rfl ?_
      refine x_imul hM d_Mo_lay_194 ?_
      refine x_iload_n hM d_Mo_lay_195 rfl 4 rfl ?_
      refine x_iadd hM d_Mo_lay_196 ?_
      obtain ⟨c9, F⟩ := F
      obtain ⟨ρ3, eρ3⟩ : ∃ z : Rs, z = pI ρ (41, 17, 0) (Int32.toNatClampNeg v1) ((36 * v2) + v3) := ⟨_, rfl⟩
      replace F := F ρ3 eρ3
      refine y_iastore hG hM V d_Mo_lay_197 (41, 17, 0) rfl rfl (by rw [vlen V (r := (41, 17, 0)) rfl rfl]; exact c9) (fun h V => ?_)
      rw [← eρ3] at V
      clear eρ3
      refine x_aload_n hM d_Mo_lay_198 rfl 1 rfl ?_
      refine y_getr hG hM V ck_Mo 18 (Nat.le_of_ble_eq_true rfl) rfl rfl w_915 rfl d_Mo_lay_199 (40, 0, 0) (41, 18, 0) rfl rfl rfl ?_
      refine x_iload_n hM d_Mo_lay_202 rfl 2 rfl ?_
      refine x_aload_n hM d_Mo_lay_203 rfl 1 rfl ?_
      refine y_getr hG hM V ck_Mo 16 (Nat.le_of_ble_eq_true rfl) rfl rfl w_913 rfl d_Mo_lay_204 (40, 0, 0) (41, 16, 0) rfl rfl rfl ?_
      refine x_iload hM d_Mo_lay_207 0 rfl ?_
      obtain ⟨c4, F⟩ := F
      refine y_iaload hG hM V d_Mo_lay_209 (41, 16, 0) rfl rfl (by rw [vlen V (r := (41, 16, 0)) rfl rfl]; exact c4) ?_
      obtain ⟨c8, F⟩ := F
      obtain ⟨ρ5, eρ5⟩ : ∃ z : Rs, z = pI ρ3 (41, 18, 0) (Int32.toNatClampNeg v1) (iR ρ3 (41, 16, 0) (Int32.toNatClampNeg (iR ρ (41, 14, 0) (Int32.toNatClampNeg ((36 * v2) + v3))))) := ⟨_, rfl⟩
      replace F := F ρ5 eρ5
      refine y_iastore hG hM V d_Mo_lay_210 (41, 18, 0) rfl rfl (by rw [vlen V (r := (41, 18, 0)) rfl rfl]; exact c8) (fun h V => ?_)
      rw [← eρ5] at V
      clear eρ5
      refine x_aload_n hM d_Mo_lay_211 rfl 1 rfl ?_
      refine y_getr hG hM V ck_Mo 16 (Nat.le_of_ble_eq_true rfl) rfl rfl w_913 rfl d_Mo_lay_212 (40, 0, 0) (41, 16, 0) rfl rfl rfl ?_
      refine x_iload hM d_Mo_lay_215 0 rfl ?_
      refine x_iload_n hM d_Mo_lay_217 rfl 2 rfl ?_
      obtain ⟨c7, F⟩ := F
      obtain ⟨ρ6, eρ6⟩ : ∃ z : Rs, z = pI ρ5 (41, 16, 0) (Int32.toNatClampNeg (iR ρ (41, 14, 0) (Int32.toNatClampNeg ((36 * v2) + v3)))) v1 := ⟨_, rfl⟩
      replace F := F ρ6 eρ6
      refine y_iastore hG hM V d_Mo_lay_218 (41, 16, 0) rfl rfl (by rw [vlen V (r := (41, 16, 0)) rfl rfl]; exact c7) (fun h V => ?_)
      rw [← eρ6] at V
      clear eρ6
      refine x_iinc (v := (v1 + 1)) (lv2 := [(1, .int (v1 + 1)), (4, .int (iR ρ (41, 14, 0) (Int32.toNatClampNeg ((36 * v2) + v3)))), (0, .ref (ad (40, 0, 0))), (2, .int v2), (3, .int v3)]) hM d_Mo_lay_219 (j := 2) rfl rfl (Nat.le_of_ble_eq_true rfl) rfl ?_
      refine x_iinc (v := (v3 + 1)) (lv2 := [(3, .int (v3 + 1)), (1, .int (v1 + 1)), (4, .int (iR ρ (41, 14, 0) (Int32.toNatClampNeg ((36 * v2) + v3)))), (0, .ref (ad (40, 0, 0))), (2, .int v2)]) hM d_Mo_lay_222 (j := 4) rfl rfl (Nat.le_of_ble_eq_true rfl) rfl ?_
      refine x_goto (tgt := 157) hM d_Mo_lay_225 (by decide) ?_
      refine x_sub [3, 1, 4, 0] rfl ?_
      exact F _ _ hSt V
set_option maxRecDepth 100000 in
set_option maxHeartbeats 4000000 in
theorem T_Mo_forward_0 {G : Gc} {M : Mc} {Q : State → Prop} {ad0 : Ro → Nat} {K : (Ro → Nat) → Option Value → Rs → Prop} (hG : gok G) (hM : mok G M r_Mo_forward Q (KV G [] ad0 K))  (ρ : Rs) (F : Y G [] ad0 M Q 2 (fun ad => [(0, .ref (ad (40, 0, 0))), (1, .int 0)]) (fun ad => []) ρ) : Y G [] ad0 M Q 0 (fun ad => [(0, .ref (ad (40, 0, 0)))]) (fun ad => []) ρ := by
  intro ad h hSt V
  show X G M Q 0 [(0, .ref (ad (40, 0, 0)))] [] h
  refine x_iconst (v := 0) hM d_Mo_forward_0 (by decide) ?_
  refine x_istore_n (lv2 := [(1, .int 0), (0, .ref (ad (40, 0, 0)))]) hM d_Mo_forward_1 rfl (Nat.le_of_ble_eq_true rfl) rfl ?_
  refine x_sub [1, 0] rfl ?_
  exact F _ _ hSt V
set_option maxRecDepth 100000 in
set_option maxHeartbeats 4000000 in
theorem T_Mo_forward_2 {G : Gc} {M : Mc} {Q : State → Prop} {ad0 : Ro → Nat} {K : (Ro → Nat) → Option Value → Rs → Prop} (hG : gok G) (hM : mok G M r_Mo_forward Q (KV G [] ad0 K)) (v1 : Int32) (ρ : Rs) (F : ((iR ρ (40, 0, 0) 13) ≤ v1 → (vp_in (iR ρ (40, 0, 0) 2) 4096 ∧ (∀ ρ1 : Rs, ρ1 = pI ρ (41, 19, 0) (Int32.toNatClampNeg (iR ρ (40, 0, 0) 2)) 0 → (vp_in 0 4096 ∧ (∀ ρ2 : Rs, ρ2 = pI ρ1 (41, 23, 0) (Int32.toNatClampNeg 0) (iR ρ1 (40, 0, 0) 2) → (Y G [] ad0 M Q 47 (fun ad => [(0, .ref (ad (40, 0, 0))), (1, .int 1), (2, .int 0)]) (fun ad => []) ρ2)))))) ∧ (¬ (iR ρ (40, 0, 0) 13) ≤ v1 → (vp_in v1 4096 ∧ (∀ ρ5 : Rs, ρ5 = pI ρ (41, 19, 0) (Int32.toNatClampNeg v1) (-1) → (Y G [] ad0 M Q 2 (fun ad => [(0, .ref (ad (40, 0, 0))), (1, .int (v1 + 1))]) (fun ad => []) ρ5))))) : Y G [] ad0 M Q 2 (fun ad => [(0, .ref (ad (40, 0, 0))), (1, .int v1)]) (fun ad => []) ρ := by
  intro ad h hSt V
  show X G M Q 2 [(0, .ref (ad (40, 0, 0))), (1, .int v1)] [] h
  refine x_iload_n hM d_Mo_forward_2 rfl 1 rfl ?_
  refine x_aload_n hM d_Mo_forward_3 rfl 0 rfl ?_
  refine y_geti hG hM V ck_Mo 13 (Nat.le_of_ble_eq_true rfl) rfl rfl w_910 rfl d_Mo_forward_4 (40, 0, 0) rfl rfl ?_
  refine x_icmp_ge (tgt := 23) hM d_Mo_forward_7 (by decide) (fun q7 => ?_) (fun q7 => ?_)
  · replace F := F.1 q7
    refine x_aload_n hM d_Mo_forward_23 rfl 0 rfl ?_
    refine y_getr hG hM V ck_Mo 19 (Nat.le_of_ble_eq_true rfl) rfl rfl w_916 rfl d_Mo_forward_24 (40, 0, 0) (41, 19, 0) rfl rfl rfl ?_
    refine x_aload_n hM d_Mo_forward_27 rfl 0 rfl ?_
    refine y_geti hG hM V ck_Mo 2 (Nat.le_of_ble_eq_true rfl) rfl rfl w_899 rfl d_Mo_forward_28 (40, 0, 0) rfl rfl ?_
    refine x_iconst (v := 0) hM d_Mo_forward_31 (by decide) ?_
    obtain ⟨c4, F⟩ := F
    obtain ⟨ρ1, eρ1⟩ : ∃ z : Rs, z = pI ρ (41, 19, 0) (Int32.toNatClampNeg (iR ρ (40, 0, 0) 2)) 0 := ⟨_, rfl⟩
    replace F := F ρ1 eρ1
    refine y_iastore hG hM V d_Mo_forward_32 (41, 19, 0) rfl rfl (by rw [vlen V (r := (41, 19, 0)) rfl rfl]; exact c4) (fun h V => ?_)
    rw [← eρ1] at V
    clear eρ1
    refine x_aload_n hM d_Mo_forward_33 rfl 0 rfl ?_
    refine y_getr hG hM V ck_Mo 23 (Nat.le_of_ble_eq_true rfl) rfl rfl w_920 rfl d_Mo_forward_34 (40, 0, 0) (41, 23, 0) rfl rfl rfl ?_
    refine x_iconst (v := 0) hM d_Mo_forward_37 (by decide) ?_
    refine x_aload_n hM d_Mo_forward_38 rfl 0 rfl ?_
    refine y_geti hG hM V ck_Mo 2 (Nat.le_of_ble_eq_true rfl) rfl rfl w_899 rfl d_Mo_forward_39 (40, 0, 0) rfl rfl ?_
    obtain ⟨c3, F⟩ := F
    obtain ⟨ρ2, eρ2⟩ : ∃ z : Rs, z = pI ρ1 (41, 23, 0) (Int32.toNatClampNeg 0) (iR ρ1 (40, 0, 0) 2) := ⟨_, rfl⟩
    replace F := F ρ2 eρ2
    refine y_iastore hG hM V d_Mo_forward_42 (41, 23, 0) rfl rfl (by rw [vlen V (r := (41, 23, 0)) rfl rfl]; exact c3) (fun h V => ?_)
    rw [← eρ2] at V
    clear eρ2
    refine x_iconst (v := 1) hM d_Mo_forward_43 (by decide) ?_
    refine x_istore_n (lv2 := [(1, .int 1), (0, .ref (ad (40, 0, 0)))]) hM d_Mo_forward_44 rfl (Nat.le_of_ble_eq_true rfl) rfl ?_
    refine x_iconst (v := 0) hM d_Mo_forward_45 (by decide) ?_
    refine x_istore_n (lv2 := [(2, .int 0), (1, .int 1), (0, .ref (ad (40, 0, 0)))]) hM d_Mo_forward_46 rfl (Nat.le_of_ble_eq_true rfl) rfl ?_
    refine x_sub [2, 1, 0] rfl ?_
    exact F _ _ hSt V
  · replace F := F.2 q7
    refine x_aload_n hM d_Mo_forward_10 rfl 0 rfl ?_
    refine y_getr hG hM V ck_Mo 19 (Nat.le_of_ble_eq_true rfl) rfl rfl w_916 rfl d_Mo_forward_11 (40, 0, 0) (41, 19, 0) rfl rfl rfl ?_
    refine x_iload_n hM d_Mo_forward_14 rfl 1 rfl ?_
    refine x_iconst (v := (-1)) hM d_Mo_forward_15 (by decide) ?_
    obtain ⟨c6, F⟩ := F
    obtain ⟨ρ5, eρ5⟩ : ∃ z : Rs, z = pI ρ (41, 19, 0) (Int32.toNatClampNeg v1) (-1) := ⟨_, rfl⟩
    replace F := F ρ5 eρ5
    refine y_iastore hG hM V d_Mo_forward_16 (41, 19, 0) rfl rfl (by rw [vlen V (r := (41, 19, 0)) rfl rfl]; exact c6) (fun h V => ?_)
    rw [← eρ5] at V
    clear eρ5
    refine x_iinc (v := (v1 + 1)) (lv2 := [(1, .int (v1 + 1)), (0, .ref (ad (40, 0, 0)))]) hM d_Mo_forward_17 (j := 1) rfl rfl (Nat.le_of_ble_eq_true rfl) rfl ?_
    refine x_goto (tgt := 2) hM d_Mo_forward_20 (by decide) ?_
    refine x_sub [1, 0] rfl ?_
    exact F _ _ hSt V
set_option maxRecDepth 100000 in
set_option maxHeartbeats 4000000 in
theorem T_Mo_forward_47 {G : Gc} {M : Mc} {Q : State → Prop} {ad0 : Ro → Nat} {K : (Ro → Nat) → Option Value → Rs → Prop} (hG : gok G) (hM : mok G M r_Mo_forward Q (KV G [] ad0 K)) (v1 : Int32) (v2 : Int32) (ρ : Rs) (F : (v1 ≤ v2 → (∀ ad, K ad none ρ)) ∧ (¬ v1 ≤ v2 → (vp_in v2 4096 ∧ (Y G [] ad0 M Q 62 (fun ad => [(0, .ref (ad (40, 0, 0))), (1, .int v1), (2, .int v2), (3, .int (iR ρ (41, 23, 0) (Int32.toNatClampNeg v2))), (4, .int 0)]) (fun ad => []) ρ)))) : Y G [] ad0 M Q 47 (fun ad => [(0, .ref (ad (40, 0, 0))), (1, .int v1), (2, .int v2)]) (fun ad => []) ρ := by
  intro ad h hSt V
  show X G M Q 47 [(0, .ref (ad (40, 0, 0))), (1, .int v1), (2, .int v2)] [] h
  refine x_iload_n hM d_Mo_forward_47 rfl 2 rfl ?_
  refine x_iload_n hM d_Mo_forward_48 rfl 1 rfl ?_
  refine x_icmp_ge (tgt := 142) hM d_Mo_forward_49 (by decide) (fun q3 => ?_) (fun q3 => ?_)
  · replace F := F.1 q3
    exact x_return hM d_Mo_forward_142 rfl (y_end V hSt (F _))
  · replace F := F.2 q3
    refine x_aload_n hM d_Mo_forward_52 rfl 0 rfl ?_
    refine y_getr hG hM V ck_Mo 23 (Nat.le_of_ble_eq_true rfl) rfl rfl w_920 rfl d_Mo_forward_53 (40, 0, 0) (41, 23, 0) rfl rfl rfl ?_
    refine x_iload_n hM d_Mo_forward_56 rfl 2 rfl ?_
    obtain ⟨c2, F⟩ := F
    refine y_iaload hG hM V d_Mo_forward_57 (41, 23, 0) rfl rfl (by rw [vlen V (r := (41, 23, 0)) rfl rfl]; exact c2) ?_
    refine x_istore_n (lv2 := [(3, .int (iR ρ (41, 23, 0) (Int32.toNatClampNeg v2))), (0, .ref (ad (40, 0, 0))), (1, .int v1), (2, .int v2)]) hM d_Mo_forward_58 rfl (Nat.le_of_ble_eq_true rfl) rfl ?_
    refine x_iconst (v := 0) hM d_Mo_forward_59 (by decide) ?_
    refine x_istore (lv2 := [(4, .int 0), (3, .int (iR ρ (41, 23, 0) (Int32.toNatClampNeg v2))), (0, .ref (ad (40, 0, 0))), (1, .int v1), (2, .int v2)]) hM d_Mo_forward_60 (Nat.le_of_ble_eq_true rfl) rfl ?_
    refine x_sub [2, 3, 4, 1, 0] rfl ?_
    exact F _ _ hSt V
set_option maxRecDepth 100000 in
set_option maxHeartbeats 4000000 in
theorem T_Mo_forward_62 {G : Gc} {M : Mc} {Q : State → Prop} {ad0 : Ro → Nat} {K : (Ro → Nat) → Option Value → Rs → Prop} (hG : gok G) (hM : mok G M r_Mo_forward Q (KV G [] ad0 K)) (v1 : Int32) (v2 : Int32) (v3 : Int32) (v4 : Int32) (ρ : Rs) (F : ((3 * (iR ρ (40, 0, 0) 3)) ≤ v4 → (Y G [] ad0 M Q 47 (fun ad => [(0, .ref (ad (40, 0, 0))), (1, .int v1), (2, .int (v2 + 1))]) (fun ad => []) ρ)) ∧ (¬ (3 * (iR ρ (40, 0, 0) 3)) ≤ v4 → (vp_in ((36 * v3) + v4) 147456 ∧ (((iR ρ (41, 14, 0) (Int32.toNatClampNeg ((36 * v3) + v4))) = (-1) → (Y G [] ad0 M Q 62 (fun ad => [(0, .ref (ad (40, 0, 0))), (1, .int v1), (2, .int v2), (3, .int v3), (4, .int (v4 + 1))]) (fun ad => []) ρ)) ∧ (¬ (iR ρ (41, 14, 0) (Int32.toNatClampNeg ((36 * v3) + v4))) = (-1) → (vp_in (iR ρ (41, 14, 0) (Int32.toNatClampNeg ((36 * v3) + v4))) 4096 ∧ (((iR ρ (41, 19, 0) (Int32.toNatClampNeg (iR ρ (41, 14, 0) (Int32.toNatClampNeg ((36 * v3) + v4))))) = (-1) → (vp_in v3 4096 ∧ (vp_in (iR ρ (41, 14, 0) (Int32.toNatClampNeg ((36 * v3) + v4))) 4096 ∧ (∀ ρ8 : Rs, ρ8 = pI ρ (41, 19, 0) (Int32.toNatClampNeg (iR ρ (41, 14, 0) (Int32.toNatClampNeg ((36 * v3) + v4)))) ((iR ρ (41, 19, 0) (Int32.toNatClampNeg v3)) + 1) → (vp_in v1 4096 ∧ (∀ ρ9 : Rs, ρ9 = pI ρ8 (41, 23, 0) (Int32.toNatClampNeg v1) (iR ρ (41, 14, 0) (Int32.toNatClampNeg ((36 * v3) + v4))) → (Y G [] ad0 M Q 62 (fun ad => [(0, .ref (ad (40, 0, 0))), (1, .int (v1 + 1)), (2, .int v2), (3, .int v3), (4, .int (v4 + 1))]) (fun ad => []) ρ9))))))) ∧ (¬ (iR ρ (41, 19, 0) (Int32.toNatClampNeg (iR ρ (41, 14, 0) (Int32.toNatClampNeg ((36 * v3) + v4))))) = (-1) → (Y G [] ad0 M Q 62 (fun ad => [(0, .ref (ad (40, 0, 0))), (1, .int v1), (2, .int v2), (3, .int v3), (4, .int (v4 + 1))]) (fun ad => []) ρ))))))))) : Y G [] ad0 M Q 62 (fun ad => [(0, .ref (ad (40, 0, 0))), (1, .int v1), (2, .int v2), (3, .int v3), (4, .int v4)]) (fun ad => []) ρ := by
  intro ad h hSt V
  show X G M Q 62 [(0, .ref (ad (40, 0, 0))), (1, .int v1), (2, .int v2), (3, .int v3), (4, .int v4)] [] h
  refine x_iload hM d_Mo_forward_62 4 rfl ?_
  refine x_iconst (v := 3) hM d_Mo_forward_64 (by decide) ?_
  refine x_aload_n hM d_Mo_forward_65 rfl 0 rfl ?_
  refine y_geti hG hM V ck_Mo 3 (Nat.le_of_ble_eq_true rfl) rfl rfl w_900 rfl d_Mo_forward_66 (40, 0, 0) rfl rfl ?_
  refine x_imul hM d_Mo_forward_69 ?_
  refine x_icmp_ge (tgt := 136) hM d_Mo_forward_70 (by decide) (fun q14 => ?_) (fun q14 => ?_)
  · replace F := F.1 q14
    refine x_iinc (v := (v2 + 1)) (lv2 := [(2, .int (v2 + 1)), (0, .ref (ad (40, 0, 0))), (1, .int v1), (3, .int v3), (4, .int v4)]) hM d_Mo_forward_136 (j := 2) rfl rfl (Nat.le_of_ble_eq_true rfl) rfl ?_
    refine x_goto (tgt := 47) hM d_Mo_forward_139 (by decide) ?_
    refine x_sub [1, 2, 0] rfl ?_
    exact F _ _ hSt V
  · replace F := F.2 q14
    refine x_aload_n hM d_Mo_forward_73 rfl 0 rfl ?_
    refine y_getr hG hM V ck_Mo 14 (Nat.le_of_ble_eq_true rfl) rfl rfl w_911 rfl d_Mo_forward_74 (40, 0, 0) (41, 14, 0) rfl rfl rfl ?_
    refine x_bipush (v := 36) hM d_Mo_forward_77 (by decide) ?_
    refine x_iload_n hM d_Mo_forward_79 rfl 3 rfl ?_
    refine x_imul hM d_Mo_forward_80 ?_
    refine x_iload hM d_Mo_forward_81 4 rfl ?_
    refine x_iadd hM d_Mo_forward_83 ?_
    obtain ⟨c2, F⟩ := F
    refine y_iaload hG hM V d_Mo_forward_84 (41, 14, 0) rfl rfl (by rw [vlen V (r := (41, 14, 0)) rfl rfl]; exact c2) ?_
    refine x_istore (lv2 := [(5, .int (iR ρ (41, 14, 0) (Int32.toNatClampNeg ((36 * v3) + v4)))), (0, .ref (ad (40, 0, 0))), (1, .int v1), (2, .int v2), (3, .int v3), (4, .int v4)]) hM d_Mo_forward_85 (Nat.le_of_ble_eq_true rfl) rfl ?_
    refine x_iload hM d_Mo_forward_87 0 rfl ?_
    refine x_iconst (v := (-1)) hM d_Mo_forward_89 (by decide) ?_
    refine x_icmp_eq (tgt := 130) hM d_Mo_forward_90 (by decide) (fun q13 => ?_) (fun q13 => ?_)
    · replace F := F.1 q13
      refine x_iinc (v := (v4 + 1)) (lv2 := [(4, .int (v4 + 1)), (5, .int (iR ρ (41, 14, 0) (Int32.toNatClampNeg ((36 * v3) + v4)))), (0, .ref (ad (40, 0, 0))), (1, .int v1), (2, .int v2), (3, .int v3)]) hM d_Mo_forward_130 (j := 5) rfl rfl (Nat.le_of_ble_eq_true rfl) rfl ?_
      refine x_goto (tgt := 62) hM d_Mo_forward_133 (by decide) ?_
      refine x_sub [2, 3, 4, 5, 0] rfl ?_
      exact F _ _ hSt V
    · replace F := F.2 q13
      refine x_aload_n hM d_Mo_forward_93 rfl 1 rfl ?_
      refine y_getr hG hM V ck_Mo 19 (Nat.le_of_ble_eq_true rfl) rfl rfl w_916 rfl d_Mo_forward_94 (40, 0, 0) (41, 19, 0) rfl rfl rfl ?_
      refine x_iload hM d_Mo_forward_97 0 rfl ?_
      obtain ⟨c5, F⟩ := F
      refine y_iaload hG hM V d_Mo_forward_99 (41, 19, 0) rfl rfl (by rw [vlen V (r := (41, 19, 0)) rfl rfl]; exact c5) ?_
      refine x_iconst (v := (-1)) hM d_Mo_forward_100 (by decide) ?_
      refine x_icmp_ne (tgt := 130) hM d_Mo_forward_101 (by decide) (fun q12 => ?_) (fun q12 => ?_)
      · replace F := F.2 q12
        refine x_iinc (v := (v4 + 1)) (lv2 := [(4, .int (v4 + 1)), (5, .int (iR ρ (41, 14, 0) (Int32.toNatClampNeg ((36 * v3) + v4)))), (0, .ref (ad (40, 0, 0))), (1, .int v1), (2, .int v2), (3, .int v3)]) hM d_Mo_forward_130 (j := 5) rfl rfl (Nat.le_of_ble_eq_true rfl) rfl ?_
        refine x_goto (tgt := 62) hM d_Mo_forward_133 (by decide) ?_
        refine x_sub [2, 3, 4, 5, 0] rfl ?_
        exact F _ _ hSt V
      · replace F := F.1 q12
        refine x_aload_n hM d_Mo_forward_104 rfl 1 rfl ?_
        refine y_getr hG hM V ck_Mo 19 (Nat.le_of_ble_eq_true rfl) rfl rfl w_916 rfl d_Mo_forward_105 (40, 0, 0) (41, 19, 0) rfl rfl rfl ?_
        refine x_iload hM d_Mo_forward_108 0 rfl ?_
        refine x_aload_n hM d_Mo_forward_110 rfl 1 rfl ?_
        refine y_getr hG hM V ck_Mo 19 (Nat.le_of_ble_eq_true rfl) rfl rfl w_916 rfl d_Mo_forward_111 (40, 0, 0) (41, 19, 0) rfl rfl rfl ?_
        refine x_iload_n hM d_Mo_forward_114 rfl 4 rfl ?_
        obtain ⟨c7, F⟩ := F
        refine y_iaload hG hM V d_Mo_forward_115 (41, 19, 0) rfl rfl (by rw [vlen V (r := (41, 19, 0)) rfl rfl]; exact c7) ?_
        refine x_iconst (v := 1) hM d_Mo_forward_116 (by decide) ?_
        refine x_iadd hM d_Mo_forward_117 ?_
        obtain ⟨c11, F⟩ := F
        obtain ⟨ρ8, eρ8⟩ : ∃ z : Rs, z = pI ρ (41, 19, 0) (Int32.toNatClampNeg (iR ρ (41, 14, 0) (Int32.toNatClampNeg ((36 * v3) + v4)))) ((iR ρ (41, 19, 0) (Int32.toNatClampNeg v3)) + 1) := ⟨_, rfl⟩
        replace F := F ρ8 eρ8
        refine y_iastore hG hM V d_Mo_forward_118 (41, 19, 0) rfl rfl (by rw [vlen V (r := (41, 19, 0)) rfl rfl]; exact c11) (fun h V => ?_)
        rw [← eρ8] at V
        clear eρ8
        refine x_aload_n hM d_Mo_forward_119 rfl 1 rfl ?_
        refine y_getr hG hM V ck_Mo 23 (Nat.le_of_ble_eq_true rfl) rfl rfl w_920 rfl d_Mo_forward_120 (40, 0, 0) (41, 23, 0) rfl rfl rfl ?_
        refine x_iload_n hM d_Mo_forward_123 rfl 2 rfl ?_
        refine x_iload hM d_Mo_forward_124 0 rfl ?_
        obtain ⟨c10, F⟩ := F
        obtain ⟨ρ9, eρ9⟩ : ∃ z : Rs, z = pI ρ8 (41, 23, 0) (Int32.toNatClampNeg v1) (iR ρ (41, 14, 0) (Int32.toNatClampNeg ((36 * v3) + v4))) := ⟨_, rfl⟩
        replace F := F ρ9 eρ9
        refine y_iastore hG hM V d_Mo_forward_126 (41, 23, 0) rfl rfl (by rw [vlen V (r := (41, 23, 0)) rfl rfl]; exact c10) (fun h V => ?_)
        rw [← eρ9] at V
        clear eρ9
        refine x_iinc (v := (v1 + 1)) (lv2 := [(1, .int (v1 + 1)), (5, .int (iR ρ (41, 14, 0) (Int32.toNatClampNeg ((36 * v3) + v4)))), (0, .ref (ad (40, 0, 0))), (2, .int v2), (3, .int v3), (4, .int v4)]) hM d_Mo_forward_127 (j := 2) rfl rfl (Nat.le_of_ble_eq_true rfl) rfl ?_
        refine x_iinc (v := (v4 + 1)) (lv2 := [(4, .int (v4 + 1)), (1, .int (v1 + 1)), (5, .int (iR ρ (41, 14, 0) (Int32.toNatClampNeg ((36 * v3) + v4)))), (0, .ref (ad (40, 0, 0))), (2, .int v2), (3, .int v3)]) hM d_Mo_forward_130 (j := 5) rfl rfl (Nat.le_of_ble_eq_true rfl) rfl ?_
        refine x_goto (tgt := 62) hM d_Mo_forward_133 (by decide) ?_
        refine x_sub [3, 1, 4, 5, 0] rfl ?_
        exact F _ _ hSt V
set_option maxRecDepth 100000 in
set_option maxHeartbeats 4000000 in
theorem T_Mo_backward_0 {G : Gc} {M : Mc} {Q : State → Prop} {ad0 : Ro → Nat} {K : (Ro → Nat) → Option Value → Rs → Prop} (hG : gok G) (hM : mok G M r_Mo_backward Q (KV G [] ad0 K))  (ρ : Rs) (F : semV G r_Mo_aims [] (fun ad => [.ref (ad (40, 0, 0)), .ref (ad (41, 20, 0))]) ρ (fun ad u2 ρ1 => ∃ x4 : Int32, u2 = some (.int x4) ∧ (Y G [] ad0 M Q 11 (fun ad => [(0, .ref (ad (40, 0, 0))), (1, .int x4), (2, .int 0)]) (fun ad => []) ρ1))) : Y G [] ad0 M Q 0 (fun ad => [(0, .ref (ad (40, 0, 0)))]) (fun ad => []) ρ := by
  intro ad h hSt V
  show X G M Q 0 [(0, .ref (ad (40, 0, 0)))] [] h
  refine x_aload_n hM d_Mo_backward_0 rfl 0 rfl ?_
  refine x_aload_n hM d_Mo_backward_1 rfl 0 rfl ?_
  refine y_getr hG hM V ck_Mo 20 (Nat.le_of_ble_eq_true rfl) rfl rfl w_917 rfl d_Mo_backward_2 (40, 0, 0) (41, 20, 0) rfl rfl rfl ?_
  refine x_callV hG hM (r' := r_Mo_aims) (ci := 11) [.ref (ad (41, 20, 0))] rfl rfl (Nat.le_of_ble_eq_true rfl) yk_Mo_aims ⟨Nat.le_of_ble_eq_true rfl, Nat.le_of_ble_eq_true rfl⟩ w_1124 w_1126 ws_Mo_aims rfl rfl (Nat.le_of_ble_eq_true rfl) d_Mo_backward_5 (by rw [vT V rfl]; rfl) (sem_mono (F _ _ V) ?_)
  intro u2 h F
  obtain ⟨ad5, ρ1, V, hs3, F⟩ := F
  obtain ⟨x4, rfl, F⟩ := F
  have hs3 := (St_eq hs3).symm
  subst hs3
  refine x_istore_n (lv2 := [(1, .int x4), (0, .ref (ad (40, 0, 0)))]) hM d_Mo_backward_8 rfl (Nat.le_of_ble_eq_true rfl) rfl ?_
  refine x_iconst (v := 0) hM d_Mo_backward_9 (by decide) ?_
  refine x_istore_n (lv2 := [(2, .int 0), (1, .int x4), (0, .ref (ad (40, 0, 0)))]) hM d_Mo_backward_10 rfl (Nat.le_of_ble_eq_true rfl) rfl ?_
  refine x_sub [2, 1, 0] rfl ?_
  exact F _ _ hSt V
set_option maxRecDepth 100000 in
set_option maxHeartbeats 4000000 in
theorem T_Mo_backward_11 {G : Gc} {M : Mc} {Q : State → Prop} {ad0 : Ro → Nat} {K : (Ro → Nat) → Option Value → Rs → Prop} (hG : gok G) (hM : mok G M r_Mo_backward Q (KV G [] ad0 K)) (v1 : Int32) (v2 : Int32) (ρ : Rs) (F : (v1 ≤ v2 → (∀ ad, K ad none ρ)) ∧ (¬ v1 ≤ v2 → (vp_in v2 4096 ∧ (vp_in (iR ρ (41, 23, 0) (Int32.toNatClampNeg v2)) 4096 ∧ (Y G [] ad0 M Q 28 (fun ad => [(0, .ref (ad (40, 0, 0))), (1, .int v1), (2, .int v2), (3, .int (iR ρ (41, 16, 0) (Int32.toNatClampNeg (iR ρ (41, 23, 0) (Int32.toNatClampNeg v2)))))]) (fun ad => []) ρ))))) : Y G [] ad0 M Q 11 (fun ad => [(0, .ref (ad (40, 0, 0))), (1, .int v1), (2, .int v2)]) (fun ad => []) ρ := by
  intro ad h hSt V
  show X G M Q 11 [(0, .ref (ad (40, 0, 0))), (1, .int v1), (2, .int v2)] [] h
  refine x_iload_n hM d_Mo_backward_11 rfl 2 rfl ?_
  refine x_iload_n hM d_Mo_backward_12 rfl 1 rfl ?_
  refine x_icmp_ge (tgt := 102) hM d_Mo_backward_13 (by decide) (fun q5 => ?_) (fun q5 => ?_)
  · replace F := F.1 q5
    exact x_return hM d_Mo_backward_102 rfl (y_end V hSt (F _))
  · replace F := F.2 q5
    refine x_aload_n hM d_Mo_backward_16 rfl 0 rfl ?_
    refine y_getr hG hM V ck_Mo 16 (Nat.le_of_ble_eq_true rfl) rfl rfl w_913 rfl d_Mo_backward_17 (40, 0, 0) (41, 16, 0) rfl rfl rfl ?_
    refine x_aload_n hM d_Mo_backward_20 rfl 0 rfl ?_
    refine y_getr hG hM V ck_Mo 23 (Nat.le_of_ble_eq_true rfl) rfl rfl w_920 rfl d_Mo_backward_21 (40, 0, 0) (41, 23, 0) rfl rfl rfl ?_
    refine x_iload_n hM d_Mo_backward_24 rfl 2 rfl ?_
    obtain ⟨c3, F⟩ := F
    refine y_iaload hG hM V d_Mo_backward_25 (41, 23, 0) rfl rfl (by rw [vlen V (r := (41, 23, 0)) rfl rfl]; exact c3) ?_
    obtain ⟨c4, F⟩ := F
    refine y_iaload hG hM V d_Mo_backward_26 (41, 16, 0) rfl rfl (by rw [vlen V (r := (41, 16, 0)) rfl rfl]; exact c4) ?_
    refine x_istore_n (lv2 := [(3, .int (iR ρ (41, 16, 0) (Int32.toNatClampNeg (iR ρ (41, 23, 0) (Int32.toNatClampNeg v2))))), (0, .ref (ad (40, 0, 0))), (1, .int v1), (2, .int v2)]) hM d_Mo_backward_27 rfl (Nat.le_of_ble_eq_true rfl) rfl ?_
    refine x_sub [1, 2, 3, 0] rfl ?_
    exact F _ _ hSt V
set_option maxRecDepth 100000 in
set_option maxHeartbeats 4000000 in
theorem T_Mo_backward_28 {G : Gc} {M : Mc} {Q : State → Prop} {ad0 : Ro → Nat} {K : (Ro → Nat) → Option Value → Rs → Prop} (hG : gok G) (hM : mok G M r_Mo_backward Q (KV G [] ad0 K)) (v1 : Int32) (v2 : Int32) (v3 : Int32) (ρ : Rs) (F : (v3 = (-1) → (Y G [] ad0 M Q 11 (fun ad => [(0, .ref (ad (40, 0, 0))), (1, .int v1), (2, .int (v2 + 1))]) (fun ad => []) ρ)) ∧ (¬ v3 = (-1) → (vp_in v3 147456 ∧ (vp_in ((iR ρ (41, 17, 0) (Int32.toNatClampNeg v3)) / 36) 4096 ∧ (((iR ρ (41, 20, 0) (Int32.toNatClampNeg ((iR ρ (41, 17, 0) (Int32.toNatClampNeg v3)) / 36))) = (-1) → (vp_in v2 4096 ∧ (vp_in (iR ρ (41, 23, 0) (Int32.toNatClampNeg v2)) 4096 ∧ (vp_in ((iR ρ (41, 17, 0) (Int32.toNatClampNeg v3)) / 36) 4096 ∧ (∀ ρ11 : Rs, ρ11 = pI ρ (41, 20, 0) (Int32.toNatClampNeg ((iR ρ (41, 17, 0) (Int32.toNatClampNeg v3)) / 36)) ((iR ρ (41, 20, 0) (Int32.toNatClampNeg (iR ρ (41, 23, 0) (Int32.toNatClampNeg v2)))) + 1) → (vp_in v1 4096 ∧ (∀ ρ12 : Rs, ρ12 = pI ρ11 (41, 23, 0) (Int32.toNatClampNeg v1) ((iR ρ (41, 17, 0) (Int32.toNatClampNeg v3)) / 36) → (vp_in v3 147456 ∧ (Y G [] ad0 M Q 28 (fun ad => [(0, .ref (ad (40, 0, 0))), (1, .int (v1 + 1)), (2, .int v2), (3, .int (iR ρ12 (41, 18, 0) (Int32.toNatClampNeg v3)))]) (fun ad => []) ρ12))))))))) ∧ (¬ (iR ρ (41, 20, 0) (Int32.toNatClampNeg ((iR ρ (41, 17, 0) (Int32.toNatClampNeg v3)) / 36))) = (-1) → (vp_in v3 147456 ∧ (Y G [] ad0 M Q 28 (fun ad => [(0, .ref (ad (40, 0, 0))), (1, .int v1), (2, .int v2), (3, .int (iR ρ (41, 18, 0) (Int32.toNatClampNeg v3)))]) (fun ad => []) ρ)))))))) : Y G [] ad0 M Q 28 (fun ad => [(0, .ref (ad (40, 0, 0))), (1, .int v1), (2, .int v2), (3, .int v3)]) (fun ad => []) ρ := by
  intro ad h hSt V
  show X G M Q 28 [(0, .ref (ad (40, 0, 0))), (1, .int v1), (2, .int v2), (3, .int v3)] [] h
  refine x_iload_n hM d_Mo_backward_28 rfl 3 rfl ?_
  refine x_iconst (v := (-1)) hM d_Mo_backward_29 (by decide) ?_
  refine x_icmp_eq (tgt := 96) hM d_Mo_backward_30 (by decide) (fun q17 => ?_) (fun q17 => ?_)
  · replace F := F.1 q17
    refine x_iinc (v := (v2 + 1)) (lv2 := [(2, .int (v2 + 1)), (0, .ref (ad (40, 0, 0))), (1, .int v1), (3, .int v3)]) hM d_Mo_backward_96 (j := 2) rfl rfl (Nat.le_of_ble_eq_true rfl) rfl ?_
    refine x_goto (tgt := 11) hM d_Mo_backward_99 (by decide) ?_
    refine x_sub [1, 2, 0] rfl ?_
    exact F _ _ hSt V
  · replace F := F.2 q17
    refine x_aload_n hM d_Mo_backward_33 rfl 0 rfl ?_
    refine y_getr hG hM V ck_Mo 17 (Nat.le_of_ble_eq_true rfl) rfl rfl w_914 rfl d_Mo_backward_34 (40, 0, 0) (41, 17, 0) rfl rfl rfl ?_
    refine x_iload_n hM d_Mo_backward_37 rfl 3 rfl ?_
    obtain ⟨c4, F⟩ := F
    refine y_iaload hG hM V d_Mo_backward_38 (41, 17, 0) rfl rfl (by rw [vlen V (r := (41, 17, 0)) rfl rfl]; exact c4) ?_
    refine x_bipush (v := 36) hM d_Mo_backward_39 (by decide) ?_
    refine x_idiv hM d_Mo_backward_41 (by decide) ?_
    refine x_istore (lv2 := [(4, .int ((iR ρ (41, 17, 0) (Int32.toNatClampNeg v3)) / 36)), (0, .ref (ad (40, 0, 0))), (1, .int v1), (2, .int v2), (3, .int v3)]) hM d_Mo_backward_42 (Nat.le_of_ble_eq_true rfl) rfl ?_
    refine x_aload_n hM d_Mo_backward_44 rfl 1 rfl ?_
    refine y_getr hG hM V ck_Mo 20 (Nat.le_of_ble_eq_true rfl) rfl rfl w_917 rfl d_Mo_backward_45 (40, 0, 0) (41, 20, 0) rfl rfl rfl ?_
    refine x_iload hM d_Mo_backward_48 0 rfl ?_
    obtain ⟨c5, F⟩ := F
    refine y_iaload hG hM V d_Mo_backward_50 (41, 20, 0) rfl rfl (by rw [vlen V (r := (41, 20, 0)) rfl rfl]; exact c5) ?_
    refine x_iconst (v := (-1)) hM d_Mo_backward_51 (by decide) ?_
    refine x_icmp_ne (tgt := 86) hM d_Mo_backward_52 (by decide) (fun q16 => ?_) (fun q16 => ?_)
    · replace F := F.2 q16
      refine x_aload_n hM d_Mo_backward_86 rfl 1 rfl ?_
      refine y_getr hG hM V ck_Mo 18 (Nat.le_of_ble_eq_true rfl) rfl rfl w_915 rfl d_Mo_backward_87 (40, 0, 0) (41, 18, 0) rfl rfl rfl ?_
      refine x_iload_n hM d_Mo_backward_90 rfl 4 rfl ?_
      obtain ⟨c8, F⟩ := F
      refine y_iaload hG hM V d_Mo_backward_91 (41, 18, 0) rfl rfl (by rw [vlen V (r := (41, 18, 0)) rfl rfl]; exact c8) ?_
      refine x_istore_n (lv2 := [(3, .int (iR ρ (41, 18, 0) (Int32.toNatClampNeg v3))), (4, .int ((iR ρ (41, 17, 0) (Int32.toNatClampNeg v3)) / 36)), (0, .ref (ad (40, 0, 0))), (1, .int v1), (2, .int v2)]) hM d_Mo_backward_92 rfl (Nat.le_of_ble_eq_true rfl) rfl ?_
      refine x_goto (tgt := 28) hM d_Mo_backward_93 (by decide) ?_
      refine x_sub [2, 3, 4, 0] rfl ?_
      exact F _ _ hSt V
    · replace F := F.1 q16
      refine x_aload_n hM d_Mo_backward_55 rfl 1 rfl ?_
      refine y_getr hG hM V ck_Mo 20 (Nat.le_of_ble_eq_true rfl) rfl rfl w_917 rfl d_Mo_backward_56 (40, 0, 0) (41, 20, 0) rfl rfl rfl ?_
      refine x_iload hM d_Mo_backward_59 0 rfl ?_
      refine x_aload_n hM d_Mo_backward_61 rfl 1 rfl ?_
      refine y_getr hG hM V ck_Mo 20 (Nat.le_of_ble_eq_true rfl) rfl rfl w_917 rfl d_Mo_backward_62 (40, 0, 0) (41, 20, 0) rfl rfl rfl ?_
      refine x_aload_n hM d_Mo_backward_65 rfl 1 rfl ?_
      refine y_getr hG hM V ck_Mo 23 (Nat.le_of_ble_eq_true rfl) rfl rfl w_920 rfl d_Mo_backward_66 (40, 0, 0) (41, 23, 0) rfl rfl rfl ?_
      refine x_iload_n hM d_Mo_backward_69 rfl 3 rfl ?_
      obtain ⟨c9, F⟩ := F
      refine y_iaload hG hM V d_Mo_backward_70 (41, 23, 0) rfl rfl (by rw [vlen V (r := (41, 23, 0)) rfl rfl]; exact c9) ?_
      obtain ⟨c10, F⟩ := F
      refine y_iaload hG hM V d_Mo_backward_71 (41, 20, 0) rfl rfl (by rw [vlen V (r := (41, 20, 0)) rfl rfl]; exact c10) ?_
      refine x_iconst (v := 1) hM d_Mo_backward_72 (by decide) ?_
      refine x_iadd hM d_Mo_backward_73 ?_
      obtain ⟨c15, F⟩ := F
      obtain ⟨ρ11, eρ11⟩ : ∃ z : Rs, z = pI ρ (41, 20, 0) (Int32.toNatClampNeg ((iR ρ (41, 17, 0) (Int32.toNatClampNeg v3)) / 36)) ((iR ρ (41, 20, 0) (Int32.toNatClampNeg (iR ρ (41, 23, 0) (Int32.toNatClampNeg v2)))) + 1) := ⟨_, rfl⟩
      replace F := F ρ11 eρ11
      refine y_iastore hG hM V d_Mo_backward_74 (41, 20, 0) rfl rfl (by rw [vlen V (r := (41, 20, 0)) rfl rfl]; exact c15) (fun h V => ?_)
      rw [← eρ11] at V
      clear eρ11
      refine x_aload_n hM d_Mo_backward_75 rfl 1 rfl ?_
      refine y_getr hG hM V ck_Mo 23 (Nat.le_of_ble_eq_true rfl) rfl rfl w_920 rfl d_Mo_backward_76 (40, 0, 0) (41, 23, 0) rfl rfl rfl ?_
      refine x_iload_n hM d_Mo_backward_79 rfl 2 rfl ?_
      refine x_iload hM d_Mo_backward_80 0 rfl ?_
      obtain ⟨c14, F⟩ := F
      obtain ⟨ρ12, eρ12⟩ : ∃ z : Rs, z = pI ρ11 (41, 23, 0) (Int32.toNatClampNeg v1) ((iR ρ (41, 17, 0) (Int32.toNatClampNeg v3)) / 36) := ⟨_, rfl⟩
      replace F := F ρ12 eρ12
      refine y_iastore hG hM V d_Mo_backward_82 (41, 23, 0) rfl rfl (by rw [vlen V (r := (41, 23, 0)) rfl rfl]; exact c14) (fun h V => ?_)
      rw [← eρ12] at V
      clear eρ12
      refine x_iinc (v := (v1 + 1)) (lv2 := [(1, .int (v1 + 1)), (4, .int ((iR ρ (41, 17, 0) (Int32.toNatClampNeg v3)) / 36)), (0, .ref (ad (40, 0, 0))), (2, .int v2), (3, .int v3)]) hM d_Mo_backward_83 (j := 2) rfl rfl (Nat.le_of_ble_eq_true rfl) rfl ?_
      refine x_aload_n hM d_Mo_backward_86 rfl 2 rfl ?_
      refine y_getr hG hM V ck_Mo 18 (Nat.le_of_ble_eq_true rfl) rfl rfl w_915 rfl d_Mo_backward_87 (40, 0, 0) (41, 18, 0) rfl rfl rfl ?_
      refine x_iload_n hM d_Mo_backward_90 rfl 4 rfl ?_
      obtain ⟨c13, F⟩ := F
      refine y_iaload hG hM V d_Mo_backward_91 (41, 18, 0) rfl rfl (by rw [vlen V (r := (41, 18, 0)) rfl rfl]; exact c13) ?_
      refine x_istore_n (lv2 := [(3, .int (iR ρ12 (41, 18, 0) (Int32.toNatClampNeg v3))), (1, .int (v1 + 1)), (4, .int ((iR ρ (41, 17, 0) (Int32.toNatClampNeg v3)) / 36)), (0, .ref (ad (40, 0, 0))), (2, .int v2)]) hM d_Mo_backward_92 rfl (Nat.le_of_ble_eq_true rfl) rfl ?_
      refine x_goto (tgt := 28) hM d_Mo_backward_93 (by decide) ?_
      refine x_sub [3, 1, 4, 0] rfl ?_
      exact F _ _ hSt V
set_option maxRecDepth 100000 in
set_option maxHeartbeats 4000000 in
theorem T_Mo_aims_0 {G : Gc} {M : Mc} {Q : State → Prop} {ad0 : Ro → Nat} {K : (Ro → Nat) → Option Value → Rs → Prop} (hG : gok G) (hM : mok G M r_Mo_aims Q (KV G [] ad0 K)) (g1 : Ro) (og1 : okR g1 = true) (tg1 : tgR g1 = 50) (ρ : Rs) (F : Y G [] ad0 M Q 4 (fun ad => [(0, .ref (ad (40, 0, 0))), (1, .ref (ad g1)), (2, .int 0), (3, .int 0)]) (fun ad => []) ρ) : Y G [] ad0 M Q 0 (fun ad => [(0, .ref (ad (40, 0, 0))), (1, .ref (ad g1))]) (fun ad => []) ρ := by
  intro ad h hSt V
  show X G M Q 0 [(0, .ref (ad (40, 0, 0))), (1, .ref (ad g1))] [] h
  refine x_iconst (v := 0) hM d_Mo_aims_0 (by decide) ?_
  refine x_istore_n (lv2 := [(2, .int 0), (0, .ref (ad (40, 0, 0))), (1, .ref (ad g1))]) hM d_Mo_aims_1 rfl (Nat.le_of_ble_eq_true rfl) rfl ?_
  refine x_iconst (v := 0) hM d_Mo_aims_2 (by decide) ?_
  refine x_istore_n (lv2 := [(3, .int 0), (2, .int 0), (0, .ref (ad (40, 0, 0))), (1, .ref (ad g1))]) hM d_Mo_aims_3 rfl (Nat.le_of_ble_eq_true rfl) rfl ?_
  refine x_sub [2, 3, 1, 0] rfl ?_
  exact F _ _ hSt V
set_option maxRecDepth 100000 in
set_option maxHeartbeats 4000000 in
theorem T_Mo_aims_4 {G : Gc} {M : Mc} {Q : State → Prop} {ad0 : Ro → Nat} {K : (Ro → Nat) → Option Value → Rs → Prop} (hG : gok G) (hM : mok G M r_Mo_aims Q (KV G [] ad0 K)) (g1 : Ro) (og1 : okR g1 = true) (tg1 : tgR g1 = 50) (v2 : Int32) (v3 : Int32) (ρ : Rs) (F : ((iR ρ (40, 0, 0) 13) ≤ v3 → (∀ ad, K ad (some (.int v2)) ρ)) ∧ (¬ (iR ρ (40, 0, 0) 13) ≤ v3 → (vp_in v3 4096 ∧ (∀ z3 : Int32, z3 = (if (iR ρ (41, 15, 0) (Int32.toNatClampNeg v3)) = 0 then (-1) else 0) → (vp_in v3 (nR ρ g1) ∧ (∀ ρ4 : Rs, ρ4 = pI ρ g1 (Int32.toNatClampNeg v3) z3 → (vp_in v3 4096 ∧ (((iR ρ4 (41, 15, 0) (Int32.toNatClampNeg v3)) = 0 → (Y G [] ad0 M Q 4 (fun ad => [(0, .ref (ad (40, 0, 0))), (1, .ref (ad g1)), (2, .int v2), (3, .int (v3 + 1))]) (fun ad => []) ρ4)) ∧ (¬ (iR ρ4 (41, 15, 0) (Int32.toNatClampNeg v3)) = 0 → (vp_in v2 4096 ∧ (∀ ρ6 : Rs, ρ6 = pI ρ4 (41, 23, 0) (Int32.toNatClampNeg v2) v3 → (Y G [] ad0 M Q 4 (fun ad => [(0, .ref (ad (40, 0, 0))), (1, .ref (ad g1)), (2, .int (v2 + 1)), (3, .int (v3 + 1))]) (fun ad => []) ρ6)))))))))))) : Y G [] ad0 M Q 4 (fun ad => [(0, .ref (ad (40, 0, 0))), (1, .ref (ad g1)), (2, .int v2), (3, .int v3)]) (fun ad => []) ρ := by
  intro ad h hSt V
  show X G M Q 4 [(0, .ref (ad (40, 0, 0))), (1, .ref (ad g1)), (2, .int v2), (3, .int v3)] [] h
  refine x_iload_n hM d_Mo_aims_4 rfl 3 rfl ?_
  refine x_aload_n hM d_Mo_aims_5 rfl 0 rfl ?_
  refine y_geti hG hM V ck_Mo 13 (Nat.le_of_ble_eq_true rfl) rfl rfl w_910 rfl d_Mo_aims_6 (40, 0, 0) rfl rfl ?_
  refine x_icmp_ge (tgt := 54) hM d_Mo_aims_9 (by decide) (fun q11 => ?_) (fun q11 => ?_)
  · replace F := F.1 q11
    refine x_iload_n hM d_Mo_aims_54 rfl 2 rfl ?_
    exact x_ireturn hM d_Mo_aims_55 rfl (y_end V hSt (F _))
  · replace F := F.2 q11
    refine x_aload_n hM d_Mo_aims_12 rfl 1 rfl ?_
    refine x_iload_n hM d_Mo_aims_13 rfl 3 rfl ?_
    refine x_aload_n hM d_Mo_aims_14 rfl 0 rfl ?_
    refine y_getr hG hM V ck_Mo 15 (Nat.le_of_ble_eq_true rfl) rfl rfl w_912 rfl d_Mo_aims_15 (40, 0, 0) (41, 15, 0) rfl rfl rfl ?_
    refine x_iload_n hM d_Mo_aims_18 rfl 3 rfl ?_
    obtain ⟨c2, F⟩ := F
    refine y_zaload hG hM V d_Mo_aims_19 (41, 15, 0) rfl rfl (by rw [vlen V (r := (41, 15, 0)) rfl rfl]; exact c2) ?_
    have JJ : ∀ (z3 : Int32) (ez3 : z3 = (if (iR ρ (41, 15, 0) (Int32.toNatClampNeg v3)) = 0 then (-1) else 0)), X G M Q 28 [(0, .ref (ad (40, 0, 0))), (1, .ref (ad g1)), (2, .int v2), (3, .int v3)] [.int z3, .int v3, .ref (ad g1)] h := by
      intro z3 ez3
      replace F := F _ ez3
      obtain ⟨c9, F⟩ := F
      obtain ⟨ρ4, eρ4⟩ : ∃ z : Rs, z = pI ρ g1 (Int32.toNatClampNeg v3) z3 := ⟨_, rfl⟩
      replace F := F ρ4 eρ4
      refine y_iastore hG hM V d_Mo_aims_28 g1 og1 tg1 c9 (fun h V => ?_)
      rw [← eρ4] at V
      clear eρ4
      refine x_aload_n hM d_Mo_aims_29 rfl 0 rfl ?_
      refine y_getr hG hM V ck_Mo 15 (Nat.le_of_ble_eq_true rfl) rfl rfl w_912 rfl d_Mo_aims_30 (40, 0, 0) (41, 15, 0) rfl rfl rfl ?_
      refine x_iload_n hM d_Mo_aims_33 rfl 3 rfl ?_
      obtain ⟨c5, F⟩ := F
      refine y_zaload hG hM V d_Mo_aims_34 (41, 15, 0) rfl rfl (by rw [vlen V (r := (41, 15, 0)) rfl rfl]; exact c5) ?_
      refine x_if_eq (tgt := 48) hM d_Mo_aims_35 (by decide) (fun q8 => ?_) (fun q8 => ?_)
      · replace F := F.1 q8
        refine x_iinc (v := (v3 + 1)) (lv2 := [(3, .int (v3 + 1)), (0, .ref (ad (40, 0, 0))), (1, .ref (ad g1)), (2, .int v2)]) hM d_Mo_aims_48 (j := 3) rfl rfl (Nat.le_of_ble_eq_true rfl) rfl ?_
        refine x_goto (tgt := 4) hM d_Mo_aims_51 (by decide) ?_
        refine x_sub [1, 2, 3, 0] rfl ?_
        exact F _ _ hSt V
      · replace F := F.2 q8
        refine x_aload_n hM d_Mo_aims_38 rfl 0 rfl ?_
        refine y_getr hG hM V ck_Mo 23 (Nat.le_of_ble_eq_true rfl) rfl rfl w_920 rfl d_Mo_aims_39 (40, 0, 0) (41, 23, 0) rfl rfl rfl ?_
        refine x_iload_n hM d_Mo_aims_42 rfl 2 rfl ?_
        refine x_iload_n hM d_Mo_aims_43 rfl 3 rfl ?_
        obtain ⟨c7, F⟩ := F
        obtain ⟨ρ6, eρ6⟩ : ∃ z : Rs, z = pI ρ4 (41, 23, 0) (Int32.toNatClampNeg v2) v3 := ⟨_, rfl⟩
        replace F := F ρ6 eρ6
        refine y_iastore hG hM V d_Mo_aims_44 (41, 23, 0) rfl rfl (by rw [vlen V (r := (41, 23, 0)) rfl rfl]; exact c7) (fun h V => ?_)
        rw [← eρ6] at V
        clear eρ6
        refine x_iinc (v := (v2 + 1)) (lv2 := [(2, .int (v2 + 1)), (0, .ref (ad (40, 0, 0))), (1, .ref (ad g1)), (3, .int v3)]) hM d_Mo_aims_45 (j := 2) rfl rfl (Nat.le_of_ble_eq_true rfl) rfl ?_
        refine x_iinc (v := (v3 + 1)) (lv2 := [(3, .int (v3 + 1)), (2, .int (v2 + 1)), (0, .ref (ad (40, 0, 0))), (1, .ref (ad g1))]) hM d_Mo_aims_48 (j := 3) rfl rfl (Nat.le_of_ble_eq_true rfl) rfl ?_
        refine x_goto (tgt := 4) hM d_Mo_aims_51 (by decide) ?_
        refine x_sub [2, 3, 1, 0] rfl ?_
        exact F _ _ hSt V
    refine x_if_eq (tgt := 27) hM d_Mo_aims_20 (by decide) (fun q10 => ?_) (fun q10 => ?_)
    · refine x_iconst (v := (-1)) hM d_Mo_aims_27 (by decide) ?_
      exact JJ _ (Eq.symm (if_pos q10))
    · refine x_iconst (v := 0) hM d_Mo_aims_23 (by decide) ?_
      refine x_goto (tgt := 28) hM d_Mo_aims_24 (by decide) ?_
      exact JJ _ (Eq.symm (if_neg q10))
