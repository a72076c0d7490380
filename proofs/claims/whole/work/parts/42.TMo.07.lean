set_option maxRecDepth 100000 in
set_option maxHeartbeats 4000000 in
theorem T_Mo_play_0 {G : Gc} {M : Mc} {Q : State → Prop} {ad0 : Ro → Nat} {K : (Ro → Nat) → Option Value → Rs → Prop} (hG : gok G) (hM : mok G M r_Mo_play Q (KV G [] ad0 K)) (v1 : Int32) (v2 : Int32) (ρ : Rs) (F : semV G r_Mo_isIn [] (fun ad => [.int v2, .int 0, .int 2]) ρ (fun ad u2 ρ1 => ∃ x4 : Int32, u2 = some (.int x4) ∧ ((x4 = 0 → (∀ ad, K ad (some (.int (-2))) ρ1)) ∧ (¬ x4 = 0 → (semV G r_Mo_lay [] (fun ad => [.ref (ad (40, 0, 0))]) ρ1 (fun ad u6 ρ5 => u6 = none ∧ (vp_in (iR ρ5 (40, 0, 0) 2) 4096 ∧ (semV G r_Mo_isIn [] (fun ad => [.int v1, .int 0, .int ((iR ρ5 (41, 20, 0) (Int32.toNatClampNeg (iR ρ5 (40, 0, 0) 2))) - 1)]) ρ5 (fun ad u10 ρ9 => ∃ x12 : Int32, u10 = some (.int x12) ∧ ((x12 = 0 → (∀ ad, K ad (some (.int (-1))) ρ9)) ∧ (¬ x12 = 0 → (Y G [] ad0 M Q 48 (fun ad => [(0, .ref (ad (40, 0, 0))), (1, .int v1), (2, .int v2), (3, .int (iR ρ9 (40, 0, 0) 2)), (4, .int 0), (5, .int 0)]) (fun ad => []) ρ9)))))))))))) : Y G [] ad0 M Q 0 (fun ad => [(0, .ref (ad (40, 0, 0))), (1, .int v1), (2, .int v2)]) (fun ad => []) ρ := by
  intro ad h hSt V
  show X G M Q 0 [(0, .ref (ad (40, 0, 0))), (1, .int v1), (2, .int v2)] [] h
  refine x_iload_n hM d_Mo_play_0 rfl 2 rfl ?_
  refine x_iconst (v := 0) hM d_Mo_play_1 (by decide) ?_
  refine x_iconst (v := 2) hM d_Mo_play_2 (by decide) ?_
  refine x_callS hG hM (r' := r_Mo_isIn) [.int v2, .int 0, .int 2] rfl yk_Mo_isIn ⟨Nat.le_of_ble_eq_true rfl, Nat.le_of_ble_eq_true rfl⟩ w_1017 w_1018 rfl rfl (Nat.le_of_ble_eq_true rfl) d_Mo_play_3 (sem_mono (F _ _ V) ?_)
  intro u2 h F
  obtain ⟨ad17, ρ1, V, hs3, F⟩ := F
  obtain ⟨x4, rfl, F⟩ := F
  have hs3 := (St_eq hs3).symm
  subst hs3
  refine x_if_ne (tgt := 12) hM d_Mo_play_6 (by decide) (fun q16 => ?_) (fun q16 => ?_)
  · replace F := F.2 q16
    refine x_aload_n hM d_Mo_play_12 rfl 0 rfl ?_
    refine x_callV hG hM (r' := r_Mo_lay) (ci := 11) [] rfl rfl (Nat.le_of_ble_eq_true rfl) yk_Mo_lay ⟨Nat.le_of_ble_eq_true rfl, Nat.le_of_ble_eq_true rfl⟩ w_1112 w_1114 ws_Mo_lay rfl rfl (Nat.le_of_ble_eq_true rfl) d_Mo_play_13 (by rw [vT V rfl]; rfl) (sem_mono (F _ _ V) ?_)
    intro u6 h F
    obtain ⟨ad15, ρ5, V, hs7, F⟩ := F
    obtain ⟨rfl, F⟩ := F
    have hs7 := (St_eq hs7).symm
    subst hs7
    refine x_iload_n hM d_Mo_play_16 rfl 1 rfl ?_
    refine x_iconst (v := 0) hM d_Mo_play_17 (by decide) ?_
    refine x_aload_n hM d_Mo_play_18 rfl 0 rfl ?_
    refine y_getr hG hM V ck_Mo 20 (Nat.le_of_ble_eq_true rfl) rfl rfl w_917 rfl d_Mo_play_19 (40, 0, 0) (41, 20, 0) rfl rfl rfl ?_
    refine x_aload_n hM d_Mo_play_22 rfl 0 rfl ?_
    refine y_geti hG hM V ck_Mo 2 (Nat.le_of_ble_eq_true rfl) rfl rfl w_899 rfl d_Mo_play_23 (40, 0, 0) rfl rfl ?_
    obtain ⟨c8, F⟩ := F
    refine y_iaload hG hM V d_Mo_play_26 (41, 20, 0) rfl rfl (by rw [vlen V (r := (41, 20, 0)) rfl rfl]; exact c8) ?_
    refine x_iconst (v := 1) hM d_Mo_play_27 (by decide) ?_
    refine x_isub hM d_Mo_play_28 ?_
    refine x_callS hG hM (r' := r_Mo_isIn) [.int v1, .int 0, .int ((iR ρ5 (41, 20, 0) (Int32.toNatClampNeg (iR ρ5 (40, 0, 0) 2))) - 1)] rfl yk_Mo_isIn ⟨Nat.le_of_ble_eq_true rfl, Nat.le_of_ble_eq_true rfl⟩ w_1017 w_1018 rfl rfl (Nat.le_of_ble_eq_true rfl) d_Mo_play_29 (sem_mono (F _ _ V) ?_)
    intro u10 h F
    obtain ⟨ad14, ρ9, V, hs11, F⟩ := F
    obtain ⟨x12, rfl, F⟩ := F
    have hs11 := (St_eq hs11).symm
    subst hs11
    refine x_if_ne (tgt := 37) hM d_Mo_play_32 (by decide) (fun q13 => ?_) (fun q13 => ?_)
    · replace F := F.2 q13
      refine x_aload_n hM d_Mo_play_37 rfl 0 rfl ?_
      refine y_geti hG hM V ck_Mo 2 (Nat.le_of_ble_eq_true rfl) rfl rfl w_899 rfl d_Mo_play_38 (40, 0, 0) rfl rfl ?_
      refine x_istore_n (lv2 := [(3, .int (iR ρ9 (40, 0, 0) 2)), (0, .ref (ad (40, 0, 0))), (1, .int v1), (2, .int v2)]) hM d_Mo_play_41 rfl (Nat.le_of_ble_eq_true rfl) rfl ?_
      refine x_iconst (v := 0) hM d_Mo_play_42 (by decide) ?_
      refine x_istore (lv2 := [(4, .int 0), (3, .int (iR ρ9 (40, 0, 0) 2)), (0, .ref (ad (40, 0, 0))), (1, .int v1), (2, .int v2)]) hM d_Mo_play_43 (Nat.le_of_ble_eq_true rfl) rfl ?_
      refine x_iconst (v := 0) hM d_Mo_play_45 (by decide) ?_
      refine x_istore (lv2 := [(5, .int 0), (4, .int 0), (3, .int (iR ρ9 (40, 0, 0) 2)), (0, .ref (ad (40, 0, 0))), (1, .int v1), (2, .int v2)]) hM d_Mo_play_46 (Nat.le_of_ble_eq_true rfl) rfl ?_
      refine x_sub [3, 4, 5, 2, 1, 0] rfl ?_
      exact F _ _ hSt V
    · replace F := F.1 q13
      refine x_iconst (v := (-1)) hM d_Mo_play_35 (by decide) ?_
      exact x_ireturn hM d_Mo_play_36 rfl (y_end V hSt (F _))
  · replace F := F.1 q16
    refine x_bipush (v := (-2)) hM d_Mo_play_9 (by decide) ?_
    exact x_ireturn hM d_Mo_play_11 rfl (y_end V hSt (F _))
set_option maxRecDepth 100000 in
set_option maxHeartbeats 4000000 in
theorem T_Mo_play_48 {G : Gc} {M : Mc} {Q : State → Prop} {ad0 : Ro → Nat} {K : (Ro → Nat) → Option Value → Rs → Prop} (hG : gok G) (hM : mok G M r_Mo_play Q (KV G [] ad0 K)) (v1 : Int32) (v2 : Int32) (v3 : Int32) (v4 : Int32) (v5 : Int32) (ρ : Rs) (F : (v1 < v5 → (∀ z1 : Int32, z1 = (if v2 = 0 then (v4 / 3) else (if v2 = 1 then (v4 - v4 / 3 * 3) else v3)) → (∀ ad, K ad (some (.int z1)) ρ))) ∧ (¬ v1 < v5 → (Y G [] ad0 M Q 57 (fun ad => [(0, .ref (ad (40, 0, 0))), (1, .int v1), (2, .int v2), (3, .int v3), (4, .int 0), (5, .int v5)]) (fun ad => []) ρ))) : Y G [] ad0 M Q 48 (fun ad => [(0, .ref (ad (40, 0, 0))), (1, .int v1), (2, .int v2), (3, .int v3), (4, .int v4), (5, .int v5)]) (fun ad => []) ρ := by
  intro ad h hSt V
  show X G M Q 48 [(0, .ref (ad (40, 0, 0))), (1, .int v1), (2, .int v2), (3, .int v3), (4, .int v4), (5, .int v5)] [] h
  refine x_iload hM d_Mo_play_48 5 rfl ?_
  refine x_iload_n hM d_Mo_play_50 rfl 1 rfl ?_
  refine x_icmp_gt (tgt := 126) hM d_Mo_play_51 (by decide) (fun q4 => ?_) (fun q4 => ?_)
  · replace F := F.1 q4
    refine x_iload_n hM d_Mo_play_126 rfl 2 rfl ?_
    have JJ : ∀ (z1 : Int32) (ez1 : z1 = (if v2 = 0 then (v4 / 3) else (if v2 = 1 then (v4 - v4 / 3 * 3) else v3))), X G M Q 150 [] [.int z1] h := by
      intro z1 ez1
      replace F := F _ ez1
      exact x_ireturn hM d_Mo_play_150 rfl (y_end V hSt (F _))
    refine x_if_ne (tgt := 137) hM d_Mo_play_127 (by decide) (fun q2 => ?_) (fun q2 => ?_)
    · refine x_iload_n hM d_Mo_play_137 rfl 2 rfl ?_
      refine x_iconst (v := 1) hM d_Mo_play_138 (by decide) ?_
      refine x_icmp_ne (tgt := 149) hM d_Mo_play_139 (by decide) (fun q3 => ?_) (fun q3 => ?_)
      · refine x_iload_n hM d_Mo_play_149 rfl 3 rfl ?_
        refine x_sub [] rfl ?_
        exact JJ _ (Eq.symm (Eq.trans (if_neg q2) (if_neg q3)))
      · refine x_iload hM d_Mo_play_142 4 rfl ?_
        refine x_iconst (v := 3) hM d_Mo_play_144 (by decide) ?_
        refine x_irem hM d_Mo_play_145 (by decide) ?_
        refine x_goto (tgt := 150) hM d_Mo_play_146 (by decide) ?_
        refine x_sub [] rfl ?_
        exact JJ _ (Eq.symm (Eq.trans (if_neg q2) (if_pos q3)))
    · refine x_iload hM d_Mo_play_130 4 rfl ?_
      refine x_iconst (v := 3) hM d_Mo_play_132 (by decide) ?_
      refine x_idiv hM d_Mo_play_133 (by decide) ?_
      refine x_goto (tgt := 150) hM d_Mo_play_134 (by decide) ?_
      refine x_sub [] rfl ?_
      exact JJ _ (Eq.symm (if_pos q2))
  · replace F := F.2 q4
    refine x_iconst (v := 0) hM d_Mo_play_54 (by decide) ?_
    refine x_istore (lv2 := [(4, .int 0), (0, .ref (ad (40, 0, 0))), (1, .int v1), (2, .int v2), (3, .int v3), (5, .int v5)]) hM d_Mo_play_55 (Nat.le_of_ble_eq_true rfl) rfl ?_
    refine x_sub [1, 2, 3, 4, 0, 5] rfl ?_
    exact F _ _ hSt V
set_option maxRecDepth 100000 in
set_option maxHeartbeats 4000000 in
theorem T_Mo_play_57 {G : Gc} {M : Mc} {Q : State → Prop} {ad0 : Ro → Nat} {K : (Ro → Nat) → Option Value → Rs → Prop} (hG : gok G) (hM : mok G M r_Mo_play Q (KV G [] ad0 K)) (v1 : Int32) (v2 : Int32) (v3 : Int32) (v4 : Int32) (v5 : Int32) (ρ : Rs) (F : vp_in ((36 * v3) + v4) 147456 ∧ (((iR ρ (41, 14, 0) (Int32.toNatClampNeg ((36 * v3) + v4))) = (-1) → (Y G [] ad0 M Q 57 (fun ad => [(0, .ref (ad (40, 0, 0))), (1, .int v1), (2, .int v2), (3, .int v3), (4, .int (v4 + 1)), (5, .int v5)]) (fun ad => []) ρ)) ∧ (¬ (iR ρ (41, 14, 0) (Int32.toNatClampNeg ((36 * v3) + v4))) = (-1) → (vp_in ((36 * v3) + v4) 147456 ∧ (vp_in (iR ρ (41, 14, 0) (Int32.toNatClampNeg ((36 * v3) + v4))) 4096 ∧ (vp_in v3 4096 ∧ (((iR ρ (41, 20, 0) (Int32.toNatClampNeg (iR ρ (41, 14, 0) (Int32.toNatClampNeg ((36 * v3) + v4))))) = ((iR ρ (41, 20, 0) (Int32.toNatClampNeg v3)) - 1) → (vp_in ((36 * v3) + v4) 147456 ∧ (Y G [] ad0 M Q 48 (fun ad => [(0, .ref (ad (40, 0, 0))), (1, .int v1), (2, .int v2), (3, .int (iR ρ (41, 14, 0) (Int32.toNatClampNeg ((36 * v3) + v4)))), (4, .int v4), (5, .int (v5 + 1))]) (fun ad => []) ρ))) ∧ (¬ (iR ρ (41, 20, 0) (Int32.toNatClampNeg (iR ρ (41, 14, 0) (Int32.toNatClampNeg ((36 * v3) + v4))))) = ((iR ρ (41, 20, 0) (Int32.toNatClampNeg v3)) - 1) → (Y G [] ad0 M Q 57 (fun ad => [(0, .ref (ad (40, 0, 0))), (1, .int v1), (2, .int v2), (3, .int v3), (4, .int (v4 + 1)), (5, .int v5)]) (fun ad => []) ρ))))))))) : Y G [] ad0 M Q 57 (fun ad => [(0, .ref (ad (40, 0, 0))), (1, .int v1), (2, .int v2), (3, .int v3), (4, .int v4), (5, .int v5)]) (fun ad => []) ρ := by
  intro ad h hSt V
  show X G M Q 57 [(0, .ref (ad (40, 0, 0))), (1, .int v1), (2, .int v2), (3, .int v3), (4, .int v4), (5, .int v5)] [] h
  refine x_aload_n hM d_Mo_play_57 rfl 0 rfl ?_
  refine y_getr hG hM V ck_Mo 14 (Nat.le_of_ble_eq_true rfl) rfl rfl w_911 rfl d_Mo_play_58 (40, 0, 0) (41, 14, 0) rfl rfl rfl ?_
  refine x_bipush (v := 36) hM d_Mo_play_61 (by decide) ?_
  refine x_iload_n hM d_Mo_play_63 rfl 3 rfl ?_
  refine x_imul hM d_Mo_play_64 ?_
  refine x_iload hM d_Mo_play_65 4 rfl ?_
  refine x_iadd hM d_Mo_play_67 ?_
  obtain ⟨c1, F⟩ := F
  refine y_iaload hG hM V d_Mo_play_68 (41, 14, 0) rfl rfl (by rw [vlen V (r := (41, 14, 0)) rfl rfl]; exact c1) ?_
  refine x_iconst (v := (-1)) hM d_Mo_play_69 (by decide) ?_
  refine x_icmp_eq (tgt := 101) hM d_Mo_play_70 (by decide) (fun q7 => ?_) (fun q7 => ?_)
  · replace F := F.1 q7
    refine x_iinc (v := (v4 + 1)) (lv2 := [(4, .int (v4 + 1)), (0, .ref (ad (40, 0, 0))), (1, .int v1), (2, .int v2), (3, .int v3), (5, .int v5)]) hM d_Mo_play_101 (j := 4) rfl rfl (Nat.le_of_ble_eq_true rfl) rfl ?_
    refine x_goto (tgt := 57) hM d_Mo_play_104 (by decide) ?_
    refine x_sub [1, 2, 3, 4, 0, 5] rfl ?_
    exact F _ _ hSt V
  · replace F := F.2 q7
    refine x_aload_n hM d_Mo_play_73 rfl 0 rfl ?_
    refine y_getr hG hM V ck_Mo 20 (Nat.le_of_ble_eq_true rfl) rfl rfl w_917 rfl d_Mo_play_74 (40, 0, 0) (41, 20, 0) rfl rfl rfl ?_
    refine x_aload_n hM d_Mo_play_77 rfl 0 rfl ?_
    refine y_getr hG hM V ck_Mo 14 (Nat.le_of_ble_eq_true rfl) rfl rfl w_911 rfl d_Mo_play_78 (40, 0, 0) (41, 14, 0) rfl rfl rfl ?_
    refine x_bipush (v := 36) hM d_Mo_play_81 (by decide) ?_
    refine x_iload_n hM d_Mo_play_83 rfl 3 rfl ?_
    refine x_imul hM d_Mo_play_84 ?_
    refine x_iload hM d_Mo_play_85 4 rfl ?_
    refine x_iadd hM d_Mo_play_87 ?_
    obtain ⟨c2, F⟩ := F
    refine y_iaload hG hM V d_Mo_play_88 (41, 14, 0) rfl rfl (by rw [vlen V (r := (41, 14, 0)) rfl rfl]; exact c2) ?_
    obtain ⟨c3, F⟩ := F
    refine y_iaload hG hM V d_Mo_play_89 (41, 20, 0) rfl rfl (by rw [vlen V (r := (41, 20, 0)) rfl rfl]; exact c3) ?_
    refine x_aload_n hM d_Mo_play_90 rfl 0 rfl ?_
    refine y_getr hG hM V ck_Mo 20 (Nat.le_of_ble_eq_true rfl) rfl rfl w_917 rfl d_Mo_play_91 (40, 0, 0) (41, 20, 0) rfl rfl rfl ?_
    refine x_iload_n hM d_Mo_play_94 rfl 3 rfl ?_
    obtain ⟨c4, F⟩ := F
    refine y_iaload hG hM V d_Mo_play_95 (41, 20, 0) rfl rfl (by rw [vlen V (r := (41, 20, 0)) rfl rfl]; exact c4) ?_
    refine x_iconst (v := 1) hM d_Mo_play_96 (by decide) ?_
    refine x_isub hM d_Mo_play_97 ?_
    refine x_icmp_eq (tgt := 107) hM d_Mo_play_98 (by decide) (fun q6 => ?_) (fun q6 => ?_)
    · replace F := F.1 q6
      refine x_aload_n hM d_Mo_play_107 rfl 0 rfl ?_
      refine y_getr hG hM V ck_Mo 14 (Nat.le_of_ble_eq_true rfl) rfl rfl w_911 rfl d_Mo_play_108 (40, 0, 0) (41, 14, 0) rfl rfl rfl ?_
      refine x_bipush (v := 36) hM d_Mo_play_111 (by decide) ?_
      refine x_iload_n hM d_Mo_play_113 rfl 3 rfl ?_
      refine x_imul hM d_Mo_play_114 ?_
      refine x_iload hM d_Mo_play_115 4 rfl ?_
      refine x_iadd hM d_Mo_play_117 ?_
      obtain ⟨c5, F⟩ := F
      refine y_iaload hG hM V d_Mo_play_118 (41, 14, 0) rfl rfl (by rw [vlen V (r := (41, 14, 0)) rfl rfl]; exact c5) ?_
      refine x_istore_n (lv2 := [(3, .int (iR ρ (41, 14, 0) (Int32.toNatClampNeg ((36 * v3) + v4)))), (0, .ref (ad (40, 0, 0))), (1, .int v1), (2, .int v2), (4, .int v4), (5, .int v5)]) hM d_Mo_play_119 rfl (Nat.le_of_ble_eq_true rfl) rfl ?_
      refine x_iinc (v := (v5 + 1)) (lv2 := [(5, .int (v5 + 1)), (3, .int (iR ρ (41, 14, 0) (Int32.toNatClampNeg ((36 * v3) + v4)))), (0, .ref (ad (40, 0, 0))), (1, .int v1), (2, .int v2), (4, .int v4)]) hM d_Mo_play_120 (j := 5) rfl rfl (Nat.le_of_ble_eq_true rfl) rfl ?_
      refine x_goto (tgt := 48) hM d_Mo_play_123 (by decide) ?_
      refine x_sub [2, 3, 4, 1, 5, 0] rfl ?_
      exact F _ _ hSt V
    · replace F := F.2 q6
      refine x_iinc (v := (v4 + 1)) (lv2 := [(4, .int (v4 + 1)), (0, .ref (ad (40, 0, 0))), (1, .int v1), (2, .int v2), (3, .int v3), (5, .int v5)]) hM d_Mo_play_101 (j := 4) rfl rfl (Nat.le_of_ble_eq_true rfl) rfl ?_
      refine x_goto (tgt := 57) hM d_Mo_play_104 (by decide) ?_
      refine x_sub [1, 2, 3, 4, 0, 5] rfl ?_
      exact F _ _ hSt V
set_option maxRecDepth 100000 in
set_option maxHeartbeats 4000000 in
theorem T_Mo_plays_0 {G : Gc} {M : Mc} {Q : State → Prop} {ad0 : Ro → Nat} {K : (Ro → Nat) → Option Value → Rs → Prop} (hG : gok G) (hM : mok G M r_Mo_plays Q (KV G [] ad0 K))  (ρ : Rs) (F : semV G r_Mo_lay [] (fun ad => [.ref (ad (40, 0, 0))]) ρ (fun ad u2 ρ1 => u2 = none ∧ (vp_in (iR ρ1 (40, 0, 0) 2) 4096 ∧ (((iR ρ1 (41, 20, 0) (Int32.toNatClampNeg (iR ρ1 (40, 0, 0) 2))) = (-1) → (∀ ad, K ad (some (.long 0)) ρ1)) ∧ (¬ (iR ρ1 (41, 20, 0) (Int32.toNatClampNeg (iR ρ1 (40, 0, 0) 2))) = (-1) → (Y G [] ad0 M Q 21 (fun ad => [(0, .ref (ad (40, 0, 0))), (1, .int 0)]) (fun ad => []) ρ1)))))) : Y G [] ad0 M Q 0 (fun ad => [(0, .ref (ad (40, 0, 0)))]) (fun ad => []) ρ := by
  intro ad h hSt V
  show X G M Q 0 [(0, .ref (ad (40, 0, 0)))] [] h
  refine x_aload_n hM d_Mo_plays_0 rfl 0 rfl ?_
  refine x_callV hG hM (r' := r_Mo_lay) (ci := 11) [] rfl rfl (Nat.le_of_ble_eq_true rfl) yk_Mo_lay ⟨Nat.le_of_ble_eq_true rfl, Nat.le_of_ble_eq_true rfl⟩ w_1112 w_1114 ws_Mo_lay rfl rfl (Nat.le_of_ble_eq_true rfl) d_Mo_plays_1 (by rw [vT V rfl]; rfl) (sem_mono (F _ _ V) ?_)
  intro u2 h F
  obtain ⟨ad6, ρ1, V, hs3, F⟩ := F
  obtain ⟨rfl, F⟩ := F
  have hs3 := (St_eq hs3).symm
  subst hs3
  refine x_aload_n hM d_Mo_plays_4 rfl 0 rfl ?_
  refine y_getr hG hM V ck_Mo 20 (Nat.le_of_ble_eq_true rfl) rfl rfl w_917 rfl d_Mo_plays_5 (40, 0, 0) (41, 20, 0) rfl rfl rfl ?_
  refine x_aload_n hM d_Mo_plays_8 rfl 0 rfl ?_
  refine y_geti hG hM V ck_Mo 2 (Nat.le_of_ble_eq_true rfl) rfl rfl w_899 rfl d_Mo_plays_9 (40, 0, 0) rfl rfl ?_
  obtain ⟨c4, F⟩ := F
  refine y_iaload hG hM V d_Mo_plays_12 (41, 20, 0) rfl rfl (by rw [vlen V (r := (41, 20, 0)) rfl rfl]; exact c4) ?_
  refine x_iconst (v := (-1)) hM d_Mo_plays_13 (by decide) ?_
  refine x_icmp_ne (tgt := 19) hM d_Mo_plays_14 (by decide) (fun q5 => ?_) (fun q5 => ?_)
  · replace F := F.2 q5
    refine x_iconst (v := 0) hM d_Mo_plays_19 (by decide) ?_
    refine x_istore_n (lv2 := [(1, .int 0), (0, .ref (ad (40, 0, 0)))]) hM d_Mo_plays_20 rfl (Nat.le_of_ble_eq_true rfl) rfl ?_
    refine x_sub [1, 0] rfl ?_
    exact F _ _ hSt V
  · replace F := F.1 q5
    refine x_lconst (v := 0) hM d_Mo_plays_17 (by decide) ?_
    exact x_lreturn hM d_Mo_plays_18 rfl (y_end V hSt (F _))
set_option maxRecDepth 100000 in
set_option maxHeartbeats 4000000 in
theorem T_Mo_plays_21 {G : Gc} {M : Mc} {Q : State → Prop} {ad0 : Ro → Nat} {K : (Ro → Nat) → Option Value → Rs → Prop} (hG : gok G) (hM : mok G M r_Mo_plays Q (KV G [] ad0 K)) (v1 : Int32) (ρ : Rs) (F : ((iR ρ (40, 0, 0) 13) ≤ v1 → (Y G [] ad0 M Q 59 (fun ad => [(0, .ref (ad (40, 0, 0))), (2, .int 1)]) (fun ad => []) ρ)) ∧ (¬ (iR ρ (40, 0, 0) 13) ≤ v1 → (vp_in v1 4096 ∧ (∀ z3 : Int64, z3 = (if (iR ρ (41, 15, 0) (Int32.toNatClampNeg v1)) = 0 then 0 else 1) → (vp_in v1 4096 ∧ (∀ ρ4 : Rs, ρ4 = pL ρ (41, 33, 0) (Int32.toNatClampNeg v1) z3 → (Y G [] ad0 M Q 21 (fun ad => [(0, .ref (ad (40, 0, 0))), (1, .int (v1 + 1))]) (fun ad => []) ρ4))))))) : Y G [] ad0 M Q 21 (fun ad => [(0, .ref (ad (40, 0, 0))), (1, .int v1)]) (fun ad => []) ρ := by
  intro ad h hSt V
  show X G M Q 21 [(0, .ref (ad (40, 0, 0))), (1, .int v1)] [] h
  refine x_iload_n hM d_Mo_plays_21 rfl 1 rfl ?_
  refine x_aload_n hM d_Mo_plays_22 rfl 0 rfl ?_
  refine y_geti hG hM V ck_Mo 13 (Nat.le_of_ble_eq_true rfl) rfl rfl w_910 rfl d_Mo_plays_23 (40, 0, 0) rfl rfl ?_
  refine x_icmp_ge (tgt := 55) hM d_Mo_plays_26 (by decide) (fun q7 => ?_) (fun q7 => ?_)
  · replace F := F.1 q7
    refine x_iconst (v := 0) hM d_Mo_plays_55 (by decide) ?_
    refine x_istore_n (lv2 := [(1, .int 0), (0, .ref (ad (40, 0, 0)))]) hM d_Mo_plays_56 rfl (Nat.le_of_ble_eq_true rfl) rfl ?_
    refine x_iconst (v := 1) hM d_Mo_plays_57 (by decide) ?_
    refine x_istore_n (lv2 := [(2, .int 1), (1, .int 0), (0, .ref (ad (40, 0, 0)))]) hM d_Mo_plays_58 rfl (Nat.le_of_ble_eq_true rfl) rfl ?_
    refine x_sub [2, 0] rfl ?_
    exact F _ _ hSt V
  · replace F := F.2 q7
    refine x_aload_n hM d_Mo_plays_29 rfl 0 rfl ?_
    refine y_getr hG hM V ck_Mo 33 (Nat.le_of_ble_eq_true rfl) rfl rfl w_930 rfl d_Mo_plays_30 (40, 0, 0) (41, 33, 0) rfl rfl rfl ?_
    refine x_iload_n hM d_Mo_plays_33 rfl 1 rfl ?_
    refine x_aload_n hM d_Mo_plays_34 rfl 0 rfl ?_
    refine y_getr hG hM V ck_Mo 15 (Nat.le_of_ble_eq_true rfl) rfl rfl w_912 rfl d_Mo_plays_35 (40, 0, 0) (41, 15, 0) rfl rfl rfl ?_
    refine x_iload_n hM d_Mo_plays_38 rfl 1 rfl ?_
    obtain ⟨c2, F⟩ := F
    refine y_zaload hG hM V d_Mo_plays_39 (41, 15, 0) rfl rfl (by rw [vlen V (r := (41, 15, 0)) rfl rfl]; exact c2) ?_
    have JJ : ∀ (z3 : Int64) (ez3 : z3 = (if (iR ρ (41, 15, 0) (Int32.toNatClampNeg v1)) = 0 then 0 else 1)), X G M Q 48 [(0, .ref (ad (40, 0, 0))), (1, .int v1)] [.long z3, .int v1, .ref (ad (41, 33, 0))] h := by
      intro z3 ez3
      replace F := F _ ez3
      obtain ⟨c5, F⟩ := F
      obtain ⟨ρ4, eρ4⟩ : ∃ z : Rs, z = pL ρ (41, 33, 0) (Int32.toNatClampNeg v1) z3 := ⟨_, rfl⟩
      replace F := F ρ4 eρ4
      refine y_lastore hG hM V d_Mo_plays_48 (41, 33, 0) rfl rfl (by rw [vlen V (r := (41, 33, 0)) rfl rfl]; exact c5) (fun h V => ?_)
      rw [← eρ4] at V
      clear eρ4
      refine x_iinc (v := (v1 + 1)) (lv2 := [(1, .int (v1 + 1)), (0, .ref (ad (40, 0, 0)))]) hM d_Mo_plays_49 (j := 1) rfl rfl (Nat.le_of_ble_eq_true rfl) rfl ?_
      refine x_goto (tgt := 21) hM d_Mo_plays_52 (by decide) ?_
      refine x_sub [1, 0] rfl ?_
      exact F _ _ hSt V
    refine x_if_eq (tgt := 47) hM d_Mo_plays_40 (by decide) (fun q6 => ?_) (fun q6 => ?_)
    · refine x_lconst (v := 0) hM d_Mo_plays_47 (by decide) ?_
      exact JJ _ (Eq.symm (if_pos q6))
    · refine x_lconst (v := 1) hM d_Mo_plays_43 (by decide) ?_
      refine x_goto (tgt := 48) hM d_Mo_plays_44 (by decide) ?_
      exact JJ _ (Eq.symm (if_neg q6))
set_option maxRecDepth 100000 in
set_option maxHeartbeats 4000000 in
theorem T_Mo_plays_59 {G : Gc} {M : Mc} {Q : State → Prop} {ad0 : Ro → Nat} {K : (Ro → Nat) → Option Value → Rs → Prop} (hG : gok G) (hM : mok G M r_Mo_plays Q (KV G [] ad0 K)) (v2 : Int32) (ρ : Rs) (F : vp_in (iR ρ (40, 0, 0) 2) 4096 ∧ (((iR ρ (41, 20, 0) (Int32.toNatClampNeg (iR ρ (40, 0, 0) 2))) < v2 → (vp_in (iR ρ (40, 0, 0) 2) 4096 ∧ (∀ ad, K ad (some (.long (lR ρ (41, 33, 0) (Int32.toNatClampNeg (iR ρ (40, 0, 0) 2))))) ρ))) ∧ (¬ (iR ρ (41, 20, 0) (Int32.toNatClampNeg (iR ρ (40, 0, 0) 2))) < v2 → (Y G [] ad0 M Q 76 (fun ad => [(0, .ref (ad (40, 0, 0))), (1, .int v2), (2, .int v2), (3, .int 0)]) (fun ad => []) ρ)))) : Y G [] ad0 M Q 59 (fun ad => [(0, .ref (ad (40, 0, 0))), (2, .int v2)]) (fun ad => []) ρ := by
  intro ad h hSt V
  show X G M Q 59 [(0, .ref (ad (40, 0, 0))), (2, .int v2)] [] h
  refine x_iload_n hM d_Mo_plays_59 rfl 1 rfl ?_
  refine x_aload_n hM d_Mo_plays_60 rfl 0 rfl ?_
  refine y_getr hG hM V ck_Mo 20 (Nat.le_of_ble_eq_true rfl) rfl rfl w_917 rfl d_Mo_plays_61 (40, 0, 0) (41, 20, 0) rfl rfl rfl ?_
  refine x_aload_n hM d_Mo_plays_64 rfl 0 rfl ?_
  refine y_geti hG hM V ck_Mo 2 (Nat.le_of_ble_eq_true rfl) rfl rfl w_899 rfl d_Mo_plays_65 (40, 0, 0) rfl rfl ?_
  obtain ⟨c1, F⟩ := F
  refine y_iaload hG hM V d_Mo_plays_68 (41, 20, 0) rfl rfl (by rw [vlen V (r := (41, 20, 0)) rfl rfl]; exact c1) ?_
  refine x_icmp_gt (tgt := 179) hM d_Mo_plays_69 (by decide) (fun q3 => ?_) (fun q3 => ?_)
  · replace F := F.1 q3
    refine x_aload_n hM d_Mo_plays_179 rfl 0 rfl ?_
    refine y_getr hG hM V ck_Mo 33 (Nat.le_of_ble_eq_true rfl) rfl rfl w_930 rfl d_Mo_plays_180 (40, 0, 0) (41, 33, 0) rfl rfl rfl ?_
    refine x_aload_n hM d_Mo_plays_183 rfl 0 rfl ?_
    refine y_geti hG hM V ck_Mo 2 (Nat.le_of_ble_eq_true rfl) rfl rfl w_899 rfl d_Mo_plays_184 (40, 0, 0) rfl rfl ?_
    obtain ⟨c2, F⟩ := F
    refine y_laload hG hM V d_Mo_plays_187 (41, 33, 0) rfl rfl (by rw [vlen V (r := (41, 33, 0)) rfl rfl]; exact c2) ?_
    exact x_lreturn hM d_Mo_plays_188 rfl (y_end V hSt (F _))
  · replace F := F.2 q3
    refine x_iload_n hM d_Mo_plays_72 rfl 1 rfl ?_
    refine x_istore_n (lv2 := [(1, .int v2), (0, .ref (ad (40, 0, 0))), (2, .int v2)]) hM d_Mo_plays_73 rfl (Nat.le_of_ble_eq_true rfl) rfl ?_
    refine x_iconst (v := 0) hM d_Mo_plays_74 (by decide) ?_
    refine x_istore_n (lv2 := [(3, .int 0), (1, .int v2), (0, .ref (ad (40, 0, 0))), (2, .int v2)]) hM d_Mo_plays_75 rfl (Nat.le_of_ble_eq_true rfl) rfl ?_
    refine x_sub [2, 1, 3, 0] rfl ?_
    exact F _ _ hSt V
set_option maxRecDepth 100000 in
set_option maxHeartbeats 4000000 in
theorem T_Mo_plays_76 {G : Gc} {M : Mc} {Q : State → Prop} {ad0 : Ro → Nat} {K : (Ro → Nat) → Option Value → Rs → Prop} (hG : gok G) (hM : mok G M r_Mo_plays Q (KV G [] ad0 K)) (v1 : Int32) (v2 : Int32) (v3 : Int32) (ρ : Rs) (F : ((iR ρ (40, 0, 0) 13) ≤ v3 → (Y G [] ad0 M Q 59 (fun ad => [(0, .ref (ad (40, 0, 0))), (2, .int (v2 + 1))]) (fun ad => []) ρ)) ∧ (¬ (iR ρ (40, 0, 0) 13) ≤ v3 → (Y G [] ad0 M Q 87 (fun ad => [(0, .ref (ad (40, 0, 0))), (1, .int v1), (2, .int v2), (3, .int v3), (4, .int 0)]) (fun ad => []) ρ))) : Y G [] ad0 M Q 76 (fun ad => [(0, .ref (ad (40, 0, 0))), (1, .int v1), (2, .int v2), (3, .int v3)]) (fun ad => []) ρ := by
  intro ad h hSt V
  show X G M Q 76 [(0, .ref (ad (40, 0, 0))), (1, .int v1), (2, .int v2), (3, .int v3)] [] h
  refine x_iload_n hM d_Mo_plays_76 rfl 3 rfl ?_
  refine x_aload_n hM d_Mo_plays_77 rfl 0 rfl ?_
  refine y_geti hG hM V ck_Mo 13 (Nat.le_of_ble_eq_true rfl) rfl rfl w_910 rfl d_Mo_plays_78 (40, 0, 0) rfl rfl ?_
  refine x_icmp_ge (tgt := 173) hM d_Mo_plays_81 (by decide) (fun q1 => ?_) (fun q1 => ?_)
  · replace F := F.1 q1
    refine x_iinc (v := (v2 + 1)) (lv2 := [(2, .int (v2 + 1)), (0, .ref (ad (40, 0, 0))), (1, .int v1), (3, .int v3)]) hM d_Mo_plays_173 (j := 2) rfl rfl (Nat.le_of_ble_eq_true rfl) rfl ?_
    refine x_goto (tgt := 59) hM d_Mo_plays_176 (by decide) ?_
    refine x_sub [1, 0] rfl ?_
    exact F _ _ hSt V
  · replace F := F.2 q1
    refine x_iconst (v := 0) hM d_Mo_plays_84 (by decide) ?_
    refine x_istore (lv2 := [(4, .int 0), (0, .ref (ad (40, 0, 0))), (1, .int v1), (2, .int v2), (3, .int v3)]) hM d_Mo_plays_85 (Nat.le_of_ble_eq_true rfl) rfl ?_
    refine x_sub [1, 2, 3, 4, 0] rfl ?_
    exact F _ _ hSt V
set_option maxRecDepth 100000 in
set_option maxHeartbeats 4000000 in
theorem T_Mo_plays_87 {G : Gc} {M : Mc} {Q : State → Prop} {ad0 : Ro → Nat} {K : (Ro → Nat) → Option Value → Rs → Prop} (hG : gok G) (hM : mok G M r_Mo_plays Q (KV G [] ad0 K)) (v1 : Int32) (v2 : Int32) (v3 : Int32) (v4 : Int32) (ρ : Rs) (F : ((3 * (iR ρ (40, 0, 0) 3)) ≤ v4 → (Y G [] ad0 M Q 76 (fun ad => [(0, .ref (ad (40, 0, 0))), (1, .int v1), (2, .int v2), (3, .int (v3 + 1))]) (fun ad => []) ρ)) ∧ (¬ (3 * (iR ρ (40, 0, 0) 3)) ≤ v4 → (vp_in v3 4096 ∧ (((iR ρ (41, 20, 0) (Int32.toNatClampNeg v3)) = v1 → (vp_in ((36 * v3) + v4) 147456 ∧ (vp_in v3 4096 ∧ ((¬ (iR ρ (41, 14, 0) (Int32.toNatClampNeg ((36 * v3) + v4))) = (-1) → (vp_in (iR ρ (41, 14, 0) (Int32.toNatClampNeg ((36 * v3) + v4))) 4096 ∧ ((iR ρ (41, 20, 0) (Int32.toNatClampNeg (iR ρ (41, 14, 0) (Int32.toNatClampNeg ((36 * v3) + v4))))) = (v1 - 1) → vp_in (iR ρ (41, 14, 0) (Int32.toNatClampNeg ((36 * v3) + v4))) 4096))) ∧ (∀ z11 : Int64, z11 = (if (iR ρ (41, 14, 0) (Int32.toNatClampNeg ((36 * v3) + v4))) = (-1) then 0 else (if (iR ρ (41, 20, 0) (Int32.toNatClampNeg (iR ρ (41, 14, 0) (Int32.toNatClampNeg ((36 * v3) + v4))))) = (v1 - 1) then (lR ρ (41, 33, 0) (Int32.toNatClampNeg (iR ρ (41, 14, 0) (Int32.toNatClampNeg ((36 * v3) + v4))))) else 0)) → (vp_in v3 4096 ∧ (∀ ρ12 : Rs, ρ12 = pL ρ (41, 33, 0) (Int32.toNatClampNeg v3) ((lR ρ (41, 33, 0) (Int32.toNatClampNeg v3)) + z11) → (Y G [] ad0 M Q 87 (fun ad => [(0, .ref (ad (40, 0, 0))), (1, .int v1), (2, .int v2), (3, .int v3), (4, .int (v4 + 1))]) (fun ad => []) ρ12)))))))) ∧ (¬ (iR ρ (41, 20, 0) (Int32.toNatClampNeg v3)) = v1 → (Y G [] ad0 M Q 76 (fun ad => [(0, .ref (ad (40, 0, 0))), (1, .int v1), (2, .int v2), (3, .int (v3 + 1))]) (fun ad => []) ρ)))))) : Y G [] ad0 M Q 87 (fun ad => [(0, .ref (ad (40, 0, 0))), (1, .int v1), (2, .int v2), (3, .int v3), (4, .int v4)]) (fun ad => []) ρ := by
  intro ad h hSt V
  show X G M Q 87 [(0, .ref (ad (40, 0, 0))), (1, .int v1), (2, .int v2), (3, .int v3), (4, .int v4)] [] h
  refine x_iload hM d_Mo_plays_87 4 rfl ?_
  refine x_iconst (v := 3) hM d_Mo_plays_89 (by decide) ?_
  refine x_aload_n hM d_Mo_plays_90 rfl 0 rfl ?_
  refine y_geti hG hM V ck_Mo 3 (Nat.le_of_ble_eq_true rfl) rfl rfl w_900 rfl d_Mo_plays_91 (40, 0, 0) rfl rfl ?_
  refine x_imul hM d_Mo_plays_94 ?_
  refine x_icmp_ge (tgt := 167) hM d_Mo_plays_95 (by decide) (fun q17 => ?_) (fun q17 => ?_)
  · replace F := F.1 q17
    refine x_iinc (v := (v3 + 1)) (lv2 := [(3, .int (v3 + 1)), (0, .ref (ad (40, 0, 0))), (1, .int v1), (2, .int v2), (4, .int v4)]) hM d_Mo_plays_167 (j := 3) rfl rfl (Nat.le_of_ble_eq_true rfl) rfl ?_
    refine x_goto (tgt := 76) hM d_Mo_plays_170 (by decide) ?_
    refine x_sub [1, 2, 3, 0] rfl ?_
    exact F _ _ hSt V
  · replace F := F.2 q17
    refine x_aload_n hM d_Mo_plays_98 rfl 0 rfl ?_
    refine y_getr hG hM V ck_Mo 20 (Nat.le_of_ble_eq_true rfl) rfl rfl w_917 rfl d_Mo_plays_99 (40, 0, 0) (41, 20, 0) rfl rfl rfl ?_
    refine x_iload_n hM d_Mo_plays_102 rfl 3 rfl ?_
    obtain ⟨c4, F⟩ := F
    refine y_iaload hG hM V d_Mo_plays_103 (41, 20, 0) rfl rfl (by rw [vlen V (r := (41, 20, 0)) rfl rfl]; exact c4) ?_
    refine x_iload_n hM d_Mo_plays_104 rfl 1 rfl ?_
    refine x_icmp_ne (tgt := 167) hM d_Mo_plays_105 (by decide) (fun q16 => ?_) (fun q16 => ?_)
    · replace F := F.2 q16
      refine x_iinc (v := (v3 + 1)) (lv2 := [(3, .int (v3 + 1)), (0, .ref (ad (40, 0, 0))), (1, .int v1), (2, .int v2), (4, .int v4)]) hM d_Mo_plays_167 (j := 3) rfl rfl (Nat.le_of_ble_eq_true rfl) rfl ?_
      refine x_goto (tgt := 76) hM d_Mo_plays_170 (by decide) ?_
      refine x_sub [1, 2, 3, 0] rfl ?_
      exact F _ _ hSt V
    · replace F := F.1 q16
      refine x_aload_n hM d_Mo_plays_108 rfl 0 rfl ?_
      refine y_getr hG hM V ck_Mo 14 (Nat.le_of_ble_eq_true rfl) rfl rfl w_911 rfl d_Mo_plays_109 (40, 0, 0) (41, 14, 0) rfl rfl rfl ?_
      refine x_bipush (v := 36) hM d_Mo_plays_112 (by decide) ?_
      refine x_iload_n hM d_Mo_plays_114 rfl 3 rfl ?_
      refine x_imul hM d_Mo_plays_115 ?_
      refine x_iload hM d_Mo_plays_116 4 rfl ?_
      refine x_iadd hM d_Mo_plays_118 ?_
      obtain ⟨c7, F⟩ := F
      refine y_iaload hG hM V d_Mo_plays_119 (41, 14, 0) rfl rfl (by rw [vlen V (r := (41, 14, 0)) rfl rfl]; exact c7) ?_
      refine x_istore (lv2 := [(5, .int (iR ρ (41, 14, 0) (Int32.toNatClampNeg ((36 * v3) + v4)))), (0, .ref (ad (40, 0, 0))), (1, .int v1), (2, .int v2), (3, .int v3), (4, .int v4)]) hM d_Mo_plays_120 (Nat.le_of_ble_eq_true rfl) rfl ?_
      refine x_aload_n hM d_Mo_plays_122 rfl 1 rfl ?_
      refine y_getr hG hM V ck_Mo 33 (Nat.le_of_ble_eq_true rfl) rfl rfl w_930 rfl d_Mo_plays_123 (40, 0, 0) (41, 33, 0) rfl rfl rfl ?_
      refine x_iload_n hM d_Mo_plays_126 rfl 4 rfl ?_
      refine x_dup2 hM d_Mo_plays_127 rfl rfl ?_
      obtain ⟨c8, F⟩ := F
      refine y_laload hG hM V d_Mo_plays_128 (41, 33, 0) rfl rfl (by rw [vlen V (r := (41, 33, 0)) rfl rfl]; exact c8) ?_
      refine x_iload hM d_Mo_plays_129 0 rfl ?_
      refine x_iconst (v := (-1)) hM d_Mo_plays_131 (by decide) ?_
      obtain ⟨S, F⟩ := F
      have JJ : ∀ (z11 : Int64) (ez11 : z11 = (if (iR ρ (41, 14, 0) (Int32.toNatClampNeg ((36 * v3) + v4))) = (-1) then 0 else (if (iR ρ (41, 20, 0) (Int32.toNatClampNeg (iR ρ (41, 14, 0) (Int32.toNatClampNeg ((36 * v3) + v4))))) = (v1 - 1) then (lR ρ (41, 33, 0) (Int32.toNatClampNeg (iR ρ (41, 14, 0) (Int32.toNatClampNeg ((36 * v3) + v4))))) else 0))), X G M Q 159 [(0, .ref (ad (40, 0, 0))), (1, .int v1), (2, .int v2), (3, .int v3), (4, .int v4)] [.long z11, .long (lR ρ (41, 33, 0) (Int32.toNatClampNeg v3)), .int v3, .ref (ad (41, 33, 0))] h := by
        intro z11 ez11
        replace F := F _ ez11
        refine x_ladd hM d_Mo_plays_159 ?_
        obtain ⟨c13, F⟩ := F
        obtain ⟨ρ12, eρ12⟩ : ∃ z : Rs, z = pL ρ (41, 33, 0) (Int32.toNatClampNeg v3) ((lR ρ (41, 33, 0) (Int32.toNatClampNeg v3)) + z11) := ⟨_, rfl⟩
        replace F := F ρ12 eρ12
        refine y_lastore hG hM V d_Mo_plays_160 (41, 33, 0) rfl rfl (by rw [vlen V (r := (41, 33, 0)) rfl rfl]; exact c13) (fun h V => ?_)
        rw [← eρ12] at V
        clear eρ12
        refine x_iinc (v := (v4 + 1)) (lv2 := [(4, .int (v4 + 1)), (0, .ref (ad (40, 0, 0))), (1, .int v1), (2, .int v2), (3, .int v3)]) hM d_Mo_plays_161 (j := 4) rfl rfl (Nat.le_of_ble_eq_true rfl) rfl ?_
        refine x_goto (tgt := 87) hM d_Mo_plays_164 (by decide) ?_
        refine x_sub [1, 2, 3, 4, 0] rfl ?_
        exact F _ _ hSt V
      refine x_icmp_eq (tgt := 158) hM d_Mo_plays_132 (by decide) (fun q14 => ?_) (fun q14 => ?_)
      · refine x_lconst (v := 0) hM d_Mo_plays_158 (by decide) ?_
        refine x_sub [1, 2, 3, 4, 5] rfl ?_
        exact JJ _ (Eq.symm (if_pos q14))
      · replace S := S q14
        refine x_aload_n hM d_Mo_plays_135 rfl 1 rfl ?_
        refine y_getr hG hM V ck_Mo 20 (Nat.le_of_ble_eq_true rfl) rfl rfl w_917 rfl d_Mo_plays_136 (40, 0, 0) (41, 20, 0) rfl rfl rfl ?_
        refine x_iload hM d_Mo_plays_139 0 rfl ?_
        obtain ⟨c9, S⟩ := S
        refine y_iaload hG hM V d_Mo_plays_141 (41, 20, 0) rfl rfl (by rw [vlen V (r := (41, 20, 0)) rfl rfl]; exact c9) ?_
        refine x_iload_n hM d_Mo_plays_142 rfl 2 rfl ?_
        refine x_iconst (v := 1) hM d_Mo_plays_143 (by decide) ?_
        refine x_isub hM d_Mo_plays_144 ?_
        refine x_icmp_ne (tgt := 158) hM d_Mo_plays_145 (by decide) (fun q15 => ?_) (fun q15 => ?_)
        · refine x_lconst (v := 0) hM d_Mo_plays_158 (by decide) ?_
          refine x_sub [1, 2, 3, 4, 5] rfl ?_
          exact JJ _ (Eq.symm (Eq.trans (if_neg q14) (if_neg q15)))
        · replace S := S q15
          refine x_aload_n hM d_Mo_plays_148 rfl 1 rfl ?_
          refine y_getr hG hM V ck_Mo 33 (Nat.le_of_ble_eq_true rfl) rfl rfl w_930 rfl d_Mo_plays_149 (40, 0, 0) (41, 33, 0) rfl rfl rfl ?_
          refine x_iload hM d_Mo_plays_152 0 rfl ?_
          have c10 := S
          refine y_laload hG hM V d_Mo_plays_154 (41, 33, 0) rfl rfl (by rw [vlen V (r := (41, 33, 0)) rfl rfl]; exact c10) ?_
          refine x_goto (tgt := 159) hM d_Mo_plays_155 (by decide) ?_
          refine x_sub [1, 2, 3, 4, 5] rfl ?_
          exact JJ _ (Eq.symm (Eq.trans (if_neg q14) (if_pos q15)))
set_option maxRecDepth 100000 in
set_option maxHeartbeats 4000000 in
theorem T_Mo_needed_0 {G : Gc} {M : Mc} {Q : State → Prop} {ad0 : Ro → Nat} {K : (Ro → Nat) → Option Value → Rs → Prop} (hG : gok G) (hM : mok G M r_Mo_needed Q (KV G [] ad0 K))  (ρ : Rs) (F : semV G r_Mo_lay [] (fun ad => [.ref (ad (40, 0, 0))]) ρ (fun ad u2 ρ1 => u2 = none ∧ (Y G [] ad0 M Q 8 (fun ad => [(0, .ref (ad (40, 0, 0))), (1, .int 0), (2, .int 0)]) (fun ad => []) ρ1))) : Y G [] ad0 M Q 0 (fun ad => [(0, .ref (ad (40, 0, 0)))]) (fun ad => []) ρ := by
  intro ad h hSt V
  show X G M Q 0 [(0, .ref (ad (40, 0, 0)))] [] h
  refine x_aload_n hM d_Mo_needed_0 rfl 0 rfl ?_
  refine x_callV hG hM (r' := r_Mo_lay) (ci := 11) [] rfl rfl (Nat.le_of_ble_eq_true rfl) yk_Mo_lay ⟨Nat.le_of_ble_eq_true rfl, Nat.le_of_ble_eq_true rfl⟩ w_1112 w_1114 ws_Mo_lay rfl rfl (Nat.le_of_ble_eq_true rfl) d_Mo_needed_1 (by rw [vT V rfl]; rfl) (sem_mono (F _ _ V) ?_)
  intro u2 h F
  obtain ⟨ad4, ρ1, V, hs3, F⟩ := F
  obtain ⟨rfl, F⟩ := F
  have hs3 := (St_eq hs3).symm
  subst hs3
  refine x_iconst (v := 0) hM d_Mo_needed_4 (by decide) ?_
  refine x_istore_n (lv2 := [(1, .int 0), (0, .ref (ad (40, 0, 0)))]) hM d_Mo_needed_5 rfl (Nat.le_of_ble_eq_true rfl) rfl ?_
  refine x_iconst (v := 0) hM d_Mo_needed_6 (by decide) ?_
  refine x_istore_n (lv2 := [(2, .int 0), (1, .int 0), (0, .ref (ad (40, 0, 0)))]) hM d_Mo_needed_7 rfl (Nat.le_of_ble_eq_true rfl) rfl ?_
  refine x_sub [2, 1, 0] rfl ?_
  exact F _ _ hSt V
set_option maxRecDepth 100000 in
set_option maxHeartbeats 4000000 in
theorem T_Mo_needed_8 {G : Gc} {M : Mc} {Q : State → Prop} {ad0 : Ro → Nat} {K : (Ro → Nat) → Option Value → Rs → Prop} (hG : gok G) (hM : mok G M r_Mo_needed Q (KV G [] ad0 K)) (v1 : Int32) (v2 : Int32) (ρ : Rs) (F : ((iR ρ (40, 0, 0) 3) ≤ v2 → (∀ ad, K ad (some (.int v1)) ρ)) ∧ (¬ (iR ρ (40, 0, 0) 3) ≤ v2 → (semV G r_Mo_isReachedWithout [] (fun ad => [.ref (ad (40, 0, 0)), .int v2, .int (-1), .int 0]) ρ (fun ad u2 ρ1 => ∃ x4 : Int32, u2 = some (.int x4) ∧ (∀ z5 : Int32, z5 = (if x4 = 0 then (1 <<< (v2 &&& 31)) else 0) → (Y G [] ad0 M Q 8 (fun ad => [(0, .ref (ad (40, 0, 0))), (1, .int (v1 ||| z5)), (2, .int (v2 + 1))]) (fun ad => []) ρ1)))))) : Y G [] ad0 M Q 8 (fun ad => [(0, .ref (ad (40, 0, 0))), (1, .int v1), (2, .int v2)]) (fun ad => []) ρ := by
  intro ad h hSt V
  show X G M Q 8 [(0, .ref (ad (40, 0, 0))), (1, .int v1), (2, .int v2)] [] h
  refine x_iload_n hM d_Mo_needed_8 rfl 2 rfl ?_
  refine x_aload_n hM d_Mo_needed_9 rfl 0 rfl ?_
  refine y_geti hG hM V ck_Mo 3 (Nat.le_of_ble_eq_true rfl) rfl rfl w_900 rfl d_Mo_needed_10 (40, 0, 0) rfl rfl ?_
  refine x_icmp_ge (tgt := 42) hM d_Mo_needed_13 (by decide) (fun q8 => ?_) (fun q8 => ?_)
  · replace F := F.1 q8
    refine x_iload_n hM d_Mo_needed_42 rfl 1 rfl ?_
    exact x_ireturn hM d_Mo_needed_43 rfl (y_end V hSt (F _))
  · replace F := F.2 q8
    refine x_iload_n hM d_Mo_needed_16 rfl 1 rfl ?_
    refine x_aload_n hM d_Mo_needed_17 rfl 0 rfl ?_
    refine x_iload_n hM d_Mo_needed_18 rfl 2 rfl ?_
    refine x_iconst (v := (-1)) hM d_Mo_needed_19 (by decide) ?_
    refine x_iconst (v := 0) hM d_Mo_needed_20 (by decide) ?_
    refine x_callV hG hM (r' := r_Mo_isReachedWithout) (ci := 11) [.int v2, .int (-1), .int 0] rfl rfl (Nat.le_of_ble_eq_true rfl) yk_Mo_isReachedWithout ⟨Nat.le_of_ble_eq_true rfl, Nat.le_of_ble_eq_true rfl⟩ w_1181 w_1183 ws_Mo_isReachedWithout rfl rfl (Nat.le_of_ble_eq_true rfl) d_Mo_needed_21 (by rw [vT V rfl]; rfl) (sem_mono (F _ _ V) ?_)
    intro u2 h F
    obtain ⟨ad7, ρ1, V, hs3, F⟩ := F
    obtain ⟨x4, rfl, F⟩ := F
    have hs3 := (St_eq hs3).symm
    subst hs3
    have JJ : ∀ (z5 : Int32) (ez5 : z5 = (if x4 = 0 then (1 <<< (v2 &&& 31)) else 0)), X G M Q 34 [(0, .ref (ad (40, 0, 0))), (2, .int v2)] [.int z5, .int v1] h := by
      intro z5 ez5
      replace F := F _ ez5
      refine x_ior hM d_Mo_needed_34 ?_
      refine x_istore_n (lv2 := [(1, .int (v1 ||| z5)), (0, .ref (ad (40, 0, 0))), (2, .int v2)]) hM d_Mo_needed_35 rfl (Nat.le_of_ble_eq_true rfl) rfl ?_
      refine x_iinc (v := (v2 + 1)) (lv2 := [(2, .int (v2 + 1)), (1, .int (v1 ||| z5)), (0, .ref (ad (40, 0, 0)))]) hM d_Mo_needed_36 (j := 2) rfl rfl (Nat.le_of_ble_eq_true rfl) rfl ?_
      refine x_goto (tgt := 8) hM d_Mo_needed_39 (by decide) ?_
      refine x_sub [2, 1, 0] rfl ?_
      exact F _ _ hSt V
    refine x_if_eq (tgt := 31) hM d_Mo_needed_24 (by decide) (fun q6 => ?_) (fun q6 => ?_)
    · refine x_iconst (v := 1) hM d_Mo_needed_31 (by decide) ?_
      refine x_iload_n hM d_Mo_needed_32 rfl 2 rfl ?_
      refine x_ishl hM d_Mo_needed_33 ?_
      refine x_sub [0, 2] rfl ?_
      exact JJ _ (Eq.symm (if_pos q6))
    · refine x_iconst (v := 0) hM d_Mo_needed_27 (by decide) ?_
      refine x_goto (tgt := 34) hM d_Mo_needed_28 (by decide) ?_
      refine x_sub [0, 2] rfl ?_
      exact JJ _ (Eq.symm (if_neg q6))
set_option maxRecDepth 100000 in
set_option maxHeartbeats 4000000 in
theorem T_Mo_isReachedWithout_0 {G : Gc} {M : Mc} {Q : State → Prop} {ad0 : Ro → Nat} {K : (Ro → Nat) → Option Value → Rs → Prop} (hG : gok G) (hM : mok G M r_Mo_isReachedWithout Q (KV G [] ad0 K)) (v1 : Int32) (v2 : Int32) (v3 : Int32) (ρ : Rs) (F : Y G [] ad0 M Q 3 (fun ad => [(0, .ref (ad (40, 0, 0))), (1, .int v1), (2, .int v2), (3, .int v3), (4, .int 0)]) (fun ad => []) ρ) : Y G [] ad0 M Q 0 (fun ad => [(0, .ref (ad (40, 0, 0))), (1, .int v1), (2, .int v2), (3, .int v3)]) (fun ad => []) ρ := by
  intro ad h hSt V
  show X G M Q 0 [(0, .ref (ad (40, 0, 0))), (1, .int v1), (2, .int v2), (3, .int v3)] [] h
  refine x_iconst (v := 0) hM d_Mo_isReachedWithout_0 (by decide) ?_
  refine x_istore (lv2 := [(4, .int 0), (0, .ref (ad (40, 0, 0))), (1, .int v1), (2, .int v2), (3, .int v3)]) hM d_Mo_isReachedWithout_1 (Nat.le_of_ble_eq_true rfl) rfl ?_
  refine x_sub [1, 2, 3, 4, 0] rfl ?_
  exact F _ _ hSt V
set_option maxRecDepth 100000 in
set_option maxHeartbeats 4000000 in
theorem T_Mo_isReachedWithout_3 {G : Gc} {M : Mc} {Q : State → Prop} {ad0 : Ro → Nat} {K : (Ro → Nat) → Option Value → Rs → Prop} (hG : gok G) (hM : mok G M r_Mo_isReachedWithout Q (KV G [] ad0 K)) (v1 : Int32) (v2 : Int32) (v3 : Int32) (v4 : Int32) (ρ : Rs) (F : ((iR ρ (40, 0, 0) 13) ≤ v4 → (semV G r_Mo_isBarred [] (fun ad => [.ref (ad (40, 0, 0)), .int (iR ρ (40, 0, 0) 2), .int v2, .int v3]) ρ (fun ad u2 ρ1 => ∃ x4 : Int32, u2 = some (.int x4) ∧ ((x4 = 0 → (vp_in (iR ρ1 (40, 0, 0) 2) 4096 ∧ (∀ ρ5 : Rs, ρ5 = pI ρ1 (41, 34, 0) (Int32.toNatClampNeg (iR ρ1 (40, 0, 0) 2)) 1 → (vp_in 0 4096 ∧ (∀ ρ6 : Rs, ρ6 = pI ρ5 (41, 23, 0) (Int32.toNatClampNeg 0) (iR ρ5 (40, 0, 0) 2) → (Y G [] ad0 M Q 68 (fun ad => [(0, .ref (ad (40, 0, 0))), (1, .int v1), (2, .int v2), (3, .int v3), (4, .int 1), (5, .int 0)]) (fun ad => []) ρ6)))))) ∧ (¬ x4 = 0 → (Y G [] ad0 M Q 68 (fun ad => [(0, .ref (ad (40, 0, 0))), (1, .int v1), (2, .int v2), (3, .int v3), (4, .int 0), (5, .int 0)]) (fun ad => []) ρ1)))))) ∧ (¬ (iR ρ (40, 0, 0) 13) ≤ v4 → (vp_in v4 4096 ∧ (∀ ρ11 : Rs, ρ11 = pI ρ (41, 34, 0) (Int32.toNatClampNeg v4) 0 → (Y G [] ad0 M Q 3 (fun ad => [(0, .ref (ad (40, 0, 0))), (1, .int v1), (2, .int v2), (3, .int v3), (4, .int (v4 + 1))]) (fun ad => []) ρ11))))) : Y G [] ad0 M Q 3 (fun ad => [(0, .ref (ad (40, 0, 0))), (1, .int v1), (2, .int v2), (3, .int v3), (4, .int v4)]) (fun ad => []) ρ := by
  intro ad h hSt V
  show X G M Q 3 [(0, .ref (ad (40, 0, 0))), (1, .int v1), (2, .int v2), (3, .int v3), (4, .int v4)] [] h
  refine x_iload hM d_Mo_isReachedWithout_3 4 rfl ?_
  refine x_aload_n hM d_Mo_isReachedWithout_5 rfl 0 rfl ?_
  refine y_geti hG hM V ck_Mo 13 (Nat.le_of_ble_eq_true rfl) rfl rfl w_910 rfl d_Mo_isReachedWithout_6 (40, 0, 0) rfl rfl ?_
  refine x_icmp_ge (tgt := 26) hM d_Mo_isReachedWithout_9 (by decide) (fun q13 => ?_) (fun q13 => ?_)
  · replace F := F.1 q13
    refine x_iconst (v := 0) hM d_Mo_isReachedWithout_26 (by decide) ?_
    refine x_istore (lv2 := [(4, .int 0), (0, .ref (ad (40, 0, 0))), (1, .int v1), (2, .int v2), (3, .int v3)]) hM d_Mo_isReachedWithout_27 (Nat.le_of_ble_eq_true rfl) rfl ?_
    refine x_aload_n hM d_Mo_isReachedWithout_29 rfl 1 rfl ?_
    refine x_aload_n hM d_Mo_isReachedWithout_30 rfl 1 rfl ?_
    refine y_geti hG hM V ck_Mo 2 (Nat.le_of_ble_eq_true rfl) rfl rfl w_899 rfl d_Mo_isReachedWithout_31 (40, 0, 0) rfl rfl ?_
    refine x_iload_n hM d_Mo_isReachedWithout_34 rfl 3 rfl ?_
    refine x_iload_n hM d_Mo_isReachedWithout_35 rfl 4 rfl ?_
    refine x_callV hG hM (r' := r_Mo_isBarred) (ci := 11) [.int (iR ρ (40, 0, 0) 2), .int v2, .int v3] rfl rfl (Nat.le_of_ble_eq_true rfl) yk_Mo_isBarred ⟨Nat.le_of_ble_eq_true rfl, Nat.le_of_ble_eq_true rfl⟩ w_1185 w_1187 ws_Mo_isBarred rfl rfl (Nat.le_of_ble_eq_true rfl) d_Mo_isReachedWithout_36 (by rw [vT V rfl]; rfl) (sem_mono (F _ _ V) ?_)
    intro u2 h F
    obtain ⟨ad10, ρ1, V, hs3, F⟩ := F
    obtain ⟨x4, rfl, F⟩ := F
    have hs3 := (St_eq hs3).symm
    subst hs3
    refine x_if_ne (tgt := 65) hM d_Mo_isReachedWithout_39 (by decide) (fun q9 => ?_) (fun q9 => ?_)
    · replace F := F.2 q9
      refine x_iconst (v := 0) hM d_Mo_isReachedWithout_65 (by decide) ?_
      refine x_istore (lv2 := [(5, .int 0), (4, .int 0), (0, .ref (ad (40, 0, 0))), (1, .int v1), (2, .int v2), (3, .int v3)]) hM d_Mo_isReachedWithout_66 (Nat.le_of_ble_eq_true rfl) rfl ?_
      refine x_sub [2, 3, 4, 5, 1, 0] rfl ?_
      exact F _ _ hSt V
    · replace F := F.1 q9
      refine x_aload_n hM d_Mo_isReachedWithout_42 rfl 1 rfl ?_
      refine y_getr hG hM V ck_Mo 34 (Nat.le_of_ble_eq_true rfl) rfl rfl w_931 rfl d_Mo_isReachedWithout_43 (40, 0, 0) (41, 34, 0) rfl rfl rfl ?_
      refine x_aload_n hM d_Mo_isReachedWithout_46 rfl 1 rfl ?_
      refine y_geti hG hM V ck_Mo 2 (Nat.le_of_ble_eq_true rfl) rfl rfl w_899 rfl d_Mo_isReachedWithout_47 (40, 0, 0) rfl rfl ?_
      refine x_iconst (v := 1) hM d_Mo_isReachedWithout_50 (by decide) ?_
      obtain ⟨c8, F⟩ := F
      obtain ⟨ρ5, eρ5⟩ : ∃ z : Rs, z = pI ρ1 (41, 34, 0) (Int32.toNatClampNeg (iR ρ1 (40, 0, 0) 2)) 1 := ⟨_, rfl⟩
      replace F := F ρ5 eρ5
      refine y_zastore hG hM V d_Mo_isReachedWithout_51 (41, 34, 0) rfl rfl (by rw [vlen V (r := (41, 34, 0)) rfl rfl]; exact c8) (Or.inr rfl) (fun h V => ?_)
      rw [← eρ5] at V
      clear eρ5
      refine x_aload_n hM d_Mo_isReachedWithout_52 rfl 1 rfl ?_
      refine y_getr hG hM V ck_Mo 23 (Nat.le_of_ble_eq_true rfl) rfl rfl w_920 rfl d_Mo_isReachedWithout_53 (40, 0, 0) (41, 23, 0) rfl rfl rfl ?_
      refine x_iconst (v := 0) hM d_Mo_isReachedWithout_56 (by decide) ?_
      refine x_aload_n hM d_Mo_isReachedWithout_57 rfl 1 rfl ?_
      refine y_geti hG hM V ck_Mo 2 (Nat.le_of_ble_eq_true rfl) rfl rfl w_899 rfl d_Mo_isReachedWithout_58 (40, 0, 0) rfl rfl ?_
      obtain ⟨c7, F⟩ := F
      obtain ⟨ρ6, eρ6⟩ : ∃ z : Rs, z = pI ρ5 (41, 23, 0) (Int32.toNatClampNeg 0) (iR ρ5 (40, 0, 0) 2) := ⟨_, rfl⟩
      replace F := F ρ6 eρ6
      refine y_iastore hG hM V d_Mo_isReachedWithout_61 (41, 23, 0) rfl rfl (by rw [vlen V (r := (41, 23, 0)) rfl rfl]; exact c7) (fun h V => ?_)
      rw [← eρ6] at V
      clear eρ6
      refine x_iconst (v := 1) hM d_Mo_isReachedWithout_62 (by decide) ?_
      refine x_istore (lv2 := [(4, .int 1), (0, .ref (ad (40, 0, 0))), (1, .int v1), (2, .int v2), (3, .int v3)]) hM d_Mo_isReachedWithout_63 (Nat.le_of_ble_eq_true rfl) rfl ?_
      refine x_iconst (v := 0) hM d_Mo_isReachedWithout_65 (by decide) ?_
      refine x_istore (lv2 := [(5, .int 0), (4, .int 1), (0, .ref (ad (40, 0, 0))), (1, .int v1), (2, .int v2), (3, .int v3)]) hM d_Mo_isReachedWithout_66 (Nat.le_of_ble_eq_true rfl) rfl ?_
      refine x_sub [2, 3, 4, 5, 1, 0] rfl ?_
      exact F _ _ hSt V
  · replace F := F.2 q13
    refine x_aload_n hM d_Mo_isReachedWithout_12 rfl 0 rfl ?_
    refine y_getr hG hM V ck_Mo 34 (Nat.le_of_ble_eq_true rfl) rfl rfl w_931 rfl d_Mo_isReachedWithout_13 (40, 0, 0) (41, 34, 0) rfl rfl rfl ?_
    refine x_iload hM d_Mo_isReachedWithout_16 4 rfl ?_
    refine x_iconst (v := 0) hM d_Mo_isReachedWithout_18 (by decide) ?_
    obtain ⟨c12, F⟩ := F
    obtain ⟨ρ11, eρ11⟩ : ∃ z : Rs, z = pI ρ (41, 34, 0) (Int32.toNatClampNeg v4) 0 := ⟨_, rfl⟩
    replace F := F ρ11 eρ11
    refine y_zastore hG hM V d_Mo_isReachedWithout_19 (41, 34, 0) rfl rfl (by rw [vlen V (r := (41, 34, 0)) rfl rfl]; exact c12) (Or.inl rfl) (fun h V => ?_)
    rw [← eρ11] at V
    clear eρ11
    refine x_iinc (v := (v4 + 1)) (lv2 := [(4, .int (v4 + 1)), (0, .ref (ad (40, 0, 0))), (1, .int v1), (2, .int v2), (3, .int v3)]) hM d_Mo_isReachedWithout_20 (j := 4) rfl rfl (Nat.le_of_ble_eq_true rfl) rfl ?_
    refine x_goto (tgt := 3) hM d_Mo_isReachedWithout_23 (by decide) ?_
    refine x_sub [1, 2, 3, 4, 0] rfl ?_
    exact F _ _ hSt V
set_option maxRecDepth 100000 in
set_option maxHeartbeats 4000000 in
theorem T_Mo_isReachedWithout_68 {G : Gc} {M : Mc} {Q : State → Prop} {ad0 : Ro → Nat} {K : (Ro → Nat) → Option Value → Rs → Prop} (hG : gok G) (hM : mok G M r_Mo_isReachedWithout Q (KV G [] ad0 K)) (v1 : Int32) (v2 : Int32) (v3 : Int32) (v4 : Int32) (v5 : Int32) (ρ : Rs) (F : (v4 ≤ v5 → (∀ ad, K ad (some (.int 0)) ρ)) ∧ (¬ v4 ≤ v5 → (vp_in v5 4096 ∧ (vp_in (iR ρ (41, 23, 0) (Int32.toNatClampNeg v5)) 4096 ∧ (((iR ρ (41, 15, 0) (Int32.toNatClampNeg (iR ρ (41, 23, 0) (Int32.toNatClampNeg v5)))) = 0 → (Y G [] ad0 M Q 99 (fun ad => [(0, .ref (ad (40, 0, 0))), (1, .int v1), (2, .int v2), (3, .int v3), (4, .int v4), (5, .int v5), (6, .int (iR ρ (41, 23, 0) (Int32.toNatClampNeg v5))), (7, .int 0)]) (fun ad => []) ρ)) ∧ (¬ (iR ρ (41, 15, 0) (Int32.toNatClampNeg (iR ρ (41, 23, 0) (Int32.toNatClampNeg v5)))) = 0 → (∀ ad, K ad (some (.int 1)) ρ))))))) : Y G [] ad0 M Q 68 (fun ad => [(0, .ref (ad (40, 0, 0))), (1, .int v1), (2, .int v2), (3, .int v3), (4, .int v4), (5, .int v5)]) (fun ad => []) ρ := by
  intro ad h hSt V
  show X G M Q 68 [(0, .ref (ad (40, 0, 0))), (1, .int v1), (2, .int v2), (3, .int v3), (4, .int v4), (5, .int v5)] [] h
  refine x_iload hM d_Mo_isReachedWithout_68 5 rfl ?_
  refine x_iload hM d_Mo_isReachedWithout_70 4 rfl ?_
  refine x_icmp_ge (tgt := 192) hM d_Mo_isReachedWithout_72 (by decide) (fun q4 => ?_) (fun q4 => ?_)
  · replace F := F.1 q4
    refine x_iconst (v := 0) hM d_Mo_isReachedWithout_192 (by decide) ?_
    exact x_zreturn hM d_Mo_isReachedWithout_193 rfl (Or.inl rfl) (y_end V hSt (F _))
  · replace F := F.2 q4
    refine x_aload_n hM d_Mo_isReachedWithout_75 rfl 0 rfl ?_
    refine y_getr hG hM V ck_Mo 23 (Nat.le_of_ble_eq_true rfl) rfl rfl w_920 rfl d_Mo_isReachedWithout_76 (40, 0, 0) (41, 23, 0) rfl rfl rfl ?_
    refine x_iload hM d_Mo_isReachedWithout_79 5 rfl ?_
    obtain ⟨c1, F⟩ := F
    refine y_iaload hG hM V d_Mo_isReachedWithout_81 (41, 23, 0) rfl rfl (by rw [vlen V (r := (41, 23, 0)) rfl rfl]; exact c1) ?_
    refine x_istore (lv2 := [(6, .int (iR ρ (41, 23, 0) (Int32.toNatClampNeg v5))), (0, .ref (ad (40, 0, 0))), (1, .int v1), (2, .int v2), (3, .int v3), (4, .int v4), (5, .int v5)]) hM d_Mo_isReachedWithout_82 (Nat.le_of_ble_eq_true rfl) rfl ?_
    refine x_aload_n hM d_Mo_isReachedWithout_84 rfl 1 rfl ?_
    refine y_getr hG hM V ck_Mo 15 (Nat.le_of_ble_eq_true rfl) rfl rfl w_912 rfl d_Mo_isReachedWithout_85 (40, 0, 0) (41, 15, 0) rfl rfl rfl ?_
    refine x_iload hM d_Mo_isReachedWithout_88 0 rfl ?_
    obtain ⟨c2, F⟩ := F
    refine y_zaload hG hM V d_Mo_isReachedWithout_90 (41, 15, 0) rfl rfl (by rw [vlen V (r := (41, 15, 0)) rfl rfl]; exact c2) ?_
    refine x_if_eq (tgt := 96) hM d_Mo_isReachedWithout_91 (by decide) (fun q3 => ?_) (fun q3 => ?_)
    · replace F := F.1 q3
      refine x_iconst (v := 0) hM d_Mo_isReachedWithout_96 (by decide) ?_
      refine x_istore (lv2 := [(7, .int 0), (6, .int (iR ρ (41, 23, 0) (Int32.toNatClampNeg v5))), (0, .ref (ad (40, 0, 0))), (1, .int v1), (2, .int v2), (3, .int v3), (4, .int v4), (5, .int v5)]) hM d_Mo_isReachedWithout_97 (Nat.le_of_ble_eq_true rfl) rfl ?_
      refine x_sub [2, 3, 4, 5, 6, 7, 1, 0] rfl ?_
      exact F _ _ hSt V
    · replace F := F.2 q3
      refine x_iconst (v := 1) hM d_Mo_isReachedWithout_94 (by decide) ?_
      exact x_zreturn hM d_Mo_isReachedWithout_95 rfl (Or.inr rfl) (y_end V hSt (F _))
set_option maxRecDepth 100000 in
set_option maxHeartbeats 4000000 in
theorem T_Mo_isReachedWithout_99 {G : Gc} {M : Mc} {Q : State → Prop} {ad0 : Ro → Nat} {K : (Ro → Nat) → Option Value → Rs → Prop} (hG : gok G) (hM : mok G M r_Mo_isReachedWithout Q (KV G [] ad0 K)) (v1 : Int32) (v2 : Int32) (v3 : Int32) (v4 : Int32) (v5 : Int32) (v6 : Int32) (v7 : Int32) (ρ : Rs) (F : ((3 * (iR ρ (40, 0, 0) 3)) ≤ v7 → (Y G [] ad0 M Q 68 (fun ad => [(0, .ref (ad (40, 0, 0))), (1, .int v1), (2, .int v2), (3, .int v3), (4, .int v4), (5, .int (v5 + 1))]) (fun ad => []) ρ)) ∧ (¬ (3 * (iR ρ (40, 0, 0) 3)) ≤ v7 → (vp_in ((36 * v6) + v7) 147456 ∧ (((iR ρ (41, 14, 0) (Int32.toNatClampNeg ((36 * v6) + v7))) = (-1) → (Y G [] ad0 M Q 99 (fun ad => [(0, .ref (ad (40, 0, 0))), (1, .int v1), (2, .int v2), (3, .int v3), (4, .int v4), (5, .int v5), (6, .int v6), (7, .int (v7 + 1))]) (fun ad => []) ρ)) ∧ (¬ (iR ρ (41, 14, 0) (Int32.toNatClampNeg ((36 * v6) + v7))) = (-1) → (((v7 / 3) = v1 → (Y G [] ad0 M Q 99 (fun ad => [(0, .ref (ad (40, 0, 0))), (1, .int v1), (2, .int v2), (3, .int v3), (4, .int v4), (5, .int v5), (6, .int v6), (7, .int (v7 + 1))]) (fun ad => []) ρ)) ∧ (¬ (v7 / 3) = v1 → (vp_in (iR ρ (41, 14, 0) (Int32.toNatClampNeg ((36 * v6) + v7))) 4096 ∧ (((iR ρ (41, 34, 0) (Int32.toNatClampNeg (iR ρ (41, 14, 0) (Int32.toNatClampNeg ((36 * v6) + v7))))) = 0 → (semV G r_Mo_isBarred [] (fun ad => [.ref (ad (40, 0, 0)), .int (iR ρ (41, 14, 0) (Int32.toNatClampNeg ((36 * v6) + v7))), .int v2, .int v3]) ρ (fun ad u7 ρ6 => ∃ x9 : Int32, u7 = some (.int x9) ∧ ((x9 = 0 → (vp_in (iR ρ (41, 14, 0) (Int32.toNatClampNeg ((36 * v6) + v7))) 4096 ∧ (∀ ρ10 : Rs, ρ10 = pI ρ6 (41, 34, 0) (Int32.toNatClampNeg (iR ρ (41, 14, 0) (Int32.toNatClampNeg ((36 * v6) + v7)))) 1 → (vp_in v4 4096 ∧ (∀ ρ11 : Rs, ρ11 = pI ρ10 (41, 23, 0) (Int32.toNatClampNeg v4) (iR ρ (41, 14, 0) (Int32.toNatClampNeg ((36 * v6) + v7))) → (Y G [] ad0 M Q 99 (fun ad => [(0, .ref (ad (40, 0, 0))), (1, .int v1), (2, .int v2), (3, .int v3), (4, .int (v4 + 1)), (5, .int v5), (6, .int v6), (7, .int (v7 + 1))]) (fun ad => []) ρ11)))))) ∧ (¬ x9 = 0 → (Y G [] ad0 M Q 99 (fun ad => [(0, .ref (ad (40, 0, 0))), (1, .int v1), (2, .int v2), (3, .int v3), (4, .int v4), (5, .int v5), (6, .int v6), (7, .int (v7 + 1))]) (fun ad => []) ρ6)))))) ∧ (¬ (iR ρ (41, 34, 0) (Int32.toNatClampNeg (iR ρ (41, 14, 0) (Int32.toNatClampNeg ((36 * v6) + v7))))) = 0 → (Y G [] ad0 M Q 99 (fun ad => [(0, .ref (ad (40, 0, 0))), (1, .int v1), (2, .int v2), (3, .int v3), (4, .int v4), (5, .int v5), (6, .int v6), (7, .int (v7 + 1))]) (fun ad => []) ρ))))))))))) : Y G [] ad0 M Q 99 (fun ad => [(0, .ref (ad (40, 0, 0))), (1, .int v1), (2, .int v2), (3, .int v3), (4, .int v4), (5, .int v5), (6, .int v6), (7, .int v7)]) (fun ad => []) ρ := by
  intro ad h hSt V
  show X G M Q 99 [(0, .ref (ad (40, 0, 0))), (1, .int v1), (2, .int v2), (3, .int v3), (4, .int v4), (5, .int v5), (6, .int v6), (7, .int v7)] [] h
  refine x_iload hM d_Mo_isReachedWithout_99 7 rfl ?_
  refine x_iconst (v := 3) hM d_Mo_isReachedWithout_101 (by decide) ?_
  refine x_aload_n hM d_Mo_isReachedWithout_102 rfl 0 rfl ?_
  refine y_geti hG hM V ck_Mo 3 (Nat.le_of_ble_eq_true rfl) rfl rfl w_900 rfl d_Mo_isReachedWithout_103 (40, 0, 0) rfl rfl ?_
  refine x_imul hM d_Mo_isReachedWithout_106 ?_
  refine x_icmp_ge (tgt := 186) hM d_Mo_isReachedWithout_107 (by decide) (fun q19 => ?_) (fun q19 => ?_)
  · replace F := F.1 q19
    refine x_iinc (v := (v5 + 1)) (lv2 := [(5, .int (v5 + 1)), (0, .ref (ad (40, 0, 0))), (1, .int v1), (2, .int v2), (3, .int v3), (4, .int v4), (6, .int v6), (7, .int v7)]) hM d_Mo_isReachedWithout_186 (j := 5) rfl rfl (Nat.le_of_ble_eq_true rfl) rfl ?_
    refine x_goto (tgt := 68) hM d_Mo_isReachedWithout_189 (by decide) ?_
    refine x_sub [1, 2, 3, 4, 5, 0] rfl ?_
    exact F _ _ hSt V
  · replace F := F.2 q19
    refine x_aload_n hM d_Mo_isReachedWithout_110 rfl 0 rfl ?_
    refine y_getr hG hM V ck_Mo 14 (Nat.le_of_ble_eq_true rfl) rfl rfl w_911 rfl d_Mo_isReachedWithout_111 (40, 0, 0) (41, 14, 0) rfl rfl rfl ?_
    refine x_bipush (v := 36) hM d_Mo_isReachedWithout_114 (by decide) ?_
    refine x_iload hM d_Mo_isReachedWithout_116 6 rfl ?_
    refine x_imul hM d_Mo_isReachedWithout_118 ?_
    refine x_iload hM d_Mo_isReachedWithout_119 7 rfl ?_
    refine x_iadd hM d_Mo_isReachedWithout_121 ?_
    obtain ⟨c2, F⟩ := F
    refine y_iaload hG hM V d_Mo_isReachedWithout_122 (41, 14, 0) rfl rfl (by rw [vlen V (r := (41, 14, 0)) rfl rfl]; exact c2) ?_
    refine x_istore (lv2 := [(8, .int (iR ρ (41, 14, 0) (Int32.toNatClampNeg ((36 * v6) + v7)))), (0, .ref (ad (40, 0, 0))), (1, .int v1), (2, .int v2), (3, .int v3), (4, .int v4), (5, .int v5), (6, .int v6), (7, .int v7)]) hM d_Mo_isReachedWithout_123 (Nat.le_of_ble_eq_true rfl) rfl ?_
    refine x_iload hM d_Mo_isReachedWithout_125 0 rfl ?_
    refine x_iconst (v := (-1)) hM d_Mo_isReachedWithout_127 (by decide) ?_
    refine x_icmp_eq (tgt := 180) hM d_Mo_isReachedWithout_128 (by decide) (fun q18 => ?_) (fun q18 => ?_)
    · replace F := F.1 q18
      refine x_iinc (v := (v7 + 1)) (lv2 := [(7, .int (v7 + 1)), (8, .int (iR ρ (41, 14, 0) (Int32.toNatClampNeg ((36 * v6) + v7)))), (0, .ref (ad (40, 0, 0))), (1, .int v1), (2, .int v2), (3, .int v3), (4, .int v4), (5, .int v5), (6, .int v6)]) hM d_Mo_isReachedWithout_180 (j := 8) rfl rfl (Nat.le_of_ble_eq_true rfl) rfl ?_
      refine x_goto (tgt := 99) hM d_Mo_isReachedWithout_183 (by decide) ?_
      refine x_sub [2, 3, 4, 5, 6, 7, 8, 0] rfl ?_
      exact F _ _ hSt V
    · replace F := F.2 q18
      refine x_iload hM d_Mo_isReachedWithout_131 8 rfl ?_
      refine x_iconst (v := 3) hM d_Mo_isReachedWithout_133 (by decide) ?_
      refine x_idiv hM d_Mo_isReachedWithout_134 (by decide) ?_
      refine x_iload_n hM d_Mo_isReachedWithout_135 rfl 2 rfl ?_
      refine x_icmp_eq (tgt := 180) hM d_Mo_isReachedWithout_136 (by decide) (fun q17 => ?_) (fun q17 => ?_)
      · replace F := F.1 q17
        refine x_iinc (v := (v7 + 1)) (lv2 := [(7, .int (v7 + 1)), (8, .int (iR ρ (41, 14, 0) (Int32.toNatClampNeg ((36 * v6) + v7)))), (0, .ref (ad (40, 0, 0))), (1, .int v1), (2, .int v2), (3, .int v3), (4, .int v4), (5, .int v5), (6, .int v6)]) hM d_Mo_isReachedWithout_180 (j := 8) rfl rfl (Nat.le_of_ble_eq_true rfl) rfl ?_
        refine x_goto (tgt := 99) hM d_Mo_isReachedWithout_183 (by decide) ?_
        refine x_sub [2, 3, 4, 5, 6, 7, 8, 0] rfl ?_
        exact F _ _ hSt V
      · replace F := F.2 q17
        refine x_aload_n hM d_Mo_isReachedWithout_139 rfl 1 rfl ?_
        refine y_getr hG hM V ck_Mo 34 (Nat.le_of_ble_eq_true rfl) rfl rfl w_931 rfl d_Mo_isReachedWithout_140 (40, 0, 0) (41, 34, 0) rfl rfl rfl ?_
        refine x_iload hM d_Mo_isReachedWithout_143 0 rfl ?_
        obtain ⟨c5, F⟩ := F
        refine y_zaload hG hM V d_Mo_isReachedWithout_145 (41, 34, 0) rfl rfl (by rw [vlen V (r := (41, 34, 0)) rfl rfl]; exact c5) ?_
        refine x_if_ne (tgt := 180) hM d_Mo_isReachedWithout_146 (by decide) (fun q16 => ?_) (fun q16 => ?_)
        · replace F := F.2 q16
          refine x_iinc (v := (v7 + 1)) (lv2 := [(7, .int (v7 + 1)), (8, .int (iR ρ (41, 14, 0) (Int32.toNatClampNeg ((36 * v6) + v7)))), (0, .ref (ad (40, 0, 0))), (1, .int v1), (2, .int v2), (3, .int v3), (4, .int v4), (5, .int v5), (6, .int v6)]) hM d_Mo_isReachedWithout_180 (j := 8) rfl rfl (Nat.le_of_ble_eq_true rfl) rfl ?_
          refine x_goto (tgt := 99) hM d_Mo_isReachedWithout_183 (by decide) ?_
          refine x_sub [2, 3, 4, 5, 6, 7, 8, 0] rfl ?_
          exact F _ _ hSt V
        · replace F := F.1 q16
          refine x_aload_n hM d_Mo_isReachedWithout_149 rfl 1 rfl ?_
          refine x_iload hM d_Mo_isReachedWithout_150 0 rfl ?_
          refine x_iload_n hM d_Mo_isReachedWithout_152 rfl 3 rfl ?_
          refine x_iload_n hM d_Mo_isReachedWithout_153 rfl 4 rfl ?_
          refine x_callV hG hM (r' := r_Mo_isBarred) (ci := 11) [.int (iR ρ (41, 14, 0) (Int32.toNatClampNeg ((36 * v6) + v7))), .int v2, .int v3] rfl rfl (Nat.le_of_ble_eq_true rfl) yk_Mo_isBarred ⟨Nat.le_of_ble_eq_true rfl, Nat.le_of_ble_eq_true rfl⟩ w_1185 w_1187 ws_Mo_isBarred rfl rfl (Nat.le_of_ble_eq_true rfl) d_Mo_isReachedWithout_154 (by rw [vT V rfl]; rfl) (sem_mono (F _ _ V) ?_)
          intro u7 h F
          obtain ⟨ad15, ρ6, V, hs8, F⟩ := F
          obtain ⟨x9, rfl, F⟩ := F
          have hs8 := (St_eq hs8).symm
          subst hs8
          refine x_if_ne (tgt := 180) hM d_Mo_isReachedWithout_157 (by decide) (fun q14 => ?_) (fun q14 => ?_)
          · replace F := F.2 q14
            refine x_iinc (v := (v7 + 1)) (lv2 := [(7, .int (v7 + 1)), (8, .int (iR ρ (41, 14, 0) (Int32.toNatClampNeg ((36 * v6) + v7)))), (0, .ref (ad (40, 0, 0))), (1, .int v1), (2, .int v2), (3, .int v3), (4, .int v4), (5, .int v5), (6, .int v6)]) hM d_Mo_isReachedWithout_180 (j := 8) rfl rfl (Nat.le_of_ble_eq_true rfl) rfl ?_
            refine x_goto (tgt := 99) hM d_Mo_isReachedWithout_183 (by decide) ?_
            refine x_sub [2, 3, 4, 5, 6, 7, 8, 0] rfl ?_
            exact F _ _ hSt V
          · replace F := F.1 q14
            refine x_aload_n hM d_Mo_isReachedWithout_160 rfl 1 rfl ?_
            refine y_getr hG hM V ck_Mo 34 (Nat.le_of_ble_eq_true rfl) rfl rfl w_931 rfl d_Mo_isReachedWithout_161 (40, 0, 0) (41, 34, 0) rfl rfl rfl ?_
            refine x_iload hM d_Mo_isReachedWithout_164 0 rfl ?_
            refine x_iconst (v := 1) hM d_Mo_isReachedWithout_166 (by decide) ?_
            obtain ⟨c13, F⟩ := F
            obtain ⟨ρ10, eρ10⟩ : ∃ z : Rs, z = pI ρ6 (41, 34, 0) (Int32.toNatClampNeg (iR ρ (41, 14, 0) (Int32.toNatClampNeg ((36 * v6) + v7)))) 1 := ⟨_, rfl⟩
            replace F := F ρ10 eρ10
            refine y_zastore hG hM V d_Mo_isReachedWithout_167 (41, 34, 0) rfl rfl (by rw [vlen V (r := (41, 34, 0)) rfl rfl]; exact c13) (Or.inr rfl) (fun h V => ?_)
            rw [← eρ10] at V
            clear eρ10
            refine x_aload_n hM d_Mo_isReachedWithout_168 rfl 1 rfl ?_
            refine y_getr hG hM V ck_Mo 23 (Nat.le_of_ble_eq_true rfl) rfl rfl w_920 rfl d_Mo_isReachedWithout_169 (40, 0, 0) (41, 23, 0) rfl rfl rfl ?_
            refine x_iload hM d_Mo_isReachedWithout_172 5 rfl ?_
            refine x_iload hM d_Mo_isReachedWithout_174 0 rfl ?_
            obtain ⟨c12, F⟩ := F
            obtain ⟨ρ11, eρ11⟩ : ∃ z : Rs, z = pI ρ10 (41, 23, 0) (Int32.toNatClampNeg v4) (iR ρ (41, 14, 0) (Int32.toNatClampNeg ((36 * v6) + v7))) := ⟨_, rfl⟩
            replace F := F ρ11 eρ11
            refine y_iastore hG hM V d_Mo_isReachedWithout_176 (41, 23, 0) rfl rfl (by rw [vlen V (r := (41, 23, 0)) rfl rfl]; exact c12) (fun h V => ?_)
            rw [← eρ11] at V
            clear eρ11
            refine x_iinc (v := (v4 + 1)) (lv2 := [(4, .int (v4 + 1)), (8, .int (iR ρ (41, 14, 0) (Int32.toNatClampNeg ((36 * v6) + v7)))), (0, .ref (ad (40, 0, 0))), (1, .int v1), (2, .int v2), (3, .int v3), (5, .int v5), (6, .int v6), (7, .int v7)]) hM d_Mo_isReachedWithout_177 (j := 5) rfl rfl (Nat.le_of_ble_eq_true rfl) rfl ?_
            refine x_iinc (v := (v7 + 1)) (lv2 := [(7, .int (v7 + 1)), (4, .int (v4 + 1)), (8, .int (iR ρ (41, 14, 0) (Int32.toNatClampNeg ((36 * v6) + v7)))), (0, .ref (ad (40, 0, 0))), (1, .int v1), (2, .int v2), (3, .int v3), (5, .int v5), (6, .int v6)]) hM d_Mo_isReachedWithout_180 (j := 8) rfl rfl (Nat.le_of_ble_eq_true rfl) rfl ?_
            refine x_goto (tgt := 99) hM d_Mo_isReachedWithout_183 (by decide) ?_
            refine x_sub [3, 4, 5, 6, 1, 7, 8, 0] rfl ?_
            exact F _ _ hSt V
set_option maxRecDepth 100000 in
set_option maxHeartbeats 4000000 in
theorem T_Mo_isBarred_0 {G : Gc} {M : Mc} {Q : State → Prop} {ad0 : Ro → Nat} {K : (Ro → Nat) → Option Value → Rs → Prop} (hG : gok G) (hM : mok G M r_Mo_isBarred Q (KV G [] ad0 K)) (v1 : Int32) (v2 : Int32) (v3 : Int32) (ρ : Rs) (F : (v2 = (-1) → (∀ ad, K ad (some (.int 0)) ρ)) ∧ (¬ v2 = (-1) → (semV G r_Mo_open [] (fun ad => [.ref (ad (40, 0, 0)), .int v1]) ρ (fun ad u2 ρ1 => u2 = none ∧ (vp_in v2 8 ∧ (∀ z5 : Int32, z5 = (if (iR ρ1 (41, 10, 0) (Int32.toNatClampNeg v2)) = v3 then 1 else 0) → (nb z5 ∧ (∀ ad, K ad (some (.int z5)) ρ1)))))))) : Y G [] ad0 M Q 0 (fun ad => [(0, .ref (ad (40, 0, 0))), (1, .int v1), (2, .int v2), (3, .int v3)]) (fun ad => []) ρ := by
  intro ad h hSt V
  show X G M Q 0 [(0, .ref (ad (40, 0, 0))), (1, .int v1), (2, .int v2), (3, .int v3)] [] h
  refine x_iload_n hM d_Mo_isBarred_0 rfl 2 rfl ?_
  refine x_iconst (v := (-1)) hM d_Mo_isBarred_1 (by decide) ?_
  refine x_icmp_ne (tgt := 7) hM d_Mo_isBarred_2 (by decide) (fun q8 => ?_) (fun q8 => ?_)
  · replace F := F.2 q8
    refine x_aload_n hM d_Mo_isBarred_7 rfl 0 rfl ?_
    refine x_iload_n hM d_Mo_isBarred_8 rfl 1 rfl ?_
    refine x_callV hG hM (r' := r_Mo_open) (ci := 11) [.int v1] rfl rfl (Nat.le_of_ble_eq_true rfl) yk_Mo_open ⟨Nat.le_of_ble_eq_true rfl, Nat.le_of_ble_eq_true rfl⟩ w_1092 w_1094 ws_Mo_open rfl rfl (Nat.le_of_ble_eq_true rfl) d_Mo_isBarred_9 (by rw [vT V rfl]; rfl) (sem_mono (F _ _ V) ?_)
    intro u2 h F
    obtain ⟨ad7, ρ1, V, hs3, F⟩ := F
    obtain ⟨rfl, F⟩ := F
    have hs3 := (St_eq hs3).symm
    subst hs3
    refine x_aload_n hM d_Mo_isBarred_12 rfl 0 rfl ?_
    refine y_getr hG hM V ck_Mo 10 (Nat.le_of_ble_eq_true rfl) rfl rfl w_907 rfl d_Mo_isBarred_13 (40, 0, 0) (41, 10, 0) rfl rfl rfl ?_
    refine x_iload_n hM d_Mo_isBarred_16 rfl 2 rfl ?_
    obtain ⟨c4, F⟩ := F
    refine y_iaload hG hM V d_Mo_isBarred_17 (41, 10, 0) rfl rfl (by rw [vlen V (r := (41, 10, 0)) rfl rfl]; exact c4) ?_
    refine x_iload_n hM d_Mo_isBarred_18 rfl 3 rfl ?_
    have JJ : ∀ (z5 : Int32) (ez5 : z5 = (if (iR ρ1 (41, 10, 0) (Int32.toNatClampNeg v2)) = v3 then 1 else 0)), X G M Q 27 [] [.int z5] h := by
      intro z5 ez5
      replace F := F _ ez5
      exact x_zreturn hM d_Mo_isBarred_27 rfl F.1 (y_end V hSt (F.2 _))
    refine x_icmp_ne (tgt := 26) hM d_Mo_isBarred_19 (by decide) (fun q6 => ?_) (fun q6 => ?_)
    · refine x_iconst (v := 0) hM d_Mo_isBarred_26 (by decide) ?_
      refine x_sub [] rfl ?_
      exact JJ _ (Eq.symm (if_neg q6))
    · refine x_iconst (v := 1) hM d_Mo_isBarred_22 (by decide) ?_
      refine x_goto (tgt := 27) hM d_Mo_isBarred_23 (by decide) ?_
      refine x_sub [] rfl ?_
      exact JJ _ (Eq.symm (if_pos q6))
  · replace F := F.1 q8
    refine x_iconst (v := 0) hM d_Mo_isBarred_5 (by decide) ?_
    exact x_zreturn hM d_Mo_isBarred_6 rfl (Or.inl rfl) (y_end V hSt (F _))
set_option maxRecDepth 100000 in
set_option maxHeartbeats 4000000 in
theorem T_Mo_fact_0 {G : Gc} {M : Mc} {Q : State → Prop} {ad0 : Ro → Nat} {K : (Ro → Nat) → Option Value → Rs → Prop} (hG : gok G) (hM : mok G M r_Mo_fact Q (KV G [] ad0 K)) (v1 : Int32) (v2 : Int32) (ρ : Rs) (F : semV G r_Mo_isThing [] (fun ad => [.ref (ad (40, 0, 0)), .int v1]) ρ (fun ad u2 ρ1 => ∃ x4 : Int32, u2 = some (.int x4) ∧ ((x4 = 0 → (∀ ad, K ad (some (.int (-2))) ρ1)) ∧ (¬ x4 = 0 → (vp_in v1 8 ∧ (semV G r_Mo_isIn [] (fun ad => [.int v2, .int 0, .int ((iR ρ1 (41, 1, 0) (Int32.toNatClampNeg v1)) - 1)]) ρ1 (fun ad u7 ρ6 => ∃ x9 : Int32, u7 = some (.int x9) ∧ ((x9 = 0 → (∀ ad, K ad (some (.int (-2))) ρ6)) ∧ (¬ x9 = 0 → (semV G r_Mo_lay [] (fun ad => [.ref (ad (40, 0, 0))]) ρ6 (fun ad u11 ρ10 => u11 = none ∧ (semV G r_Mo_isReachedWithout [] (fun ad => [.ref (ad (40, 0, 0)), .int (-1), .int v1, .int v2]) ρ10 (fun ad u14 ρ13 => ∃ x16 : Int32, u14 = some (.int x16) ∧ (∀ z17 : Int32, z17 = (if x16 = 0 then 1 else 0) → (∀ ad, K ad (some (.int z17)) ρ13))))))))))))))) : Y G [] ad0 M Q 0 (fun ad => [(0, .ref (ad (40, 0, 0))), (1, .int v1), (2, .int v2)]) (fun ad => []) ρ := by
  intro ad h hSt V
  show X G M Q 0 [(0, .ref (ad (40, 0, 0))), (1, .int v1), (2, .int v2)] [] h
  refine x_aload_n hM d_Mo_fact_0 rfl 0 rfl ?_
  refine x_iload_n hM d_Mo_fact_1 rfl 1 rfl ?_
  refine x_callV hG hM (r' := r_Mo_isThing) (ci := 11) [.int v1] rfl rfl (Nat.le_of_ble_eq_true rfl) yk_Mo_isThing ⟨Nat.le_of_ble_eq_true rfl, Nat.le_of_ble_eq_true rfl⟩ w_1052 w_1054 ws_Mo_isThing rfl rfl (Nat.le_of_ble_eq_true rfl) d_Mo_fact_2 (by rw [vT V rfl]; rfl) (sem_mono (F _ _ V) ?_)
  intro u2 h F
  obtain ⟨ad24, ρ1, V, hs3, F⟩ := F
  obtain ⟨x4, rfl, F⟩ := F
  have hs3 := (St_eq hs3).symm
  subst hs3
  refine x_if_eq (tgt := 24) hM d_Mo_fact_5 (by decide) (fun q23 => ?_) (fun q23 => ?_)
  · replace F := F.1 q23
    refine x_bipush (v := (-2)) hM d_Mo_fact_24 (by decide) ?_
    exact x_ireturn hM d_Mo_fact_26 rfl (y_end V hSt (F _))
  · replace F := F.2 q23
    refine x_iload_n hM d_Mo_fact_8 rfl 2 rfl ?_
    refine x_iconst (v := 0) hM d_Mo_fact_9 (by decide) ?_
    refine x_aload_n hM d_Mo_fact_10 rfl 0 rfl ?_
    refine y_getr hG hM V ck_Mo 1 (Nat.le_of_ble_eq_true rfl) rfl rfl w_898 rfl d_Mo_fact_11 (40, 0, 0) (41, 1, 0) rfl rfl rfl ?_
    refine x_iload_n hM d_Mo_fact_14 rfl 1 rfl ?_
    obtain ⟨c5, F⟩ := F
    refine y_iaload hG hM V d_Mo_fact_15 (41, 1, 0) rfl rfl (by rw [vlen V (r := (41, 1, 0)) rfl rfl]; exact c5) ?_
    refine x_iconst (v := 1) hM d_Mo_fact_16 (by decide) ?_
    refine x_isub hM d_Mo_fact_17 ?_
    refine x_callS hG hM (r' := r_Mo_isIn) [.int v2, .int 0, .int ((iR ρ1 (41, 1, 0) (Int32.toNatClampNeg v1)) - 1)] rfl yk_Mo_isIn ⟨Nat.le_of_ble_eq_true rfl, Nat.le_of_ble_eq_true rfl⟩ w_1017 w_1018 rfl rfl (Nat.le_of_ble_eq_true rfl) d_Mo_fact_18 (sem_mono (F _ _ V) ?_)
    intro u7 h F
    obtain ⟨ad22, ρ6, V, hs8, F⟩ := F
    obtain ⟨x9, rfl, F⟩ := F
    have hs8 := (St_eq hs8).symm
    subst hs8
    refine x_if_ne (tgt := 27) hM d_Mo_fact_21 (by decide) (fun q21 => ?_) (fun q21 => ?_)
    · replace F := F.2 q21
      refine x_aload_n hM d_Mo_fact_27 rfl 0 rfl ?_
      refine x_callV hG hM (r' := r_Mo_lay) (ci := 11) [] rfl rfl (Nat.le_of_ble_eq_true rfl) yk_Mo_lay ⟨Nat.le_of_ble_eq_true rfl, Nat.le_of_ble_eq_true rfl⟩ w_1112 w_1114 ws_Mo_lay rfl rfl (Nat.le_of_ble_eq_true rfl) d_Mo_fact_28 (by rw [vT V rfl]; rfl) (sem_mono (F _ _ V) ?_)
      intro u11 h F
      obtain ⟨ad20, ρ10, V, hs12, F⟩ := F
      obtain ⟨rfl, F⟩ := F
      have hs12 := (St_eq hs12).symm
      subst hs12
      refine x_aload_n hM d_Mo_fact_31 rfl 0 rfl ?_
      refine x_iconst (v := (-1)) hM d_Mo_fact_32 (by decide) ?_
      refine x_iload_n hM d_Mo_fact_33 rfl 1 rfl ?_
      refine x_iload_n hM d_Mo_fact_34 rfl 2 rfl ?_
      refine x_callV hG hM (r' := r_Mo_isReachedWithout) (ci := 11) [.int (-1), .int v1, .int v2] rfl rfl (Nat.le_of_ble_eq_true rfl) yk_Mo_isReachedWithout ⟨Nat.le_of_ble_eq_true rfl, Nat.le_of_ble_eq_true rfl⟩ w_1181 w_1183 ws_Mo_isReachedWithout rfl rfl (Nat.le_of_ble_eq_true rfl) d_Mo_fact_35 (by rw [vT V rfl]; rfl) (sem_mono (F _ _ V) ?_)
      intro u14 h F
      obtain ⟨ad19, ρ13, V, hs15, F⟩ := F
      obtain ⟨x16, rfl, F⟩ := F
      have hs15 := (St_eq hs15).symm
      subst hs15
      have JJ : ∀ (z17 : Int32) (ez17 : z17 = (if x16 = 0 then 1 else 0)), X G M Q 46 [] [.int z17] h := by
        intro z17 ez17
        replace F := F _ ez17
        exact x_ireturn hM d_Mo_fact_46 rfl (y_end V hSt (F _))
      refine x_if_eq (tgt := 45) hM d_Mo_fact_38 (by decide) (fun q18 => ?_) (fun q18 => ?_)
      · refine x_iconst (v := 1) hM d_Mo_fact_45 (by decide) ?_
        refine x_sub [] rfl ?_
        exact JJ _ (Eq.symm (if_pos q18))
      · refine x_iconst (v := 0) hM d_Mo_fact_41 (by decide) ?_
        refine x_goto (tgt := 46) hM d_Mo_fact_42 (by decide) ?_
        refine x_sub [] rfl ?_
        exact JJ _ (Eq.symm (if_neg q18))
    · replace F := F.1 q21
      refine x_bipush (v := (-2)) hM d_Mo_fact_24 (by decide) ?_
      exact x_ireturn hM d_Mo_fact_26 rfl (y_end V hSt (F _))
