theorem d_Mo_play_0 : decode b_Mo_play 0 = .ok (.iload_n 2, 1) := by decide +kernel
theorem d_Mo_play_1 : decode b_Mo_play 1 = .ok (.iconst 0, 1) := by decide +kernel
theorem d_Mo_play_2 : decode b_Mo_play 2 = .ok (.iconst 2, 1) := by decide +kernel
theorem d_Mo_play_3 : decode b_Mo_play 3 = .ok (.invokestatic 118, 3) := by decide +kernel
theorem d_Mo_play_6 : decode b_Mo_play 6 = .ok (.ifCond .ne 6, 3) := by decide +kernel
theorem d_Mo_play_9 : decode b_Mo_play 9 = .ok (.bipush (-2), 2) := by decide +kernel
theorem d_Mo_play_11 : decode b_Mo_play 11 = .ok (.ireturn, 1) := by decide +kernel
theorem d_Mo_play_12 : decode b_Mo_play 12 = .ok (.aload_n 0, 1) := by decide +kernel
theorem d_Mo_play_13 : decode b_Mo_play 13 = .ok (.invokevirtual 191, 3) := by decide +kernel
theorem d_Mo_play_16 : decode b_Mo_play 16 = .ok (.iload_n 1, 1) := by decide +kernel
theorem d_Mo_play_17 : decode b_Mo_play 17 = .ok (.iconst 0, 1) := by decide +kernel
theorem d_Mo_play_18 : decode b_Mo_play 18 = .ok (.aload_n 0, 1) := by decide +kernel
theorem d_Mo_play_19 : decode b_Mo_play 19 = .ok (.getfield 54, 3) := by decide +kernel
theorem d_Mo_play_22 : decode b_Mo_play 22 = .ok (.aload_n 0, 1) := by decide +kernel
theorem d_Mo_play_23 : decode b_Mo_play 23 = .ok (.getfield 109, 3) := by decide +kernel
theorem d_Mo_play_26 : decode b_Mo_play 26 = .ok (.iaload, 1) := by decide +kernel
theorem d_Mo_play_27 : decode b_Mo_play 27 = .ok (.iconst 1, 1) := by decide +kernel
theorem d_Mo_play_28 : decode b_Mo_play 28 = .ok (.isub, 1) := by decide +kernel
theorem d_Mo_play_29 : decode b_Mo_play 29 = .ok (.invokestatic 118, 3) := by decide +kernel
theorem d_Mo_play_32 : decode b_Mo_play 32 = .ok (.ifCond .ne 5, 3) := by decide +kernel
theorem d_Mo_play_35 : decode b_Mo_play 35 = .ok (.iconst (-1), 1) := by decide +kernel
theorem d_Mo_play_36 : decode b_Mo_play 36 = .ok (.ireturn, 1) := by decide +kernel
theorem d_Mo_play_37 : decode b_Mo_play 37 = .ok (.aload_n 0, 1) := by decide +kernel
theorem d_Mo_play_38 : decode b_Mo_play 38 = .ok (.getfield 109, 3) := by decide +kernel
theorem d_Mo_play_41 : decode b_Mo_play 41 = .ok (.istore_n 3, 1) := by decide +kernel
theorem d_Mo_play_42 : decode b_Mo_play 42 = .ok (.iconst 0, 1) := by decide +kernel
theorem d_Mo_play_43 : decode b_Mo_play 43 = .ok (.istore 4, 2) := by decide +kernel
theorem d_Mo_play_45 : decode b_Mo_play 45 = .ok (.iconst 0, 1) := by decide +kernel
theorem d_Mo_play_46 : decode b_Mo_play 46 = .ok (.istore 5, 2) := by decide +kernel
theorem d_Mo_play_48 : decode b_Mo_play 48 = .ok (.iload 5, 2) := by decide +kernel
theorem d_Mo_play_50 : decode b_Mo_play 50 = .ok (.iload_n 1, 1) := by decide +kernel
theorem d_Mo_play_51 : decode b_Mo_play 51 = .ok (.if_icmp .gt 75, 3) := by decide +kernel
theorem d_Mo_play_54 : decode b_Mo_play 54 = .ok (.iconst 0, 1) := by decide +kernel
theorem d_Mo_play_55 : decode b_Mo_play 55 = .ok (.istore 4, 2) := by decide +kernel
theorem d_Mo_play_57 : decode b_Mo_play 57 = .ok (.aload_n 0, 1) := by decide +kernel
theorem d_Mo_play_58 : decode b_Mo_play 58 = .ok (.getfield 35, 3) := by decide +kernel
theorem d_Mo_play_61 : decode b_Mo_play 61 = .ok (.bipush 36, 2) := by decide +kernel
theorem d_Mo_play_63 : decode b_Mo_play 63 = .ok (.iload_n 3, 1) := by decide +kernel
theorem d_Mo_play_64 : decode b_Mo_play 64 = .ok (.imul, 1) := by decide +kernel
theorem d_Mo_play_65 : decode b_Mo_play 65 = .ok (.iload 4, 2) := by decide +kernel
theorem d_Mo_play_67 : decode b_Mo_play 67 = .ok (.iadd, 1) := by decide +kernel
theorem d_Mo_play_68 : decode b_Mo_play 68 = .ok (.iaload, 1) := by decide +kernel
theorem d_Mo_play_69 : decode b_Mo_play 69 = .ok (.iconst (-1), 1) := by decide +kernel
theorem d_Mo_play_70 : decode b_Mo_play 70 = .ok (.if_icmp .eq 31, 3) := by decide +kernel
theorem d_Mo_play_73 : decode b_Mo_play 73 = .ok (.aload_n 0, 1) := by decide +kernel
theorem d_Mo_play_74 : decode b_Mo_play 74 = .ok (.getfield 54, 3) := by decide +kernel
theorem d_Mo_play_77 : decode b_Mo_play 77 = .ok (.aload_n 0, 1) := by decide +kernel
theorem d_Mo_play_78 : decode b_Mo_play 78 = .ok (.getfield 35, 3) := by decide +kernel
theorem d_Mo_play_81 : decode b_Mo_play 81 = .ok (.bipush 36, 2) := by decide +kernel
theorem d_Mo_play_83 : decode b_Mo_play 83 = .ok (.iload_n 3, 1) := by decide +kernel
theorem d_Mo_play_84 : decode b_Mo_play 84 = .ok (.imul, 1) := by decide +kernel
theorem d_Mo_play_85 : decode b_Mo_play 85 = .ok (.iload 4, 2) := by decide +kernel
theorem d_Mo_play_87 : decode b_Mo_play 87 = .ok (.iadd, 1) := by decide +kernel
theorem d_Mo_play_88 : decode b_Mo_play 88 = .ok (.iaload, 1) := by decide +kernel
theorem d_Mo_play_89 : decode b_Mo_play 89 = .ok (.iaload, 1) := by decide +kernel
theorem d_Mo_play_90 : decode b_Mo_play 90 = .ok (.aload_n 0, 1) := by decide +kernel
theorem d_Mo_play_91 : decode b_Mo_play 91 = .ok (.getfield 54, 3) := by decide +kernel
theorem d_Mo_play_94 : decode b_Mo_play 94 = .ok (.iload_n 3, 1) := by decide +kernel
theorem d_Mo_play_95 : decode b_Mo_play 95 = .ok (.iaload, 1) := by decide +kernel
theorem d_Mo_play_96 : decode b_Mo_play 96 = .ok (.iconst 1, 1) := by decide +kernel
theorem d_Mo_play_97 : decode b_Mo_play 97 = .ok (.isub, 1) := by decide +kernel
theorem d_Mo_play_98 : decode b_Mo_play 98 = .ok (.if_icmp .eq 9, 3) := by decide +kernel
theorem d_Mo_play_101 : decode b_Mo_play 101 = .ok (.iinc 4 1, 3) := by decide +kernel
theorem d_Mo_play_104 : decode b_Mo_play 104 = .ok (.goto (-47), 3) := by decide +kernel
theorem d_Mo_play_107 : decode b_Mo_play 107 = .ok (.aload_n 0, 1) := by decide +kernel
theorem d_Mo_play_108 : decode b_Mo_play 108 = .ok (.getfield 35, 3) := by decide +kernel
theorem d_Mo_play_111 : decode b_Mo_play 111 = .ok (.bipush 36, 2) := by decide +kernel
theorem d_Mo_play_113 : decode b_Mo_play 113 = .ok (.iload_n 3, 1) := by decide +kernel
theorem d_Mo_play_114 : decode b_Mo_play 114 = .ok (.imul, 1) := by decide +kernel
theorem d_Mo_play_115 : decode b_Mo_play 115 = .ok (.iload 4, 2) := by decide +kernel
theorem d_Mo_play_117 : decode b_Mo_play 117 = .ok (.iadd, 1) := by decide +kernel
theorem d_Mo_play_118 : decode b_Mo_play 118 = .ok (.iaload, 1) := by decide +kernel
theorem d_Mo_play_119 : decode b_Mo_play 119 = .ok (.istore_n 3, 1) := by decide +kernel
theorem d_Mo_play_120 : decode b_Mo_play 120 = .ok (.iinc 5 1, 3) := by decide +kernel
theorem d_Mo_play_123 : decode b_Mo_play 123 = .ok (.goto (-75), 3) := by decide +kernel
theorem d_Mo_play_126 : decode b_Mo_play 126 = .ok (.iload_n 2, 1) := by decide +kernel
theorem d_Mo_play_127 : decode b_Mo_play 127 = .ok (.ifCond .ne 10, 3) := by decide +kernel
theorem d_Mo_play_130 : decode b_Mo_play 130 = .ok (.iload 4, 2) := by decide +kernel
theorem d_Mo_play_132 : decode b_Mo_play 132 = .ok (.iconst 3, 1) := by decide +kernel
theorem d_Mo_play_133 : decode b_Mo_play 133 = .ok (.idiv, 1) := by decide +kernel
theorem d_Mo_play_134 : decode b_Mo_play 134 = .ok (.goto 16, 3) := by decide +kernel
theorem d_Mo_play_137 : decode b_Mo_play 137 = .ok (.iload_n 2, 1) := by decide +kernel
theorem d_Mo_play_138 : decode b_Mo_play 138 = .ok (.iconst 1, 1) := by decide +kernel
theorem d_Mo_play_139 : decode b_Mo_play 139 = .ok (.if_icmp .ne 10, 3) := by decide +kernel
theorem d_Mo_play_142 : decode b_Mo_play 142 = .ok (.iload 4, 2) := by decide +kernel
theorem d_Mo_play_144 : decode b_Mo_play 144 = .ok (.iconst 3, 1) := by decide +kernel
theorem d_Mo_play_145 : decode b_Mo_play 145 = .ok (.irem, 1) := by decide +kernel
theorem d_Mo_play_146 : decode b_Mo_play 146 = .ok (.goto 4, 3) := by decide +kernel
theorem d_Mo_play_149 : decode b_Mo_play 149 = .ok (.iload_n 3, 1) := by decide +kernel
theorem d_Mo_play_150 : decode b_Mo_play 150 = .ok (.ireturn, 1) := by decide +kernel
set_option maxRecDepth 100000 in
set_option maxHeartbeats 4000000 in
theorem S_Mo_play_0 {G : Gc} {M : Mc} {Q : State → Prop} {K : Option Value → Hp → Prop} (hG : gok G) (hM : mok G M r_Mo_play Q K) (v0 : Nat) (v1 : Int32) (v2 : Int32) (h : Hp) (F : sem G r_Mo_isIn [.int v2, .int 0, .int 2] h (fun u2 h1 => ∃ x3 : Int32, u2 = some (.int x3) ∧ ((x3 = 0 → K (some (.int (-2))) h1) ∧ (¬ x3 = 0 → (kT h1 v0 = 12 ∧ sem G r_Mo_lay [.ref v0] h1 (fun u5 h4 => u5 = none ∧ (kT h4 v0 = 12 ∧ kR h4 v0 20 = some (rf h4 v0 20) ∧ (kT h4 v0 = 12 ∧ (kT h4 (rf h4 v0 20) = 50 ∧ vp_in (kI h4 v0 2) (kN h4 (rf h4 v0 20)) ∧ (sem G r_Mo_isIn [.int v1, .int 0, .int ((kI h4 (rf h4 v0 20) (Int32.toNatClampNeg (kI h4 v0 2))) - 1)] h4 (fun u7 h6 => ∃ x8 : Int32, u7 = some (.int x8) ∧ ((x8 = 0 → K (some (.int (-1))) h6) ∧ (¬ x8 = 0 → (kT h6 v0 = 12 ∧ X G M Q 48 [(0, .ref v0), (1, .int v1), (2, .int v2), (3, .int (kI h6 v0 2)), (4, .int 0), (5, .int 0)] [] h6)))))))))))))) : X G M Q 0 [(0, .ref v0), (1, .int v1), (2, .int v2)] [] h := by
  refine x_iload_n hM d_Mo_play_0 rfl 2 rfl ?_
  refine x_iconst (v := 0) hM d_Mo_play_1 (by decide) ?_
  refine x_iconst (v := 2) hM d_Mo_play_2 (by decide) ?_
  refine x_callS hG hM (r' := r_Mo_isIn) [.int v2, .int 0, .int 2] rfl yk_Mo_isIn ⟨Nat.le_of_ble_eq_true rfl, Nat.le_of_ble_eq_true rfl⟩ w_1017 w_1018 rfl rfl (Nat.le_of_ble_eq_true rfl) d_Mo_play_3 (sem_mono F ?_)
  intro u2 h1 F
  obtain ⟨x3, rfl, F⟩ := F
  refine x_if_ne (tgt := 12) hM d_Mo_play_6 (by decide) (fun q17 => ?_) (fun q17 => ?_)
  · replace F := F.2 q17
    refine x_aload_n hM d_Mo_play_12 rfl 0 rfl ?_
    obtain ⟨c16, F⟩ := F
    refine x_callV hG hM (r' := r_Mo_lay) (ci := 11) [] rfl rfl (Nat.le_of_ble_eq_true rfl) yk_Mo_lay ⟨Nat.le_of_ble_eq_true rfl, Nat.le_of_ble_eq_true rfl⟩ w_1112 w_1114 ws_Mo_lay rfl rfl (Nat.le_of_ble_eq_true rfl) d_Mo_play_13 c16 (sem_mono F ?_)
    intro u5 h4 F
    obtain ⟨rfl, F⟩ := F
    refine x_iload_n hM d_Mo_play_16 rfl 1 rfl ?_
    refine x_iconst (v := 0) hM d_Mo_play_17 (by decide) ?_
    refine x_aload_n hM d_Mo_play_18 rfl 0 rfl ?_
    obtain ⟨c14, F⟩ := F
    obtain ⟨c15, F⟩ := F
    refine x_getr hG hM ck_Mo 20 (Nat.le_of_ble_eq_true rfl) rfl rfl w_917 rfl d_Mo_play_19 c14 c15 ?_
    refine x_aload_n hM d_Mo_play_22 rfl 0 rfl ?_
    obtain ⟨c13, F⟩ := F
    refine x_geti hG hM ck_Mo 2 (Nat.le_of_ble_eq_true rfl) rfl rfl w_899 rfl d_Mo_play_23 c13 ?_
    obtain ⟨c11, F⟩ := F
    obtain ⟨c12, F⟩ := F
    refine x_iaload hG hM d_Mo_play_26 c11 c12 ?_
    refine x_iconst (v := 1) hM d_Mo_play_27 (by decide) ?_
    refine x_isub hM d_Mo_play_28 ?_
    refine x_callS hG hM (r' := r_Mo_isIn) [.int v1, .int 0, .int ((kI h4 (rf h4 v0 20) (Int32.toNatClampNeg (kI h4 v0 2))) - 1)] rfl yk_Mo_isIn ⟨Nat.le_of_ble_eq_true rfl, Nat.le_of_ble_eq_true rfl⟩ w_1017 w_1018 rfl rfl (Nat.le_of_ble_eq_true rfl) d_Mo_play_29 (sem_mono F ?_)
    intro u7 h6 F
    obtain ⟨x8, rfl, F⟩ := F
    refine x_if_ne (tgt := 37) hM d_Mo_play_32 (by decide) (fun q10 => ?_) (fun q10 => ?_)
    · replace F := F.2 q10
      refine x_aload_n hM d_Mo_play_37 rfl 0 rfl ?_
      obtain ⟨c9, F⟩ := F
      refine x_geti hG hM ck_Mo 2 (Nat.le_of_ble_eq_true rfl) rfl rfl w_899 rfl d_Mo_play_38 c9 ?_
      refine x_istore_n (lv2 := [(3, .int (kI h6 v0 2)), (0, .ref v0), (1, .int v1), (2, .int v2)]) hM d_Mo_play_41 rfl (Nat.le_of_ble_eq_true rfl) rfl ?_
      refine x_iconst (v := 0) hM d_Mo_play_42 (by decide) ?_
      refine x_istore (lv2 := [(4, .int 0), (3, .int (kI h6 v0 2)), (0, .ref v0), (1, .int v1), (2, .int v2)]) hM d_Mo_play_43 (Nat.le_of_ble_eq_true rfl) rfl ?_
      refine x_iconst (v := 0) hM d_Mo_play_45 (by decide) ?_
      refine x_istore (lv2 := [(5, .int 0), (4, .int 0), (3, .int (kI h6 v0 2)), (0, .ref v0), (1, .int v1), (2, .int v2)]) hM d_Mo_play_46 (Nat.le_of_ble_eq_true rfl) rfl ?_
      refine x_sub [3, 4, 5, 2, 1, 0] rfl ?_
      exact F
    · replace F := F.1 q10
      refine x_iconst (v := (-1)) hM d_Mo_play_35 (by decide) ?_
      exact x_ireturn hM d_Mo_play_36 rfl F
  · replace F := F.1 q17
    refine x_bipush (v := (-2)) hM d_Mo_play_9 (by decide) ?_
    exact x_ireturn hM d_Mo_play_11 rfl F
set_option maxRecDepth 100000 in
set_option maxHeartbeats 4000000 in
theorem S_Mo_play_48 {G : Gc} {M : Mc} {Q : State → Prop} {K : Option Value → Hp → Prop} (hG : gok G) (hM : mok G M r_Mo_play Q K) (v0 : Nat) (v1 : Int32) (v2 : Int32) (v3 : Int32) (v4 : Int32) (v5 : Int32) (h : Hp) (F : (v1 < v5 → (∀ z1 : Int32, z1 = (if v2 = 0 then (v4 / 3) else (if v2 = 1 then (v4 - v4 / 3 * 3) else v3)) → K (some (.int z1)) h)) ∧ (¬ v1 < v5 → X G M Q 57 [(0, .ref v0), (1, .int v1), (2, .int v2), (3, .int v3), (4, .int 0), (5, .int v5)] [] h)) : X G M Q 48 [(0, .ref v0), (1, .int v1), (2, .int v2), (3, .int v3), (4, .int v4), (5, .int v5)] [] h := by
  refine x_iload hM d_Mo_play_48 5 rfl ?_
  refine x_iload_n hM d_Mo_play_50 rfl 1 rfl ?_
  refine x_icmp_gt (tgt := 126) hM d_Mo_play_51 (by decide) (fun q4 => ?_) (fun q4 => ?_)
  · replace F := F.1 q4
    refine x_iload_n hM d_Mo_play_126 rfl 2 rfl ?_
    have JJ : ∀ (z1 : Int32) (ez1 : z1 = (if v2 = 0 then (v4 / 3) else (if v2 = 1 then (v4 - v4 / 3 * 3) else v3))), X G M Q 150 [] [.int z1] h := by
      intro z1 ez1
      replace F := F _ ez1
      exact x_ireturn hM d_Mo_play_150 rfl F
    refine x_if_ne (tgt := 137) hM d_Mo_play_127 (by decide) (fun q2 => ?_) (fun q2 => ?_)
    · refine x_iload_n hM d_Mo_play_137 rfl 2 rfl ?_
      refine x_iconst (v := 1) hM d_Mo_play_138 (by decide) ?_
      refine x_icmp_ne (tgt := 149) hM d_Mo_play_139 (by decide) (fun q3 => ?_) (fun q3 => ?_)
      · refine x_iload_n hM d_Mo_play_149 rfl 3 rfl ?_
        refine x_sub [] rfl ?_
        exact JJ _ (Eq.symm (Eq.trans (if_neg q2) (if_neg q3)))
      · refine x_iload hM d_Mo_play_142 4 rfl ?_
        refine x_iconst (v := 3) hM d_Mo_play_144 (by decide) ?_
        refine x_irem hM d_Mo_play_145 (by decide) ?_
        refine x_goto (tgt := 150) hM d_Mo_play_146 (by decide) ?_
        refine x_sub [] rfl ?_
        exact JJ _ (Eq.symm (Eq.trans (if_neg q2) (if_pos q3)))
    · refine x_iload hM d_Mo_play_130 4 rfl ?_
      refine x_iconst (v := 3) hM d_Mo_play_132 (by decide) ?_
      refine x_idiv hM d_Mo_play_133 (by decide) ?_
      refine x_goto (tgt := 150) hM d_Mo_play_134 (by decide) ?_
      refine x_sub [] rfl ?_
      exact JJ _ (Eq.symm (if_pos q2))
  · replace F := F.2 q4
    refine x_iconst (v := 0) hM d_Mo_play_54 (by decide) ?_
    refine x_istore (lv2 := [(4, .int 0), (0, .ref v0), (1, .int v1), (2, .int v2), (3, .int v3), (5, .int v5)]) hM d_Mo_play_55 (Nat.le_of_ble_eq_true rfl) rfl ?_
    refine x_sub [1, 2, 3, 4, 0, 5] rfl ?_
    exact F
set_option maxRecDepth 100000 in
set_option maxHeartbeats 4000000 in
theorem S_Mo_play_57 {G : Gc} {M : Mc} {Q : State → Prop} {K : Option Value → Hp → Prop} (hG : gok G) (hM : mok G M r_Mo_play Q K) (v0 : Nat) (v1 : Int32) (v2 : Int32) (v3 : Int32) (v4 : Int32) (v5 : Int32) (h : Hp) (F : kT h v0 = 12 ∧ kR h v0 14 = some (rf h v0 14) ∧ (kT h (rf h v0 14) = 50 ∧ vp_in ((36 * v3) + v4) (kN h (rf h v0 14)) ∧ (((kI h (rf h v0 14) (Int32.toNatClampNeg ((36 * v3) + v4))) = (-1) → X G M Q 57 [(0, .ref v0), (1, .int v1), (2, .int v2), (3, .int v3), (4, .int (v4 + 1)), (5, .int v5)] [] h) ∧ (¬ (kI h (rf h v0 14) (Int32.toNatClampNeg ((36 * v3) + v4))) = (-1) → (kT h v0 = 12 ∧ kR h v0 20 = some (rf h v0 20) ∧ (kT h v0 = 12 ∧ kR h v0 14 = some (rf h v0 14) ∧ (kT h (rf h v0 14) = 50 ∧ vp_in ((36 * v3) + v4) (kN h (rf h v0 14)) ∧ (kT h (rf h v0 20) = 50 ∧ vp_in (kI h (rf h v0 14) (Int32.toNatClampNeg ((36 * v3) + v4))) (kN h (rf h v0 20)) ∧ (kT h v0 = 12 ∧ kR h v0 20 = some (rf h v0 20) ∧ (kT h (rf h v0 20) = 50 ∧ vp_in v3 (kN h (rf h v0 20)) ∧ (((kI h (rf h v0 20) (Int32.toNatClampNeg (kI h (rf h v0 14) (Int32.toNatClampNeg ((36 * v3) + v4))))) = ((kI h (rf h v0 20) (Int32.toNatClampNeg v3)) - 1) → (kT h v0 = 12 ∧ kR h v0 14 = some (rf h v0 14) ∧ (kT h (rf h v0 14) = 50 ∧ vp_in ((36 * v3) + v4) (kN h (rf h v0 14)) ∧ X G M Q 48 [(0, .ref v0), (1, .int v1), (2, .int v2), (3, .int (kI h (rf h v0 14) (Int32.toNatClampNeg ((36 * v3) + v4)))), (4, .int v4), (5, .int (v5 + 1))] [] h))) ∧ (¬ (kI h (rf h v0 20) (Int32.toNatClampNeg (kI h (rf h v0 14) (Int32.toNatClampNeg ((36 * v3) + v4))))) = ((kI h (rf h v0 20) (Int32.toNatClampNeg v3)) - 1) → X G M Q 57 [(0, .ref v0), (1, .int v1), (2, .int v2), (3, .int v3), (4, .int (v4 + 1)), (5, .int v5)] [] h)))))))))))) : X G M Q 57 [(0, .ref v0), (1, .int v1), (2, .int v2), (3, .int v3), (4, .int v4), (5, .int v5)] [] h := by
  refine x_aload_n hM d_Mo_play_57 rfl 0 rfl ?_
  obtain ⟨c21, F⟩ := F
  obtain ⟨c22, F⟩ := F
  refine x_getr hG hM ck_Mo 14 (Nat.le_of_ble_eq_true rfl) rfl rfl w_911 rfl d_Mo_play_58 c21 c22 ?_
  refine x_bipush (v := 36) hM d_Mo_play_61 (by decide) ?_
  refine x_iload_n hM d_Mo_play_63 rfl 3 rfl ?_
  refine x_imul hM d_Mo_play_64 ?_
  refine x_iload hM d_Mo_play_65 4 rfl ?_
  refine x_iadd hM d_Mo_play_67 ?_
  obtain ⟨c19, F⟩ := F
  obtain ⟨c20, F⟩ := F
  refine x_iaload hG hM d_Mo_play_68 c19 c20 ?_
  refine x_iconst (v := (-1)) hM d_Mo_play_69 (by decide) ?_
  refine x_icmp_eq (tgt := 101) hM d_Mo_play_70 (by decide) (fun q18 => ?_) (fun q18 => ?_)
  · replace F := F.1 q18
    refine x_iinc (v := (v4 + 1)) (lv2 := [(4, .int (v4 + 1)), (0, .ref v0), (1, .int v1), (2, .int v2), (3, .int v3), (5, .int v5)]) hM d_Mo_play_101 (j := 4) rfl rfl (Nat.le_of_ble_eq_true rfl) rfl ?_
    refine x_goto (tgt := 57) hM d_Mo_play_104 (by decide) ?_
    refine x_sub [1, 2, 3, 4, 0, 5] rfl ?_
    exact F
  · replace F := F.2 q18
    refine x_aload_n hM d_Mo_play_73 rfl 0 rfl ?_
    obtain ⟨c16, F⟩ := F
    obtain ⟨c17, F⟩ := F
    refine x_getr hG hM ck_Mo 20 (Nat.le_of_ble_eq_true rfl) rfl rfl w_917 rfl d_Mo_play_74 c16 c17 ?_
    refine x_aload_n hM d_Mo_play_77 rfl 0 rfl ?_
    obtain ⟨c14, F⟩ := F
    obtain ⟨c15, F⟩ := F
    refine x_getr hG hM ck_Mo 14 (Nat.le_of_ble_eq_true rfl) rfl rfl w_911 rfl d_Mo_play_78 c14 c15 ?_
    refine x_bipush (v := 36) hM d_Mo_play_81 (by decide) ?_
    refine x_iload_n hM d_Mo_play_83 rfl 3 rfl ?_
    refine x_imul hM d_Mo_play_84 ?_
    refine x_iload hM d_Mo_play_85 4 rfl ?_
    refine x_iadd hM d_Mo_play_87 ?_
    obtain ⟨c12, F⟩ := F
    obtain ⟨c13, F⟩ := F
    refine x_iaload hG hM d_Mo_play_88 c12 c13 ?_
    obtain ⟨c10, F⟩ := F
    obtain ⟨c11, F⟩ := F
    refine x_iaload hG hM d_Mo_play_89 c10 c11 ?_
    refine x_aload_n hM d_Mo_play_90 rfl 0 rfl ?_
    obtain ⟨c8, F⟩ := F
    obtain ⟨c9, F⟩ := F
    refine x_getr hG hM ck_Mo 20 (Nat.le_of_ble_eq_true rfl) rfl rfl w_917 rfl d_Mo_play_91 c8 c9 ?_
    refine x_iload_n hM d_Mo_play_94 rfl 3 rfl ?_
    obtain ⟨c6, F⟩ := F
    obtain ⟨c7, F⟩ := F
    refine x_iaload hG hM d_Mo_play_95 c6 c7 ?_
    refine x_iconst (v := 1) hM d_Mo_play_96 (by decide) ?_
    refine x_isub hM d_Mo_play_97 ?_
    refine x_icmp_eq (tgt := 107) hM d_Mo_play_98 (by decide) (fun q5 => ?_) (fun q5 => ?_)
    · replace F := F.1 q5
      refine x_aload_n hM d_Mo_play_107 rfl 0 rfl ?_
      obtain ⟨c3, F⟩ := F
      obtain ⟨c4, F⟩ := F
      refine x_getr hG hM ck_Mo 14 (Nat.le_of_ble_eq_true rfl) rfl rfl w_911 rfl d_Mo_play_108 c3 c4 ?_
      refine x_bipush (v := 36) hM d_Mo_play_111 (by decide) ?_
      refine x_iload_n hM d_Mo_play_113 rfl 3 rfl ?_
      refine x_imul hM d_Mo_play_114 ?_
      refine x_iload hM d_Mo_play_115 4 rfl ?_
      refine x_iadd hM d_Mo_play_117 ?_
      obtain ⟨c1, F⟩ := F
      obtain ⟨c2, F⟩ := F
      refine x_iaload hG hM d_Mo_play_118 c1 c2 ?_
      refine x_istore_n (lv2 := [(3, .int (kI h (rf h v0 14) (Int32.toNatClampNeg ((36 * v3) + v4)))), (0, .ref v0), (1, .int v1), (2, .int v2), (4, .int v4), (5, .int v5)]) hM d_Mo_play_119 rfl (Nat.le_of_ble_eq_true rfl) rfl ?_
      refine x_iinc (v := (v5 + 1)) (lv2 := [(5, .int (v5 + 1)), (3, .int (kI h (rf h v0 14) (Int32.toNatClampNeg ((36 * v3) + v4)))), (0, .ref v0), (1, .int v1), (2, .int v2), (4, .int v4)]) hM d_Mo_play_120 (j := 5) rfl rfl (Nat.le_of_ble_eq_true rfl) rfl ?_
      refine x_goto (tgt := 48) hM d_Mo_play_123 (by decide) ?_
      refine x_sub [2, 3, 4, 1, 5, 0] rfl ?_
      exact F
    · replace F := F.2 q5
      refine x_iinc (v := (v4 + 1)) (lv2 := [(4, .int (v4 + 1)), (0, .ref v0), (1, .int v1), (2, .int v2), (3, .int v3), (5, .int v5)]) hM d_Mo_play_101 (j := 4) rfl rfl (Nat.le_of_ble_eq_true rfl) rfl ?_
      refine x_goto (tgt := 57) hM d_Mo_play_104 (by decide) ?_
      refine x_sub [1, 2, 3, 4, 0, 5] rfl ?_
      exact F
theorem d_Mo_plays_0 : decode b_Mo_plays 0 = .ok (.aload_n 0, 1) := by decide +kernel
theorem d_Mo_plays_1 : decode b_Mo_plays 1 = .ok (.invokevirtual 191, 3) := by decide +kernel
theorem d_Mo_plays_4 : decode b_Mo_plays 4 = .ok (.aload_n 0, 1) := by decide +kernel
theorem d_Mo_plays_5 : decode b_Mo_plays 5 = .ok (.getfield 54, 3) := by decide +kernel
theorem d_Mo_plays_8 : decode b_Mo_plays 8 = .ok (.aload_n 0, 1) := by decide +kernel
theorem d_Mo_plays_9 : decode b_Mo_plays 9 = .ok (.getfield 109, 3) := by decide +kernel
theorem d_Mo_plays_12 : decode b_Mo_plays 12 = .ok (.iaload, 1) := by decide +kernel
theorem d_Mo_plays_13 : decode b_Mo_plays 13 = .ok (.iconst (-1), 1) := by decide +kernel
theorem d_Mo_plays_14 : decode b_Mo_plays 14 = .ok (.if_icmp .ne 5, 3) := by decide +kernel
theorem d_Mo_plays_17 : decode b_Mo_plays 17 = .ok (.lconst 0, 1) := by decide +kernel
theorem d_Mo_plays_18 : decode b_Mo_plays 18 = .ok (.lreturn, 1) := by decide +kernel
theorem d_Mo_plays_19 : decode b_Mo_plays 19 = .ok (.iconst 0, 1) := by decide +kernel
theorem d_Mo_plays_20 : decode b_Mo_plays 20 = .ok (.istore_n 1, 1) := by decide +kernel
theorem d_Mo_plays_21 : decode b_Mo_plays 21 = .ok (.iload_n 1, 1) := by decide +kernel
theorem d_Mo_plays_22 : decode b_Mo_plays 22 = .ok (.aload_n 0, 1) := by decide +kernel
theorem d_Mo_plays_23 : decode b_Mo_plays 23 = .ok (.getfield 157, 3) := by decide +kernel
theorem d_Mo_plays_26 : decode b_Mo_plays 26 = .ok (.if_icmp .ge 29, 3) := by decide +kernel
theorem d_Mo_plays_29 : decode b_Mo_plays 29 = .ok (.aload_n 0, 1) := by decide +kernel
theorem d_Mo_plays_30 : decode b_Mo_plays 30 = .ok (.getfield 89, 3) := by decide +kernel
theorem d_Mo_plays_33 : decode b_Mo_plays 33 = .ok (.iload_n 1, 1) := by decide +kernel
theorem d_Mo_plays_34 : decode b_Mo_plays 34 = .ok (.aload_n 0, 1) := by decide +kernel
theorem d_Mo_plays_35 : decode b_Mo_plays 35 = .ok (.getfield 38, 3) := by decide +kernel
theorem d_Mo_plays_38 : decode b_Mo_plays 38 = .ok (.iload_n 1, 1) := by decide +kernel
theorem d_Mo_plays_39 : decode b_Mo_plays 39 = .ok (.baload, 1) := by decide +kernel
theorem d_Mo_plays_40 : decode b_Mo_plays 40 = .ok (.ifCond .eq 7, 3) := by decide +kernel
theorem d_Mo_plays_43 : decode b_Mo_plays 43 = .ok (.lconst 1, 1) := by decide +kernel
theorem d_Mo_plays_44 : decode b_Mo_plays 44 = .ok (.goto 4, 3) := by decide +kernel
theorem d_Mo_plays_47 : decode b_Mo_plays 47 = .ok (.lconst 0, 1) := by decide +kernel
theorem d_Mo_plays_48 : decode b_Mo_plays 48 = .ok (.lastore, 1) := by decide +kernel
theorem d_Mo_plays_49 : decode b_Mo_plays 49 = .ok (.iinc 1 1, 3) := by decide +kernel
theorem d_Mo_plays_52 : decode b_Mo_plays 52 = .ok (.goto (-31), 3) := by decide +kernel
theorem d_Mo_plays_55 : decode b_Mo_plays 55 = .ok (.iconst 0, 1) := by decide +kernel
theorem d_Mo_plays_56 : decode b_Mo_plays 56 = .ok (.istore_n 1, 1) := by decide +kernel
theorem d_Mo_plays_57 : decode b_Mo_plays 57 = .ok (.iconst 1, 1) := by decide +kernel
theorem d_Mo_plays_58 : decode b_Mo_plays 58 = .ok (.istore_n 2, 1) := by decide +kernel
theorem d_Mo_plays_59 : decode b_Mo_plays 59 = .ok (.iload_n 2, 1) := by decide +kernel
theorem d_Mo_plays_60 : decode b_Mo_plays 60 = .ok (.aload_n 0, 1) := by decide +kernel
theorem d_Mo_plays_61 : decode b_Mo_plays 61 = .ok (.getfield 54, 3) := by decide +kernel
theorem d_Mo_plays_64 : decode b_Mo_plays 64 = .ok (.aload_n 0, 1) := by decide +kernel
theorem d_Mo_plays_65 : decode b_Mo_plays 65 = .ok (.getfield 109, 3) := by decide +kernel
theorem d_Mo_plays_68 : decode b_Mo_plays 68 = .ok (.iaload, 1) := by decide +kernel
theorem d_Mo_plays_69 : decode b_Mo_plays 69 = .ok (.if_icmp .gt 110, 3) := by decide +kernel
theorem d_Mo_plays_72 : decode b_Mo_plays 72 = .ok (.iload_n 2, 1) := by decide +kernel
theorem d_Mo_plays_73 : decode b_Mo_plays 73 = .ok (.istore_n 1, 1) := by decide +kernel
theorem d_Mo_plays_74 : decode b_Mo_plays 74 = .ok (.iconst 0, 1) := by decide +kernel
theorem d_Mo_plays_75 : decode b_Mo_plays 75 = .ok (.istore_n 3, 1) := by decide +kernel
theorem d_Mo_plays_76 : decode b_Mo_plays 76 = .ok (.iload_n 3, 1) := by decide +kernel
theorem d_Mo_plays_77 : decode b_Mo_plays 77 = .ok (.aload_n 0, 1) := by decide +kernel
theorem d_Mo_plays_78 : decode b_Mo_plays 78 = .ok (.getfield 157, 3) := by decide +kernel
theorem d_Mo_plays_81 : decode b_Mo_plays 81 = .ok (.if_icmp .ge 92, 3) := by decide +kernel
theorem d_Mo_plays_84 : decode b_Mo_plays 84 = .ok (.iconst 0, 1) := by decide +kernel
theorem d_Mo_plays_85 : decode b_Mo_plays 85 = .ok (.istore 4, 2) := by decide +kernel
theorem d_Mo_plays_87 : decode b_Mo_plays 87 = .ok (.iload 4, 2) := by decide +kernel
theorem d_Mo_plays_89 : decode b_Mo_plays 89 = .ok (.iconst 3, 1) := by decide +kernel
theorem d_Mo_plays_90 : decode b_Mo_plays 90 = .ok (.aload_n 0, 1) := by decide +kernel
theorem d_Mo_plays_91 : decode b_Mo_plays 91 = .ok (.getfield 112, 3) := by decide +kernel
theorem d_Mo_plays_94 : decode b_Mo_plays 94 = .ok (.imul, 1) := by decide +kernel
theorem d_Mo_plays_95 : decode b_Mo_plays 95 = .ok (.if_icmp .ge 72, 3) := by decide +kernel
theorem d_Mo_plays_98 : decode b_Mo_plays 98 = .ok (.aload_n 0, 1) := by decide +kernel
theorem d_Mo_plays_99 : decode b_Mo_plays 99 = .ok (.getfield 54, 3) := by decide +kernel
theorem d_Mo_plays_102 : decode b_Mo_plays 102 = .ok (.iload_n 3, 1) := by decide +kernel
theorem d_Mo_plays_103 : decode b_Mo_plays 103 = .ok (.iaload, 1) := by decide +kernel
theorem d_Mo_plays_104 : decode b_Mo_plays 104 = .ok (.iload_n 1, 1) := by decide +kernel
theorem d_Mo_plays_105 : decode b_Mo_plays 105 = .ok (.if_icmp .ne 62, 3) := by decide +kernel
theorem d_Mo_plays_108 : decode b_Mo_plays 108 = .ok (.aload_n 0, 1) := by decide +kernel
theorem d_Mo_plays_109 : decode b_Mo_plays 109 = .ok (.getfield 35, 3) := by decide +kernel
theorem d_Mo_plays_112 : decode b_Mo_plays 112 = .ok (.bipush 36, 2) := by decide +kernel
theorem d_Mo_plays_114 : decode b_Mo_plays 114 = .ok (.iload_n 3, 1) := by decide +kernel
theorem d_Mo_plays_115 : decode b_Mo_plays 115 = .ok (.imul, 1) := by decide +kernel
theorem d_Mo_plays_116 : decode b_Mo_plays 116 = .ok (.iload 4, 2) := by decide +kernel
theorem d_Mo_plays_118 : decode b_Mo_plays 118 = .ok (.iadd, 1) := by decide +kernel
theorem d_Mo_plays_119 : decode b_Mo_plays 119 = .ok (.iaload, 1) := by decide +kernel
theorem d_Mo_plays_120 : decode b_Mo_plays 120 = .ok (.istore 5, 2) := by decide +kernel
theorem d_Mo_plays_122 : decode b_Mo_plays 122 = .ok (.aload_n 0, 1) := by decide +kernel
theorem d_Mo_plays_123 : decode b_Mo_plays 123 = .ok (.getfield 89, 3) := by decide +kernel
theorem d_Mo_plays_126 : decode b_Mo_plays 126 = .ok (.iload_n 3, 1) := by decide +kernel
theorem d_Mo_plays_127 : decode b_Mo_plays 127 = .ok (.dup2, 1) := by decide +kernel
theorem d_Mo_plays_128 : decode b_Mo_plays 128 = .ok (.laload, 1) := by decide +kernel
theorem d_Mo_plays_129 : decode b_Mo_plays 129 = .ok (.iload 5, 2) := by decide +kernel
theorem d_Mo_plays_131 : decode b_Mo_plays 131 = .ok (.iconst (-1), 1) := by decide +kernel
theorem d_Mo_plays_132 : decode b_Mo_plays 132 = .ok (.if_icmp .eq 26, 3) := by decide +kernel
theorem d_Mo_plays_135 : decode b_Mo_plays 135 = .ok (.aload_n 0, 1) := by decide +kernel
theorem d_Mo_plays_136 : decode b_Mo_plays 136 = .ok (.getfield 54, 3) := by decide +kernel
theorem d_Mo_plays_139 : decode b_Mo_plays 139 = .ok (.iload 5, 2) := by decide +kernel
theorem d_Mo_plays_141 : decode b_Mo_plays 141 = .ok (.iaload, 1) := by decide +kernel
theorem d_Mo_plays_142 : decode b_Mo_plays 142 = .ok (.iload_n 1, 1) := by decide +kernel
theorem d_Mo_plays_143 : decode b_Mo_plays 143 = .ok (.iconst 1, 1) := by decide +kernel
theorem d_Mo_plays_144 : decode b_Mo_plays 144 = .ok (.isub, 1) := by decide +kernel
theorem d_Mo_plays_145 : decode b_Mo_plays 145 = .ok (.if_icmp .ne 13, 3) := by decide +kernel
theorem d_Mo_plays_148 : decode b_Mo_plays 148 = .ok (.aload_n 0, 1) := by decide +kernel
theorem d_Mo_plays_149 : decode b_Mo_plays 149 = .ok (.getfield 89, 3) := by decide +kernel
theorem d_Mo_plays_152 : decode b_Mo_plays 152 = .ok (.iload 5, 2) := by decide +kernel
theorem d_Mo_plays_154 : decode b_Mo_plays 154 = .ok (.laload, 1) := by decide +kernel
theorem d_Mo_plays_155 : decode b_Mo_plays 155 = .ok (.goto 4, 3) := by decide +kernel
theorem d_Mo_plays_158 : decode b_Mo_plays 158 = .ok (.lconst 0, 1) := by decide +kernel
theorem d_Mo_plays_159 : decode b_Mo_plays 159 = .ok (.ladd, 1) := by decide +kernel
theorem d_Mo_plays_160 : decode b_Mo_plays 160 = .ok (.lastore, 1) := by decide +kernel
theorem d_Mo_plays_161 : decode b_Mo_plays 161 = .ok (.iinc 4 1, 3) := by decide +kernel
theorem d_Mo_plays_164 : decode b_Mo_plays 164 = .ok (.goto (-77), 3) := by decide +kernel
theorem d_Mo_plays_167 : decode b_Mo_plays 167 = .ok (.iinc 3 1, 3) := by decide +kernel
theorem d_Mo_plays_170 : decode b_Mo_plays 170 = .ok (.goto (-94), 3) := by decide +kernel
theorem d_Mo_plays_173 : decode b_Mo_plays 173 = .ok (.iinc 2 1, 3) := by decide +kernel
theorem d_Mo_plays_176 : decode b_Mo_plays 176 = .ok (.goto (-117), 3) := by decide +kernel
theorem d_Mo_plays_179 : decode b_Mo_plays 179 = .ok (.aload_n 0, 1) := by decide +kernel
theorem d_Mo_plays_180 : decode b_Mo_plays 180 = .ok (.getfield 89, 3) := by decide +kernel
theorem d_Mo_plays_183 : decode b_Mo_plays 183 = .ok (.aload_n 0, 1) := by decide +kernel
theorem d_Mo_plays_184 : decode b_Mo_plays 184 = .ok (.getfield 109, 3) := by decide +kernel
theorem d_Mo_plays_187 : decode b_Mo_plays 187 = .ok (.laload, 1) := by decide +kernel
theorem d_Mo_plays_188 : decode b_Mo_plays 188 = .ok (.lreturn, 1) := by decide +kernel
set_option maxRecDepth 100000 in
set_option maxHeartbeats 4000000 in
theorem S_Mo_plays_0 {G : Gc} {M : Mc} {Q : State → Prop} {K : Option Value → Hp → Prop} (hG : gok G) (hM : mok G M r_Mo_plays Q K) (v0 : Nat) (h : Hp) (F : kT h v0 = 12 ∧ sem G r_Mo_lay [.ref v0] h (fun u2 h1 => u2 = none ∧ (kT h1 v0 = 12 ∧ kR h1 v0 20 = some (rf h1 v0 20) ∧ (kT h1 v0 = 12 ∧ (kT h1 (rf h1 v0 20) = 50 ∧ vp_in (kI h1 v0 2) (kN h1 (rf h1 v0 20)) ∧ (((kI h1 (rf h1 v0 20) (Int32.toNatClampNeg (kI h1 v0 2))) = (-1) → K (some (.long 0)) h1) ∧ (¬ (kI h1 (rf h1 v0 20) (Int32.toNatClampNeg (kI h1 v0 2))) = (-1) → X G M Q 21 [(0, .ref v0), (1, .int 0)] [] h1))))))) : X G M Q 0 [(0, .ref v0)] [] h := by
  refine x_aload_n hM d_Mo_plays_0 rfl 0 rfl ?_
  obtain ⟨c9, F⟩ := F
  refine x_callV hG hM (r' := r_Mo_lay) (ci := 11) [] rfl rfl (Nat.le_of_ble_eq_true rfl) yk_Mo_lay ⟨Nat.le_of_ble_eq_true rfl, Nat.le_of_ble_eq_true rfl⟩ w_1112 w_1114 ws_Mo_lay rfl rfl (Nat.le_of_ble_eq_true rfl) d_Mo_plays_1 c9 (sem_mono F ?_)
  intro u2 h1 F
  obtain ⟨rfl, F⟩ := F
  refine x_aload_n hM d_Mo_plays_4 rfl 0 rfl ?_
  obtain ⟨c7, F⟩ := F
  obtain ⟨c8, F⟩ := F
  refine x_getr hG hM ck_Mo 20 (Nat.le_of_ble_eq_true rfl) rfl rfl w_917 rfl d_Mo_plays_5 c7 c8 ?_
  refine x_aload_n hM d_Mo_plays_8 rfl 0 rfl ?_
  obtain ⟨c6, F⟩ := F
  refine x_geti hG hM ck_Mo 2 (Nat.le_of_ble_eq_true rfl) rfl rfl w_899 rfl d_Mo_plays_9 c6 ?_
  obtain ⟨c4, F⟩ := F
  obtain ⟨c5, F⟩ := F
  refine x_iaload hG hM d_Mo_plays_12 c4 c5 ?_
  refine x_iconst (v := (-1)) hM d_Mo_plays_13 (by decide) ?_
  refine x_icmp_ne (tgt := 19) hM d_Mo_plays_14 (by decide) (fun q3 => ?_) (fun q3 => ?_)
  · replace F := F.2 q3
    refine x_iconst (v := 0) hM d_Mo_plays_19 (by decide) ?_
    refine x_istore_n (lv2 := [(1, .int 0), (0, .ref v0)]) hM d_Mo_plays_20 rfl (Nat.le_of_ble_eq_true rfl) rfl ?_
    refine x_sub [1, 0] rfl ?_
    exact F
  · replace F := F.1 q3
    refine x_lconst (v := 0) hM d_Mo_plays_17 (by decide) ?_
    exact x_lreturn hM d_Mo_plays_18 rfl F
set_option maxRecDepth 100000 in
set_option maxHeartbeats 4000000 in
theorem S_Mo_plays_21 {G : Gc} {M : Mc} {Q : State → Prop} {K : Option Value → Hp → Prop} (hG : gok G) (hM : mok G M r_Mo_plays Q K) (v0 : Nat) (v1 : Int32) (h : Hp) (F : kT h v0 = 12 ∧ (((kI h v0 13) ≤ v1 → X G M Q 59 [(0, .ref v0), (2, .int 1)] [] h) ∧ (¬ (kI h v0 13) ≤ v1 → (kT h v0 = 12 ∧ kR h v0 33 = some (rf h v0 33) ∧ (kT h v0 = 12 ∧ kR h v0 15 = some (rf h v0 15) ∧ (kT h (rf h v0 15) = 51 ∧ vp_in v1 (kN h (rf h v0 15)) ∧ (∀ z1 : Int64, z1 = (if (kI h (rf h v0 15) (Int32.toNatClampNeg v1)) = 0 then 0 else 1) → (kT h (rf h v0 33) = 52 ∧ vp_in v1 (kN h (rf h v0 33)) ∧ (∀ h2 : Hp, h2 = wL h (rf h v0 33) (Int32.toNatClampNeg v1) z1 → X G M Q 21 [(0, .ref v0), (1, .int (v1 + 1))] [] h2))))))))) : X G M Q 21 [(0, .ref v0), (1, .int v1)] [] h := by
  refine x_iload_n hM d_Mo_plays_21 rfl 1 rfl ?_
  refine x_aload_n hM d_Mo_plays_22 rfl 0 rfl ?_
  obtain ⟨c13, F⟩ := F
  refine x_geti hG hM ck_Mo 13 (Nat.le_of_ble_eq_true rfl) rfl rfl w_910 rfl d_Mo_plays_23 c13 ?_
  refine x_icmp_ge (tgt := 55) hM d_Mo_plays_26 (by decide) (fun q12 => ?_) (fun q12 => ?_)
  · replace F := F.1 q12
    refine x_iconst (v := 0) hM d_Mo_plays_55 (by decide) ?_
    refine x_istore_n (lv2 := [(1, .int 0), (0, .ref v0)]) hM d_Mo_plays_56 rfl (Nat.le_of_ble_eq_true rfl) rfl ?_
    refine x_iconst (v := 1) hM d_Mo_plays_57 (by decide) ?_
    refine x_istore_n (lv2 := [(2, .int 1), (1, .int 0), (0, .ref v0)]) hM d_Mo_plays_58 rfl (Nat.le_of_ble_eq_true rfl) rfl ?_
    refine x_sub [2, 0] rfl ?_
    exact F
  · replace F := F.2 q12
    refine x_aload_n hM d_Mo_plays_29 rfl 0 rfl ?_
    obtain ⟨c10, F⟩ := F
    obtain ⟨c11, F⟩ := F
    refine x_getr hG hM ck_Mo 33 (Nat.le_of_ble_eq_true rfl) rfl rfl w_930 rfl d_Mo_plays_30 c10 c11 ?_
    refine x_iload_n hM d_Mo_plays_33 rfl 1 rfl ?_
    refine x_aload_n hM d_Mo_plays_34 rfl 0 rfl ?_
    obtain ⟨c8, F⟩ := F
    obtain ⟨c9, F⟩ := F
    refine x_getr hG hM ck_Mo 15 (Nat.le_of_ble_eq_true rfl) rfl rfl w_912 rfl d_Mo_plays_35 c8 c9 ?_
    refine x_iload_n hM d_Mo_plays_38 rfl 1 rfl ?_
    obtain ⟨c6, F⟩ := F
    obtain ⟨c7, F⟩ := F
    refine x_zaload hG hM d_Mo_plays_39 c6 c7 ?_
    have JJ : ∀ (z1 : Int64) (ez1 : z1 = (if (kI h (rf h v0 15) (Int32.toNatClampNeg v1)) = 0 then 0 else 1)), X G M Q 48 [(0, .ref v0), (1, .int v1)] [.long z1, .int v1, .ref (rf h v0 33)] h := by
      intro z1 ez1
      replace F := F _ ez1
      obtain ⟨c3, F⟩ := F
      obtain ⟨c4, F⟩ := F
      obtain ⟨h2, eh2⟩ : ∃ z : Hp, z = wL h (rf h v0 33) (Int32.toNatClampNeg v1) z1 := ⟨_, rfl⟩
      replace F := F h2 eh2
      refine x_lastore hG hM d_Mo_plays_48 c3 c4 ?_
      rw [← eh2]
      clear eh2
      refine x_iinc (v := (v1 + 1)) (lv2 := [(1, .int (v1 + 1)), (0, .ref v0)]) hM d_Mo_plays_49 (j := 1) rfl rfl (Nat.le_of_ble_eq_true rfl) rfl ?_
      refine x_goto (tgt := 21) hM d_Mo_plays_52 (by decide) ?_
      refine x_sub [1, 0] rfl ?_
      exact F
    refine x_if_eq (tgt := 47) hM d_Mo_plays_40 (by decide) (fun q5 => ?_) (fun q5 => ?_)
    · refine x_lconst (v := 0) hM d_Mo_plays_47 (by decide) ?_
      exact JJ _ (Eq.symm (if_pos q5))
    · refine x_lconst (v := 1) hM d_Mo_plays_43 (by decide) ?_
      refine x_goto (tgt := 48) hM d_Mo_plays_44 (by decide) ?_
      exact JJ _ (Eq.symm (if_neg q5))
set_option maxRecDepth 100000 in
set_option maxHeartbeats 4000000 in
theorem S_Mo_plays_59 {G : Gc} {M : Mc} {Q : State → Prop} {K : Option Value → Hp → Prop} (hG : gok G) (hM : mok G M r_Mo_plays Q K) (v0 : Nat) (v2 : Int32) (h : Hp) (F : kT h v0 = 12 ∧ kR h v0 20 = some (rf h v0 20) ∧ (kT h v0 = 12 ∧ (kT h (rf h v0 20) = 50 ∧ vp_in (kI h v0 2) (kN h (rf h v0 20)) ∧ (((kI h (rf h v0 20) (Int32.toNatClampNeg (kI h v0 2))) < v2 → (kT h v0 = 12 ∧ kR h v0 33 = some (rf h v0 33) ∧ (kT h v0 = 12 ∧ (kT h (rf h v0 33) = 52 ∧ vp_in (kI h v0 2) (kN h (rf h v0 33)) ∧ K (some (.long (kL h (rf h v0 33) (Int32.toNatClampNeg (kI h v0 2))))) h)))) ∧ (¬ (kI h (rf h v0 20) (Int32.toNatClampNeg (kI h v0 2))) < v2 → X G M Q 76 [(0, .ref v0), (1, .int v2), (2, .int v2), (3, .int 0)] [] h))))) : X G M Q 59 [(0, .ref v0), (2, .int v2)] [] h := by
  refine x_iload_n hM d_Mo_plays_59 rfl 1 rfl ?_
  refine x_aload_n hM d_Mo_plays_60 rfl 0 rfl ?_
  obtain ⟨c10, F⟩ := F
  obtain ⟨c11, F⟩ := F
  refine x_getr hG hM ck_Mo 20 (Nat.le_of_ble_eq_true rfl) rfl rfl w_917 rfl d_Mo_plays_61 c10 c11 ?_
  refine x_aload_n hM d_Mo_plays_64 rfl 0 rfl ?_
  obtain ⟨c9, F⟩ := F
  refine x_geti hG hM ck_Mo 2 (Nat.le_of_ble_eq_true rfl) rfl rfl w_899 rfl d_Mo_plays_65 c9 ?_
  obtain ⟨c7, F⟩ := F
  obtain ⟨c8, F⟩ := F
  refine x_iaload hG hM d_Mo_plays_68 c7 c8 ?_
  refine x_icmp_gt (tgt := 179) hM d_Mo_plays_69 (by decide) (fun q6 => ?_) (fun q6 => ?_)
  · replace F := F.1 q6
    refine x_aload_n hM d_Mo_plays_179 rfl 0 rfl ?_
    obtain ⟨c4, F⟩ := F
    obtain ⟨c5, F⟩ := F
    refine x_getr hG hM ck_Mo 33 (Nat.le_of_ble_eq_true rfl) rfl rfl w_930 rfl d_Mo_plays_180 c4 c5 ?_
    refine x_aload_n hM d_Mo_plays_183 rfl 0 rfl ?_
    obtain ⟨c3, F⟩ := F
    refine x_geti hG hM ck_Mo 2 (Nat.le_of_ble_eq_true rfl) rfl rfl w_899 rfl d_Mo_plays_184 c3 ?_
    obtain ⟨c1, F⟩ := F
    obtain ⟨c2, F⟩ := F
    refine x_laload hG hM d_Mo_plays_187 c1 c2 ?_
    exact x_lreturn hM d_Mo_plays_188 rfl F
  · replace F := F.2 q6
    refine x_iload_n hM d_Mo_plays_72 rfl 1 rfl ?_
    refine x_istore_n (lv2 := [(1, .int v2), (0, .ref v0), (2, .int v2)]) hM d_Mo_plays_73 rfl (Nat.le_of_ble_eq_true rfl) rfl ?_
    refine x_iconst (v := 0) hM d_Mo_plays_74 (by decide) ?_
    refine x_istore_n (lv2 := [(3, .int 0), (1, .int v2), (0, .ref v0), (2, .int v2)]) hM d_Mo_plays_75 rfl (Nat.le_of_ble_eq_true rfl) rfl ?_
    refine x_sub [2, 1, 3, 0] rfl ?_
    exact F
set_option maxRecDepth 100000 in
set_option maxHeartbeats 4000000 in
theorem S_Mo_plays_76 {G : Gc} {M : Mc} {Q : State → Prop} {K : Option Value → Hp → Prop} (hG : gok G) (hM : mok G M r_Mo_plays Q K) (v0 : Nat) (v1 : Int32) (v2 : Int32) (v3 : Int32) (h : Hp) (F : kT h v0 = 12 ∧ (((kI h v0 13) ≤ v3 → X G M Q 59 [(0, .ref v0), (2, .int (v2 + 1))] [] h) ∧ (¬ (kI h v0 13) ≤ v3 → X G M Q 87 [(0, .ref v0), (1, .int v1), (2, .int v2), (3, .int v3), (4, .int 0)] [] h))) : X G M Q 76 [(0, .ref v0), (1, .int v1), (2, .int v2), (3, .int v3)] [] h := by
  refine x_iload_n hM d_Mo_plays_76 rfl 3 rfl ?_
  refine x_aload_n hM d_Mo_plays_77 rfl 0 rfl ?_
  obtain ⟨c2, F⟩ := F
  refine x_geti hG hM ck_Mo 13 (Nat.le_of_ble_eq_true rfl) rfl rfl w_910 rfl d_Mo_plays_78 c2 ?_
  refine x_icmp_ge (tgt := 173) hM d_Mo_plays_81 (by decide) (fun q1 => ?_) (fun q1 => ?_)
  · replace F := F.1 q1
    refine x_iinc (v := (v2 + 1)) (lv2 := [(2, .int (v2 + 1)), (0, .ref v0), (1, .int v1), (3, .int v3)]) hM d_Mo_plays_173 (j := 2) rfl rfl (Nat.le_of_ble_eq_true rfl) rfl ?_
    refine x_goto (tgt := 59) hM d_Mo_plays_176 (by decide) ?_
    refine x_sub [1, 0] rfl ?_
    exact F
  · replace F := F.2 q1
    refine x_iconst (v := 0) hM d_Mo_plays_84 (by decide) ?_
    refine x_istore (lv2 := [(4, .int 0), (0, .ref v0), (1, .int v1), (2, .int v2), (3, .int v3)]) hM d_Mo_plays_85 (Nat.le_of_ble_eq_true rfl) rfl ?_
    refine x_sub [1, 2, 3, 4, 0] rfl ?_
    exact F
set_option maxRecDepth 100000 in
set_option maxHeartbeats 4000000 in
theorem S_Mo_plays_87 {G : Gc} {M : Mc} {Q : State → Prop} {K : Option Value → Hp → Prop} (hG : gok G) (hM : mok G M r_Mo_plays Q K) (v0 : Nat) (v1 : Int32) (v2 : Int32) (v3 : Int32) (v4 : Int32) (h : Hp) (F : kT h v0 = 12 ∧ (((3 * (kI h v0 3)) ≤ v4 → X G M Q 76 [(0, .ref v0), (1, .int v1), (2, .int v2), (3, .int (v3 + 1))] [] h) ∧ (¬ (3 * (kI h v0 3)) ≤ v4 → (kT h v0 = 12 ∧ kR h v0 20 = some (rf h v0 20) ∧ (kT h (rf h v0 20) = 50 ∧ vp_in v3 (kN h (rf h v0 20)) ∧ (((kI h (rf h v0 20) (Int32.toNatClampNeg v3)) = v1 → (kT h v0 = 12 ∧ kR h v0 14 = some (rf h v0 14) ∧ (kT h (rf h v0 14) = 50 ∧ vp_in ((36 * v3) + v4) (kN h (rf h v0 14)) ∧ (kT h v0 = 12 ∧ kR h v0 33 = some (rf h v0 33) ∧ (kT h (rf h v0 33) = 52 ∧ vp_in v3 (kN h (rf h v0 33)) ∧ ((¬ (kI h (rf h v0 14) (Int32.toNatClampNeg ((36 * v3) + v4))) = (-1) → (kT h v0 = 12 ∧ kR h v0 20 = some (rf h v0 20) ∧ kT h (rf h v0 20) = 50 ∧ vp_in (kI h (rf h v0 14) (Int32.toNatClampNeg ((36 * v3) + v4))) (kN h (rf h v0 20)) ∧ ((kI h (rf h v0 20) (Int32.toNatClampNeg (kI h (rf h v0 14) (Int32.toNatClampNeg ((36 * v3) + v4))))) = (v1 - 1) → (kT h v0 = 12 ∧ kR h v0 33 = some (rf h v0 33) ∧ kT h (rf h v0 33) = 52 ∧ vp_in (kI h (rf h v0 14) (Int32.toNatClampNeg ((36 * v3) + v4))) (kN h (rf h v0 33)))))) ∧ (∀ z1 : Int64, z1 = (if (kI h (rf h v0 14) (Int32.toNatClampNeg ((36 * v3) + v4))) = (-1) then 0 else (if (kI h (rf h v0 20) (Int32.toNatClampNeg (kI h (rf h v0 14) (Int32.toNatClampNeg ((36 * v3) + v4))))) = (v1 - 1) then (kL h (rf h v0 33) (Int32.toNatClampNeg (kI h (rf h v0 14) (Int32.toNatClampNeg ((36 * v3) + v4))))) else 0)) → (kT h (rf h v0 33) = 52 ∧ vp_in v3 (kN h (rf h v0 33)) ∧ (∀ h2 : Hp, h2 = wL h (rf h v0 33) (Int32.toNatClampNeg v3) ((kL h (rf h v0 33) (Int32.toNatClampNeg v3)) + z1) → X G M Q 87 [(0, .ref v0), (1, .int v1), (2, .int v2), (3, .int v3), (4, .int (v4 + 1))] [] h2))))))))) ∧ (¬ (kI h (rf h v0 20) (Int32.toNatClampNeg v3)) = v1 → X G M Q 76 [(0, .ref v0), (1, .int v1), (2, .int v2), (3, .int (v3 + 1))] [] h))))))) : X G M Q 87 [(0, .ref v0), (1, .int v1), (2, .int v2), (3, .int v3), (4, .int v4)] [] h := by
  refine x_iload hM d_Mo_plays_87 4 rfl ?_
  refine x_iconst (v := 3) hM d_Mo_plays_89 (by decide) ?_
  refine x_aload_n hM d_Mo_plays_90 rfl 0 rfl ?_
  obtain ⟨c29, F⟩ := F
  refine x_geti hG hM ck_Mo 3 (Nat.le_of_ble_eq_true rfl) rfl rfl w_900 rfl d_Mo_plays_91 c29 ?_
  refine x_imul hM d_Mo_plays_94 ?_
  refine x_icmp_ge (tgt := 167) hM d_Mo_plays_95 (by decide) (fun q28 => ?_) (fun q28 => ?_)
  · replace F := F.1 q28
    refine x_iinc (v := (v3 + 1)) (lv2 := [(3, .int (v3 + 1)), (0, .ref v0), (1, .int v1), (2, .int v2), (4, .int v4)]) hM d_Mo_plays_167 (j := 3) rfl rfl (Nat.le_of_ble_eq_true rfl) rfl ?_
    refine x_goto (tgt := 76) hM d_Mo_plays_170 (by decide) ?_
    refine x_sub [1, 2, 3, 0] rfl ?_
    exact F
  · replace F := F.2 q28
    refine x_aload_n hM d_Mo_plays_98 rfl 0 rfl ?_
    obtain ⟨c26, F⟩ := F
    obtain ⟨c27, F⟩ := F
    refine x_getr hG hM ck_Mo 20 (Nat.le_of_ble_eq_true rfl) rfl rfl w_917 rfl d_Mo_plays_99 c26 c27 ?_
    refine x_iload_n hM d_Mo_plays_102 rfl 3 rfl ?_
    obtain ⟨c24, F⟩ := F
    obtain ⟨c25, F⟩ := F
    refine x_iaload hG hM d_Mo_plays_103 c24 c25 ?_
    refine x_iload_n hM d_Mo_plays_104 rfl 1 rfl ?_
    refine x_icmp_ne (tgt := 167) hM d_Mo_plays_105 (by decide) (fun q23 => ?_) (fun q23 => ?_)
    · replace F := F.2 q23
      refine x_iinc (v := (v3 + 1)) (lv2 := [(3, .int (v3 + 1)), (0, .ref v0), (1, .int v1), (2, .int v2), (4, .int v4)]) hM d_Mo_plays_167 (j := 3) rfl rfl (Nat.le_of_ble_eq_true rfl) rfl ?_
      refine x_goto (tgt := 76) hM d_Mo_plays_170 (by decide) ?_
      refine x_sub [1, 2, 3, 0] rfl ?_
      exact F
    · replace F := F.1 q23
      refine x_aload_n hM d_Mo_plays_108 rfl 0 rfl ?_
      obtain ⟨c21, F⟩ := F
      obtain ⟨c22, F⟩ := F
      refine x_getr hG hM ck_Mo 14 (Nat.le_of_ble_eq_true rfl) rfl rfl w_911 rfl d_Mo_plays_109 c21 c22 ?_
      refine x_bipush (v := 36) hM d_Mo_plays_112 (by decide) ?_
      refine x_iload_n hM d_Mo_plays_114 rfl 3 rfl ?_
      refine x_imul hM d_Mo_plays_115 ?_
      refine x_iload hM d_Mo_plays_116 4 rfl ?_
      refine x_iadd hM d_Mo_plays_118 ?_
      obtain ⟨c19, F⟩ := F
      obtain ⟨c20, F⟩ := F
      refine x_iaload hG hM d_Mo_plays_119 c19 c20 ?_
      refine x_istore (lv2 := [(5, .int (kI h (rf h v0 14) (Int32.toNatClampNeg ((36 * v3) + v4)))), (0, .ref v0), (1, .int v1), (2, .int v2), (3, .int v3), (4, .int v4)]) hM d_Mo_plays_120 (Nat.le_of_ble_eq_true rfl) rfl ?_
      refine x_aload_n hM d_Mo_plays_122 rfl 1 rfl ?_
      obtain ⟨c17, F⟩ := F
      obtain ⟨c18, F⟩ := F
      refine x_getr hG hM ck_Mo 33 (Nat.le_of_ble_eq_true rfl) rfl rfl w_930 rfl d_Mo_plays_123 c17 c18 ?_
      refine x_iload_n hM d_Mo_plays_126 rfl 4 rfl ?_
      refine x_dup2 hM d_Mo_plays_127 rfl rfl ?_
      obtain ⟨c15, F⟩ := F
      obtain ⟨c16, F⟩ := F
      refine x_laload hG hM d_Mo_plays_128 c15 c16 ?_
      refine x_iload hM d_Mo_plays_129 0 rfl ?_
      refine x_iconst (v := (-1)) hM d_Mo_plays_131 (by decide) ?_
      obtain ⟨S, F⟩ := F
      have JJ : ∀ (z1 : Int64) (ez1 : z1 = (if (kI h (rf h v0 14) (Int32.toNatClampNeg ((36 * v3) + v4))) = (-1) then 0 else (if (kI h (rf h v0 20) (Int32.toNatClampNeg (kI h (rf h v0 14) (Int32.toNatClampNeg ((36 * v3) + v4))))) = (v1 - 1) then (kL h (rf h v0 33) (Int32.toNatClampNeg (kI h (rf h v0 14) (Int32.toNatClampNeg ((36 * v3) + v4))))) else 0))), X G M Q 159 [(0, .ref v0), (1, .int v1), (2, .int v2), (3, .int v3), (4, .int v4)] [.long z1, .long (kL h (rf h v0 33) (Int32.toNatClampNeg v3)), .int v3, .ref (rf h v0 33)] h := by
        intro z1 ez1
        replace F := F _ ez1
        refine x_ladd hM d_Mo_plays_159 ?_
        obtain ⟨c3, F⟩ := F
        obtain ⟨c4, F⟩ := F
        obtain ⟨h2, eh2⟩ : ∃ z : Hp, z = wL h (rf h v0 33) (Int32.toNatClampNeg v3) ((kL h (rf h v0 33) (Int32.toNatClampNeg v3)) + z1) := ⟨_, rfl⟩
        replace F := F h2 eh2
        refine x_lastore hG hM d_Mo_plays_160 c3 c4 ?_
        rw [← eh2]
        clear eh2
        refine x_iinc (v := (v4 + 1)) (lv2 := [(4, .int (v4 + 1)), (0, .ref v0), (1, .int v1), (2, .int v2), (3, .int v3)]) hM d_Mo_plays_161 (j := 4) rfl rfl (Nat.le_of_ble_eq_true rfl) rfl ?_
        refine x_goto (tgt := 87) hM d_Mo_plays_164 (by decide) ?_
        refine x_sub [1, 2, 3, 4, 0] rfl ?_
        exact F
      refine x_icmp_eq (tgt := 158) hM d_Mo_plays_132 (by decide) (fun q5 => ?_) (fun q5 => ?_)
      · refine x_lconst (v := 0) hM d_Mo_plays_158 (by decide) ?_
        refine x_sub [1, 2, 3, 4, 5] rfl ?_
        exact JJ _ (Eq.symm (if_pos q5))
      · replace S := S q5
        refine x_aload_n hM d_Mo_plays_135 rfl 1 rfl ?_
        obtain ⟨c6, S⟩ := S
        obtain ⟨c7, S⟩ := S
        refine x_getr hG hM ck_Mo 20 (Nat.le_of_ble_eq_true rfl) rfl rfl w_917 rfl d_Mo_plays_136 c6 c7 ?_
        refine x_iload hM d_Mo_plays_139 0 rfl ?_
        obtain ⟨c8, S⟩ := S
        obtain ⟨c9, S⟩ := S
        refine x_iaload hG hM d_Mo_plays_141 c8 c9 ?_
        refine x_iload_n hM d_Mo_plays_142 rfl 2 rfl ?_
        refine x_iconst (v := 1) hM d_Mo_plays_143 (by decide) ?_
        refine x_isub hM d_Mo_plays_144 ?_
        refine x_icmp_ne (tgt := 158) hM d_Mo_plays_145 (by decide) (fun q10 => ?_) (fun q10 => ?_)
        · refine x_lconst (v := 0) hM d_Mo_plays_158 (by decide) ?_
          refine x_sub [1, 2, 3, 4, 5] rfl ?_
          exact JJ _ (Eq.symm (Eq.trans (if_neg q5) (if_neg q10)))
        · replace S := S q10
          refine x_aload_n hM d_Mo_plays_148 rfl 1 rfl ?_
          obtain ⟨c11, S⟩ := S
          obtain ⟨c12, S⟩ := S
          refine x_getr hG hM ck_Mo 33 (Nat.le_of_ble_eq_true rfl) rfl rfl w_930 rfl d_Mo_plays_149 c11 c12 ?_
          refine x_iload hM d_Mo_plays_152 0 rfl ?_
          obtain ⟨c13, S⟩ := S
          have c14 := S
          refine x_laload hG hM d_Mo_plays_154 c13 c14 ?_
          refine x_goto (tgt := 159) hM d_Mo_plays_155 (by decide) ?_
          refine x_sub [1, 2, 3, 4, 5] rfl ?_
          exact JJ _ (Eq.symm (Eq.trans (if_neg q5) (if_pos q10)))
theorem d_Mo_needed_0 : decode b_Mo_needed 0 = .ok (.aload_n 0, 1) := by decide +kernel
theorem d_Mo_needed_1 : decode b_Mo_needed 1 = .ok (.invokevirtual 191, 3) := by decide +kernel
theorem d_Mo_needed_4 : decode b_Mo_needed 4 = .ok (.iconst 0, 1) := by decide +kernel
theorem d_Mo_needed_5 : decode b_Mo_needed 5 = .ok (.istore_n 1, 1) := by decide +kernel
theorem d_Mo_needed_6 : decode b_Mo_needed 6 = .ok (.iconst 0, 1) := by decide +kernel
theorem d_Mo_needed_7 : decode b_Mo_needed 7 = .ok (.istore_n 2, 1) := by decide +kernel
theorem d_Mo_needed_8 : decode b_Mo_needed 8 = .ok (.iload_n 2, 1) := by decide +kernel
theorem d_Mo_needed_9 : decode b_Mo_needed 9 = .ok (.aload_n 0, 1) := by decide +kernel
theorem d_Mo_needed_10 : decode b_Mo_needed 10 = .ok (.getfield 112, 3) := by decide +kernel
theorem d_Mo_needed_13 : decode b_Mo_needed 13 = .ok (.if_icmp .ge 29, 3) := by decide +kernel
theorem d_Mo_needed_16 : decode b_Mo_needed 16 = .ok (.iload_n 1, 1) := by decide +kernel
theorem d_Mo_needed_17 : decode b_Mo_needed 17 = .ok (.aload_n 0, 1) := by decide +kernel
theorem d_Mo_needed_18 : decode b_Mo_needed 18 = .ok (.iload_n 2, 1) := by decide +kernel
theorem d_Mo_needed_19 : decode b_Mo_needed 19 = .ok (.iconst (-1), 1) := by decide +kernel
theorem d_Mo_needed_20 : decode b_Mo_needed 20 = .ok (.iconst 0, 1) := by decide +kernel
theorem d_Mo_needed_21 : decode b_Mo_needed 21 = .ok (.invokevirtual 212, 3) := by decide +kernel
theorem d_Mo_needed_24 : decode b_Mo_needed 24 = .ok (.ifCond .eq 7, 3) := by decide +kernel
theorem d_Mo_needed_27 : decode b_Mo_needed 27 = .ok (.iconst 0, 1) := by decide +kernel
theorem d_Mo_needed_28 : decode b_Mo_needed 28 = .ok (.goto 6, 3) := by decide +kernel
theorem d_Mo_needed_31 : decode b_Mo_needed 31 = .ok (.iconst 1, 1) := by decide +kernel
theorem d_Mo_needed_32 : decode b_Mo_needed 32 = .ok (.iload_n 2, 1) := by decide +kernel
theorem d_Mo_needed_33 : decode b_Mo_needed 33 = .ok (.ishl, 1) := by decide +kernel
theorem d_Mo_needed_34 : decode b_Mo_needed 34 = .ok (.ior, 1) := by decide +kernel
theorem d_Mo_needed_35 : decode b_Mo_needed 35 = .ok (.istore_n 1, 1) := by decide +kernel
theorem d_Mo_needed_36 : decode b_Mo_needed 36 = .ok (.iinc 2 1, 3) := by decide +kernel
theorem d_Mo_needed_39 : decode b_Mo_needed 39 = .ok (.goto (-31), 3) := by decide +kernel
theorem d_Mo_needed_42 : decode b_Mo_needed 42 = .ok (.iload_n 1, 1) := by decide +kernel
theorem d_Mo_needed_43 : decode b_Mo_needed 43 = .ok (.ireturn, 1) := by decide +kernel
set_option maxRecDepth 100000 in
set_option maxHeartbeats 4000000 in
theorem S_Mo_needed_0 {G : Gc} {M : Mc} {Q : State → Prop} {K : Option Value → Hp → Prop} (hG : gok G) (hM : mok G M r_Mo_needed Q K) (v0 : Nat) (h : Hp) (F : kT h v0 = 12 ∧ sem G r_Mo_lay [.ref v0] h (fun u2 h1 => u2 = none ∧ X G M Q 8 [(0, .ref v0), (1, .int 0), (2, .int 0)] [] h1)) : X G M Q 0 [(0, .ref v0)] [] h := by
  refine x_aload_n hM d_Mo_needed_0 rfl 0 rfl ?_
  obtain ⟨c3, F⟩ := F
  refine x_callV hG hM (r' := r_Mo_lay) (ci := 11) [] rfl rfl (Nat.le_of_ble_eq_true rfl) yk_Mo_lay ⟨Nat.le_of_ble_eq_true rfl, Nat.le_of_ble_eq_true rfl⟩ w_1112 w_1114 ws_Mo_lay rfl rfl (Nat.le_of_ble_eq_true rfl) d_Mo_needed_1 c3 (sem_mono F ?_)
  intro u2 h1 F
  obtain ⟨rfl, F⟩ := F
  refine x_iconst (v := 0) hM d_Mo_needed_4 (by decide) ?_
  refine x_istore_n (lv2 := [(1, .int 0), (0, .ref v0)]) hM d_Mo_needed_5 rfl (Nat.le_of_ble_eq_true rfl) rfl ?_
  refine x_iconst (v := 0) hM d_Mo_needed_6 (by decide) ?_
  refine x_istore_n (lv2 := [(2, .int 0), (1, .int 0), (0, .ref v0)]) hM d_Mo_needed_7 rfl (Nat.le_of_ble_eq_true rfl) rfl ?_
  refine x_sub [2, 1, 0] rfl ?_
  exact F
set_option maxRecDepth 100000 in
set_option maxHeartbeats 4000000 in
theorem S_Mo_needed_8 {G : Gc} {M : Mc} {Q : State → Prop} {K : Option Value → Hp → Prop} (hG : gok G) (hM : mok G M r_Mo_needed Q K) (v0 : Nat) (v1 : Int32) (v2 : Int32) (h : Hp) (F : kT h v0 = 12 ∧ (((kI h v0 3) ≤ v2 → K (some (.int v1)) h) ∧ (¬ (kI h v0 3) ≤ v2 → (kT h v0 = 12 ∧ sem G r_Mo_isReachedWithout [.ref v0, .int v2, .int (-1), .int 0] h (fun u2 h1 => ∃ x3 : Int32, u2 = some (.int x3) ∧ (∀ z4 : Int32, z4 = (if x3 = 0 then (1 <<< (v2 &&& 31)) else 0) → X G M Q 8 [(0, .ref v0), (1, .int (v1 ||| z4)), (2, .int (v2 + 1))] [] h1)))))) : X G M Q 8 [(0, .ref v0), (1, .int v1), (2, .int v2)] [] h := by
  refine x_iload_n hM d_Mo_needed_8 rfl 2 rfl ?_
  refine x_aload_n hM d_Mo_needed_9 rfl 0 rfl ?_
  obtain ⟨c8, F⟩ := F
  refine x_geti hG hM ck_Mo 3 (Nat.le_of_ble_eq_true rfl) rfl rfl w_900 rfl d_Mo_needed_10 c8 ?_
  refine x_icmp_ge (tgt := 42) hM d_Mo_needed_13 (by decide) (fun q7 => ?_) (fun q7 => ?_)
  · replace F := F.1 q7
    refine x_iload_n hM d_Mo_needed_42 rfl 1 rfl ?_
    exact x_ireturn hM d_Mo_needed_43 rfl F
  · replace F := F.2 q7
    refine x_iload_n hM d_Mo_needed_16 rfl 1 rfl ?_
    refine x_aload_n hM d_Mo_needed_17 rfl 0 rfl ?_
    refine x_iload_n hM d_Mo_needed_18 rfl 2 rfl ?_
    refine x_iconst (v := (-1)) hM d_Mo_needed_19 (by decide) ?_
    refine x_iconst (v := 0) hM d_Mo_needed_20 (by decide) ?_
    obtain ⟨c6, F⟩ := F
    refine x_callV hG hM (r' := r_Mo_isReachedWithout) (ci := 11) [.int v2, .int (-1), .int 0] rfl rfl (Nat.le_of_ble_eq_true rfl) yk_Mo_isReachedWithout ⟨Nat.le_of_ble_eq_true rfl, Nat.le_of_ble_eq_true rfl⟩ w_1181 w_1183 ws_Mo_isReachedWithout rfl rfl (Nat.le_of_ble_eq_true rfl) d_Mo_needed_21 c6 (sem_mono F ?_)
    intro u2 h1 F
    obtain ⟨x3, rfl, F⟩ := F
    have JJ : ∀ (z4 : Int32) (ez4 : z4 = (if x3 = 0 then (1 <<< (v2 &&& 31)) else 0)), X G M Q 34 [(0, .ref v0), (2, .int v2)] [.int z4, .int v1] h1 := by
      intro z4 ez4
      replace F := F _ ez4
      refine x_ior hM d_Mo_needed_34 ?_
      refine x_istore_n (lv2 := [(1, .int (v1 ||| z4)), (0, .ref v0), (2, .int v2)]) hM d_Mo_needed_35 rfl (Nat.le_of_ble_eq_true rfl) rfl ?_
      refine x_iinc (v := (v2 + 1)) (lv2 := [(2, .int (v2 + 1)), (1, .int (v1 ||| z4)), (0, .ref v0)]) hM d_Mo_needed_36 (j := 2) rfl rfl (Nat.le_of_ble_eq_true rfl) rfl ?_
      refine x_goto (tgt := 8) hM d_Mo_needed_39 (by decide) ?_
      refine x_sub [2, 1, 0] rfl ?_
      exact F
    refine x_if_eq (tgt := 31) hM d_Mo_needed_24 (by decide) (fun q5 => ?_) (fun q5 => ?_)
    · refine x_iconst (v := 1) hM d_Mo_needed_31 (by decide) ?_
      refine x_iload_n hM d_Mo_needed_32 rfl 2 rfl ?_
      refine x_ishl hM d_Mo_needed_33 ?_
      refine x_sub [0, 2] rfl ?_
      exact JJ _ (Eq.symm (if_pos q5))
    · refine x_iconst (v := 0) hM d_Mo_needed_27 (by decide) ?_
      refine x_goto (tgt := 34) hM d_Mo_needed_28 (by decide) ?_
      refine x_sub [0, 2] rfl ?_
      exact JJ _ (Eq.symm (if_neg q5))
