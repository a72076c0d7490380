theorem d_Mo_isReachedWithout_0 : decode b_Mo_isReachedWithout 0 = .ok (.iconst 0, 1) := by decide +kernel
theorem d_Mo_isReachedWithout_1 : decode b_Mo_isReachedWithout 1 = .ok (.istore 4, 2) := by decide +kernel
theorem d_Mo_isReachedWithout_3 : decode b_Mo_isReachedWithout 3 = .ok (.iload 4, 2) := by decide +kernel
theorem d_Mo_isReachedWithout_5 : decode b_Mo_isReachedWithout 5 = .ok (.aload_n 0, 1) := by decide +kernel
theorem d_Mo_isReachedWithout_6 : decode b_Mo_isReachedWithout 6 = .ok (.getfield 157, 3) := by decide +kernel
theorem d_Mo_isReachedWithout_9 : decode b_Mo_isReachedWithout 9 = .ok (.if_icmp .ge 17, 3) := by decide +kernel
theorem d_Mo_isReachedWithout_12 : decode b_Mo_isReachedWithout 12 = .ok (.aload_n 0, 1) := by decide +kernel
theorem d_Mo_isReachedWithout_13 : decode b_Mo_isReachedWithout 13 = .ok (.getfield 92, 3) := by decide +kernel
theorem d_Mo_isReachedWithout_16 : decode b_Mo_isReachedWithout 16 = .ok (.iload 4, 2) := by decide +kernel
theorem d_Mo_isReachedWithout_18 : decode b_Mo_isReachedWithout 18 = .ok (.iconst 0, 1) := by decide +kernel
theorem d_Mo_isReachedWithout_19 : decode b_Mo_isReachedWithout 19 = .ok (.bastore, 1) := by decide +kernel
theorem d_Mo_isReachedWithout_20 : decode b_Mo_isReachedWithout 20 = .ok (.iinc 4 1, 3) := by decide +kernel
theorem d_Mo_isReachedWithout_23 : decode b_Mo_isReachedWithout 23 = .ok (.goto (-20), 3) := by decide +kernel
theorem d_Mo_isReachedWithout_26 : decode b_Mo_isReachedWithout 26 = .ok (.iconst 0, 1) := by decide +kernel
theorem d_Mo_isReachedWithout_27 : decode b_Mo_isReachedWithout 27 = .ok (.istore 4, 2) := by decide +kernel
theorem d_Mo_isReachedWithout_29 : decode b_Mo_isReachedWithout 29 = .ok (.aload_n 0, 1) := by decide +kernel
theorem d_Mo_isReachedWithout_30 : decode b_Mo_isReachedWithout 30 = .ok (.aload_n 0, 1) := by decide +kernel
theorem d_Mo_isReachedWithout_31 : decode b_Mo_isReachedWithout 31 = .ok (.getfield 109, 3) := by decide +kernel
theorem d_Mo_isReachedWithout_34 : decode b_Mo_isReachedWithout 34 = .ok (.iload_n 2, 1) := by decide +kernel
theorem d_Mo_isReachedWithout_35 : decode b_Mo_isReachedWithout 35 = .ok (.iload_n 3, 1) := by decide +kernel
theorem d_Mo_isReachedWithout_36 : decode b_Mo_isReachedWithout 36 = .ok (.invokevirtual 209, 3) := by decide +kernel
theorem d_Mo_isReachedWithout_39 : decode b_Mo_isReachedWithout 39 = .ok (.ifCond .ne 26, 3) := by decide +kernel
theorem d_Mo_isReachedWithout_42 : decode b_Mo_isReachedWithout 42 = .ok (.aload_n 0, 1) := by decide +kernel
theorem d_Mo_isReachedWithout_43 : decode b_Mo_isReachedWithout 43 = .ok (.getfield 92, 3) := by decide +kernel
theorem d_Mo_isReachedWithout_46 : decode b_Mo_isReachedWithout 46 = .ok (.aload_n 0, 1) := by decide +kernel
theorem d_Mo_isReachedWithout_47 : decode b_Mo_isReachedWithout 47 = .ok (.getfield 109, 3) := by decide +kernel
theorem d_Mo_isReachedWithout_50 : decode b_Mo_isReachedWithout 50 = .ok (.iconst 1, 1) := by decide +kernel
theorem d_Mo_isReachedWithout_51 : decode b_Mo_isReachedWithout 51 = .ok (.bastore, 1) := by decide +kernel
theorem d_Mo_isReachedWithout_52 : decode b_Mo_isReachedWithout 52 = .ok (.aload_n 0, 1) := by decide +kernel
theorem d_Mo_isReachedWithout_53 : decode b_Mo_isReachedWithout 53 = .ok (.getfield 63, 3) := by decide +kernel
theorem d_Mo_isReachedWithout_56 : decode b_Mo_isReachedWithout 56 = .ok (.iconst 0, 1) := by decide +kernel
theorem d_Mo_isReachedWithout_57 : decode b_Mo_isReachedWithout 57 = .ok (.aload_n 0, 1) := by decide +kernel
theorem d_Mo_isReachedWithout_58 : decode b_Mo_isReachedWithout 58 = .ok (.getfield 109, 3) := by decide +kernel
theorem d_Mo_isReachedWithout_61 : decode b_Mo_isReachedWithout 61 = .ok (.iastore, 1) := by decide +kernel
theorem d_Mo_isReachedWithout_62 : decode b_Mo_isReachedWithout 62 = .ok (.iconst 1, 1) := by decide +kernel
theorem d_Mo_isReachedWithout_63 : decode b_Mo_isReachedWithout 63 = .ok (.istore 4, 2) := by decide +kernel
theorem d_Mo_isReachedWithout_65 : decode b_Mo_isReachedWithout 65 = .ok (.iconst 0, 1) := by decide +kernel
theorem d_Mo_isReachedWithout_66 : decode b_Mo_isReachedWithout 66 = .ok (.istore 5, 2) := by decide +kernel
theorem d_Mo_isReachedWithout_68 : decode b_Mo_isReachedWithout 68 = .ok (.iload 5, 2) := by decide +kernel
theorem d_Mo_isReachedWithout_70 : decode b_Mo_isReachedWithout 70 = .ok (.iload 4, 2) := by decide +kernel
theorem d_Mo_isReachedWithout_72 : decode b_Mo_isReachedWithout 72 = .ok (.if_icmp .ge 120, 3) := by decide +kernel
theorem d_Mo_isReachedWithout_75 : decode b_Mo_isReachedWithout 75 = .ok (.aload_n 0, 1) := by decide +kernel
theorem d_Mo_isReachedWithout_76 : decode b_Mo_isReachedWithout 76 = .ok (.getfield 63, 3) := by decide +kernel
theorem d_Mo_isReachedWithout_79 : decode b_Mo_isReachedWithout 79 = .ok (.iload 5, 2) := by decide +kernel
theorem d_Mo_isReachedWithout_81 : decode b_Mo_isReachedWithout 81 = .ok (.iaload, 1) := by decide +kernel
theorem d_Mo_isReachedWithout_82 : decode b_Mo_isReachedWithout 82 = .ok (.istore 6, 2) := by decide +kernel
theorem d_Mo_isReachedWithout_84 : decode b_Mo_isReachedWithout 84 = .ok (.aload_n 0, 1) := by decide +kernel
theorem d_Mo_isReachedWithout_85 : decode b_Mo_isReachedWithout 85 = .ok (.getfield 38, 3) := by decide +kernel
theorem d_Mo_isReachedWithout_88 : decode b_Mo_isReachedWithout 88 = .ok (.iload 6, 2) := by decide +kernel
theorem d_Mo_isReachedWithout_90 : decode b_Mo_isReachedWithout 90 = .ok (.baload, 1) := by decide +kernel
theorem d_Mo_isReachedWithout_91 : decode b_Mo_isReachedWithout 91 = .ok (.ifCond .eq 5, 3) := by decide +kernel
theorem d_Mo_isReachedWithout_94 : decode b_Mo_isReachedWithout 94 = .ok (.iconst 1, 1) := by decide +kernel
theorem d_Mo_isReachedWithout_95 : decode b_Mo_isReachedWithout 95 = .ok (.ireturn, 1) := by decide +kernel
theorem d_Mo_isReachedWithout_96 : decode b_Mo_isReachedWithout 96 = .ok (.iconst 0, 1) := by decide +kernel
theorem d_Mo_isReachedWithout_97 : decode b_Mo_isReachedWithout 97 = .ok (.istore 7, 2) := by decide +kernel
theorem d_Mo_isReachedWithout_99 : decode b_Mo_isReachedWithout 99 = .ok (.iload 7, 2) := by decide +kernel
theorem d_Mo_isReachedWithout_101 : decode b_Mo_isReachedWithout 101 = .ok (.iconst 3, 1) := by decide +kernel
theorem d_Mo_isReachedWithout_102 : decode b_Mo_isReachedWithout 102 = .ok (.aload_n 0, 1) := by decide +kernel
theorem d_Mo_isReachedWithout_103 : decode b_Mo_isReachedWithout 103 = .ok (.getfield 112, 3) := by decide +kernel
theorem d_Mo_isReachedWithout_106 : decode b_Mo_isReachedWithout 106 = .ok (.imul, 1) := by decide +kernel
theorem d_Mo_isReachedWithout_107 : decode b_Mo_isReachedWithout 107 = .ok (.if_icmp .ge 79, 3) := by decide +kernel
theorem d_Mo_isReachedWithout_110 : decode b_Mo_isReachedWithout 110 = .ok (.aload_n 0, 1) := by decide +kernel
theorem d_Mo_isReachedWithout_111 : decode b_Mo_isReachedWithout 111 = .ok (.getfield 35, 3) := by decide +kernel
theorem d_Mo_isReachedWithout_114 : decode b_Mo_isReachedWithout 114 = .ok (.bipush 36, 2) := by decide +kernel
theorem d_Mo_isReachedWithout_116 : decode b_Mo_isReachedWithout 116 = .ok (.iload 6, 2) := by decide +kernel
theorem d_Mo_isReachedWithout_118 : decode b_Mo_isReachedWithout 118 = .ok (.imul, 1) := by decide +kernel
theorem d_Mo_isReachedWithout_119 : decode b_Mo_isReachedWithout 119 = .ok (.iload 7, 2) := by decide +kernel
theorem d_Mo_isReachedWithout_121 : decode b_Mo_isReachedWithout 121 = .ok (.iadd, 1) := by decide +kernel
theorem d_Mo_isReachedWithout_122 : decode b_Mo_isReachedWithout 122 = .ok (.iaload, 1) := by decide +kernel
theorem d_Mo_isReachedWithout_123 : decode b_Mo_isReachedWithout 123 = .ok (.istore 8, 2) := by decide +kernel
theorem d_Mo_isReachedWithout_125 : decode b_Mo_isReachedWithout 125 = .ok (.iload 8, 2) := by decide +kernel
theorem d_Mo_isReachedWithout_127 : decode b_Mo_isReachedWithout 127 = .ok (.iconst (-1), 1) := by decide +kernel
theorem d_Mo_isReachedWithout_128 : decode b_Mo_isReachedWithout 128 = .ok (.if_icmp .eq 52, 3) := by decide +kernel
theorem d_Mo_isReachedWithout_131 : decode b_Mo_isReachedWithout 131 = .ok (.iload 7, 2) := by decide +kernel
theorem d_Mo_isReachedWithout_133 : decode b_Mo_isReachedWithout 133 = .ok (.iconst 3, 1) := by decide +kernel
theorem d_Mo_isReachedWithout_134 : decode b_Mo_isReachedWithout 134 = .ok (.idiv, 1) := by decide +kernel
theorem d_Mo_isReachedWithout_135 : decode b_Mo_isReachedWithout 135 = .ok (.iload_n 1, 1) := by decide +kernel
theorem d_Mo_isReachedWithout_136 : decode b_Mo_isReachedWithout 136 = .ok (.if_icmp .eq 44, 3) := by decide +kernel
theorem d_Mo_isReachedWithout_139 : decode b_Mo_isReachedWithout 139 = .ok (.aload_n 0, 1) := by decide +kernel
theorem d_Mo_isReachedWithout_140 : decode b_Mo_isReachedWithout 140 = .ok (.getfield 92, 3) := by decide +kernel
theorem d_Mo_isReachedWithout_143 : decode b_Mo_isReachedWithout 143 = .ok (.iload 8, 2) := by decide +kernel
theorem d_Mo_isReachedWithout_145 : decode b_Mo_isReachedWithout 145 = .ok (.baload, 1) := by decide +kernel
theorem d_Mo_isReachedWithout_146 : decode b_Mo_isReachedWithout 146 = .ok (.ifCond .ne 34, 3) := by decide +kernel
theorem d_Mo_isReachedWithout_149 : decode b_Mo_isReachedWithout 149 = .ok (.aload_n 0, 1) := by decide +kernel
theorem d_Mo_isReachedWithout_150 : decode b_Mo_isReachedWithout 150 = .ok (.iload 8, 2) := by decide +kernel
theorem d_Mo_isReachedWithout_152 : decode b_Mo_isReachedWithout 152 = .ok (.iload_n 2, 1) := by decide +kernel
theorem d_Mo_isReachedWithout_153 : decode b_Mo_isReachedWithout 153 = .ok (.iload_n 3, 1) := by decide +kernel
theorem d_Mo_isReachedWithout_154 : decode b_Mo_isReachedWithout 154 = .ok (.invokevirtual 209, 3) := by decide +kernel
theorem d_Mo_isReachedWithout_157 : decode b_Mo_isReachedWithout 157 = .ok (.ifCond .ne 23, 3) := by decide +kernel
theorem d_Mo_isReachedWithout_160 : decode b_Mo_isReachedWithout 160 = .ok (.aload_n 0, 1) := by decide +kernel
theorem d_Mo_isReachedWithout_161 : decode b_Mo_isReachedWithout 161 = .ok (.getfield 92, 3) := by decide +kernel
theorem d_Mo_isReachedWithout_164 : decode b_Mo_isReachedWithout 164 = .ok (.iload 8, 2) := by decide +kernel
theorem d_Mo_isReachedWithout_166 : decode b_Mo_isReachedWithout 166 = .ok (.iconst 1, 1) := by decide +kernel
theorem d_Mo_isReachedWithout_167 : decode b_Mo_isReachedWithout 167 = .ok (.bastore, 1) := by decide +kernel
theorem d_Mo_isReachedWithout_168 : decode b_Mo_isReachedWithout 168 = .ok (.aload_n 0, 1) := by decide +kernel
theorem d_Mo_isReachedWithout_169 : decode b_Mo_isReachedWithout 169 = .ok (.getfield 63, 3) := by decide +kernel
theorem d_Mo_isReachedWithout_172 : decode b_Mo_isReachedWithout 172 = .ok (.iload 4, 2) := by decide +kernel
theorem d_Mo_isReachedWithout_174 : decode b_Mo_isReachedWithout 174 = .ok (.iload 8, 2) := by decide +kernel
theorem d_Mo_isReachedWithout_176 : decode b_Mo_isReachedWithout 176 = .ok (.iastore, 1) := by decide +kernel
theorem d_Mo_isReachedWithout_177 : decode b_Mo_isReachedWithout 177 = .ok (.iinc 4 1, 3) := by decide +kernel
theorem d_Mo_isReachedWithout_180 : decode b_Mo_isReachedWithout 180 = .ok (.iinc 7 1, 3) := by decide +kernel
theorem d_Mo_isReachedWithout_183 : decode b_Mo_isReachedWithout 183 = .ok (.goto (-84), 3) := by decide +kernel
theorem d_Mo_isReachedWithout_186 : decode b_Mo_isReachedWithout 186 = .ok (.iinc 5 1, 3) := by decide +kernel
theorem d_Mo_isReachedWithout_189 : decode b_Mo_isReachedWithout 189 = .ok (.goto (-121), 3) := by decide +kernel
theorem d_Mo_isReachedWithout_192 : decode b_Mo_isReachedWithout 192 = .ok (.iconst 0, 1) := by decide +kernel
theorem d_Mo_isReachedWithout_193 : decode b_Mo_isReachedWithout 193 = .ok (.ireturn, 1) := by decide +kernel
set_option maxRecDepth 100000 in
set_option maxHeartbeats 4000000 in
theorem S_Mo_isReachedWithout_0 {G : Gc} {M : Mc} {Q : State → Prop} {K : Option Value → Hp → Prop} (hG : gok G) (hM : mok G M r_Mo_isReachedWithout Q K) (v0 : Nat) (v1 : Int32) (v2 : Int32) (v3 : Int32) (h : Hp) (F : X G M Q 3 [(0, .ref v0), (1, .int v1), (2, .int v2), (3, .int v3), (4, .int 0)] [] h) : X G M Q 0 [(0, .ref v0), (1, .int v1), (2, .int v2), (3, .int v3)] [] h := by
  refine x_iconst (v := 0) hM d_Mo_isReachedWithout_0 (by decide) ?_
  refine x_istore (lv2 := [(4, .int 0), (0, .ref v0), (1, .int v1), (2, .int v2), (3, .int v3)]) hM d_Mo_isReachedWithout_1 (Nat.le_of_ble_eq_true rfl) rfl ?_
  refine x_sub [1, 2, 3, 4, 0] rfl ?_
  exact F
set_option maxRecDepth 100000 in
set_option maxHeartbeats 4000000 in
theorem S_Mo_isReachedWithout_3 {G : Gc} {M : Mc} {Q : State → Prop} {K : Option Value → Hp → Prop} (hG : gok G) (hM : mok G M r_Mo_isReachedWithout Q K) (v0 : Nat) (v1 : Int32) (v2 : Int32) (v3 : Int32) (v4 : Int32) (h : Hp) (F : kT h v0 = 12 ∧ (((kI h v0 13) ≤ v4 → (kT h v0 = 12 ∧ (kT h v0 = 12 ∧ sem G r_Mo_isBarred [.ref v0, .int (kI h v0 2), .int v2, .int v3] h (fun u2 h1 => ∃ x3 : Int32, u2 = some (.int x3) ∧ ((x3 = 0 → (kT h1 v0 = 12 ∧ kR h1 v0 34 = some (rf h1 v0 34) ∧ (kT h1 v0 = 12 ∧ (kT h1 (rf h1 v0 34) = 51 ∧ vp_in (kI h1 v0 2) (kN h1 (rf h1 v0 34)) ∧ (∀ h4 : Hp, h4 = wI h1 (rf h1 v0 34) (Int32.toNatClampNeg (kI h1 v0 2)) 1 → (kT h4 v0 = 12 ∧ kR h4 v0 23 = some (rf h4 v0 23) ∧ (kT h4 v0 = 12 ∧ (kT h4 (rf h4 v0 23) = 50 ∧ vp_in 0 (kN h4 (rf h4 v0 23)) ∧ (∀ h5 : Hp, h5 = wI h4 (rf h4 v0 23) (Int32.toNatClampNeg 0) (kI h4 v0 2) → X G M Q 68 [(0, .ref v0), (1, .int v1), (2, .int v2), (3, .int v3), (4, .int 1), (5, .int 0)] [] h5))))))))) ∧ (¬ x3 = 0 → X G M Q 68 [(0, .ref v0), (1, .int v1), (2, .int v2), (3, .int v3), (4, .int 0), (5, .int 0)] [] h1)))))) ∧ (¬ (kI h v0 13) ≤ v4 → (kT h v0 = 12 ∧ kR h v0 34 = some (rf h v0 34) ∧ (kT h (rf h v0 34) = 51 ∧ vp_in v4 (kN h (rf h v0 34)) ∧ (∀ h19 : Hp, h19 = wI h (rf h v0 34) (Int32.toNatClampNeg v4) 0 → X G M Q 3 [(0, .ref v0), (1, .int v1), (2, .int v2), (3, .int v3), (4, .int (v4 + 1))] [] h19)))))) : X G M Q 3 [(0, .ref v0), (1, .int v1), (2, .int v2), (3, .int v3), (4, .int v4)] [] h := by
  refine x_iload hM d_Mo_isReachedWithout_3 4 rfl ?_
  refine x_aload_n hM d_Mo_isReachedWithout_5 rfl 0 rfl ?_
  obtain ⟨c25, F⟩ := F
  refine x_geti hG hM ck_Mo 13 (Nat.le_of_ble_eq_true rfl) rfl rfl w_910 rfl d_Mo_isReachedWithout_6 c25 ?_
  refine x_icmp_ge (tgt := 26) hM d_Mo_isReachedWithout_9 (by decide) (fun q24 => ?_) (fun q24 => ?_)
  · replace F := F.1 q24
    refine x_iconst (v := 0) hM d_Mo_isReachedWithout_26 (by decide) ?_
    refine x_istore (lv2 := [(4, .int 0), (0, .ref v0), (1, .int v1), (2, .int v2), (3, .int v3)]) hM d_Mo_isReachedWithout_27 (Nat.le_of_ble_eq_true rfl) rfl ?_
    refine x_aload_n hM d_Mo_isReachedWithout_29 rfl 1 rfl ?_
    refine x_aload_n hM d_Mo_isReachedWithout_30 rfl 1 rfl ?_
    obtain ⟨c18, F⟩ := F
    refine x_geti hG hM ck_Mo 2 (Nat.le_of_ble_eq_true rfl) rfl rfl w_899 rfl d_Mo_isReachedWithout_31 c18 ?_
    refine x_iload_n hM d_Mo_isReachedWithout_34 rfl 3 rfl ?_
    refine x_iload_n hM d_Mo_isReachedWithout_35 rfl 4 rfl ?_
    obtain ⟨c17, F⟩ := F
    refine x_callV hG hM (r' := r_Mo_isBarred) (ci := 11) [.int (kI h v0 2), .int v2, .int v3] rfl rfl (Nat.le_of_ble_eq_true rfl) yk_Mo_isBarred ⟨Nat.le_of_ble_eq_true rfl, Nat.le_of_ble_eq_true rfl⟩ w_1185 w_1187 ws_Mo_isBarred rfl rfl (Nat.le_of_ble_eq_true rfl) d_Mo_isReachedWithout_36 c17 (sem_mono F ?_)
    intro u2 h1 F
    obtain ⟨x3, rfl, F⟩ := F
    refine x_if_ne (tgt := 65) hM d_Mo_isReachedWithout_39 (by decide) (fun q16 => ?_) (fun q16 => ?_)
    · replace F := F.2 q16
      refine x_iconst (v := 0) hM d_Mo_isReachedWithout_65 (by decide) ?_
      refine x_istore (lv2 := [(5, .int 0), (4, .int 0), (0, .ref v0), (1, .int v1), (2, .int v2), (3, .int v3)]) hM d_Mo_isReachedWithout_66 (Nat.le_of_ble_eq_true rfl) rfl ?_
      refine x_sub [2, 3, 4, 5, 1, 0] rfl ?_
      exact F
    · replace F := F.1 q16
      refine x_aload_n hM d_Mo_isReachedWithout_42 rfl 1 rfl ?_
      obtain ⟨c14, F⟩ := F
      obtain ⟨c15, F⟩ := F
      refine x_getr hG hM ck_Mo 34 (Nat.le_of_ble_eq_true rfl) rfl rfl w_931 rfl d_Mo_isReachedWithout_43 c14 c15 ?_
      refine x_aload_n hM d_Mo_isReachedWithout_46 rfl 1 rfl ?_
      obtain ⟨c13, F⟩ := F
      refine x_geti hG hM ck_Mo 2 (Nat.le_of_ble_eq_true rfl) rfl rfl w_899 rfl d_Mo_isReachedWithout_47 c13 ?_
      refine x_iconst (v := 1) hM d_Mo_isReachedWithout_50 (by decide) ?_
      obtain ⟨c11, F⟩ := F
      obtain ⟨c12, F⟩ := F
      obtain ⟨h4, eh4⟩ : ∃ z : Hp, z = wI h1 (rf h1 v0 34) (Int32.toNatClampNeg (kI h1 v0 2)) 1 := ⟨_, rfl⟩
      replace F := F h4 eh4
      refine x_zastore hG hM d_Mo_isReachedWithout_51 c11 c12 (Or.inr rfl) ?_
      rw [← eh4]
      clear eh4
      refine x_aload_n hM d_Mo_isReachedWithout_52 rfl 1 rfl ?_
      obtain ⟨c9, F⟩ := F
      obtain ⟨c10, F⟩ := F
      refine x_getr hG hM ck_Mo 23 (Nat.le_of_ble_eq_true rfl) rfl rfl w_920 rfl d_Mo_isReachedWithout_53 c9 c10 ?_
      refine x_iconst (v := 0) hM d_Mo_isReachedWithout_56 (by decide) ?_
      refine x_aload_n hM d_Mo_isReachedWithout_57 rfl 1 rfl ?_
      obtain ⟨c8, F⟩ := F
      refine x_geti hG hM ck_Mo 2 (Nat.le_of_ble_eq_true rfl) rfl rfl w_899 rfl d_Mo_isReachedWithout_58 c8 ?_
      obtain ⟨c6, F⟩ := F
      obtain ⟨c7, F⟩ := F
      obtain ⟨h5, eh5⟩ : ∃ z : Hp, z = wI h4 (rf h4 v0 23) (Int32.toNatClampNeg 0) (kI h4 v0 2) := ⟨_, rfl⟩
      replace F := F h5 eh5
      refine x_iastore hG hM d_Mo_isReachedWithout_61 c6 c7 ?_
      rw [← eh5]
      clear eh5
      refine x_iconst (v := 1) hM d_Mo_isReachedWithout_62 (by decide) ?_
      refine x_istore (lv2 := [(4, .int 1), (0, .ref v0), (1, .int v1), (2, .int v2), (3, .int v3)]) hM d_Mo_isReachedWithout_63 (Nat.le_of_ble_eq_true rfl) rfl ?_
      refine x_iconst (v := 0) hM d_Mo_isReachedWithout_65 (by decide) ?_
      refine x_istore (lv2 := [(5, .int 0), (4, .int 1), (0, .ref v0), (1, .int v1), (2, .int v2), (3, .int v3)]) hM d_Mo_isReachedWithout_66 (Nat.le_of_ble_eq_true rfl) rfl ?_
      refine x_sub [2, 3, 4, 5, 1, 0] rfl ?_
      exact F
  · replace F := F.2 q24
    refine x_aload_n hM d_Mo_isReachedWithout_12 rfl 0 rfl ?_
    obtain ⟨c22, F⟩ := F
    obtain ⟨c23, F⟩ := F
    refine x_getr hG hM ck_Mo 34 (Nat.le_of_ble_eq_true rfl) rfl rfl w_931 rfl d_Mo_isReachedWithout_13 c22 c23 ?_
    refine x_iload hM d_Mo_isReachedWithout_16 4 rfl ?_
    refine x_iconst (v := 0) hM d_Mo_isReachedWithout_18 (by decide) ?_
    obtain ⟨c20, F⟩ := F
    obtain ⟨c21, F⟩ := F
    obtain ⟨h19, eh19⟩ : ∃ z : Hp, z = wI h (rf h v0 34) (Int32.toNatClampNeg v4) 0 := ⟨_, rfl⟩
    replace F := F h19 eh19
    refine x_zastore hG hM d_Mo_isReachedWithout_19 c20 c21 (Or.inl rfl) ?_
    rw [← eh19]
    clear eh19
    refine x_iinc (v := (v4 + 1)) (lv2 := [(4, .int (v4 + 1)), (0, .ref v0), (1, .int v1), (2, .int v2), (3, .int v3)]) hM d_Mo_isReachedWithout_20 (j := 4) rfl rfl (Nat.le_of_ble_eq_true rfl) rfl ?_
    refine x_goto (tgt := 3) hM d_Mo_isReachedWithout_23 (by decide) ?_
    refine x_sub [1, 2, 3, 4, 0] rfl ?_
    exact F
set_option maxRecDepth 100000 in
set_option maxHeartbeats 4000000 in
theorem S_Mo_isReachedWithout_68 {G : Gc} {M : Mc} {Q : State → Prop} {K : Option Value → Hp → Prop} (hG : gok G) (hM : mok G M r_Mo_isReachedWithout Q K) (v0 : Nat) (v1 : Int32) (v2 : Int32) (v3 : Int32) (v4 : Int32) (v5 : Int32) (h : Hp) (F : (v4 ≤ v5 → K (some (.int 0)) h) ∧ (¬ v4 ≤ v5 → (kT h v0 = 12 ∧ kR h v0 23 = some (rf h v0 23) ∧ (kT h (rf h v0 23) = 50 ∧ vp_in v5 (kN h (rf h v0 23)) ∧ (kT h v0 = 12 ∧ kR h v0 15 = some (rf h v0 15) ∧ (kT h (rf h v0 15) = 51 ∧ vp_in (kI h (rf h v0 23) (Int32.toNatClampNeg v5)) (kN h (rf h v0 15)) ∧ (((kI h (rf h v0 15) (Int32.toNatClampNeg (kI h (rf h v0 23) (Int32.toNatClampNeg v5)))) = 0 → X G M Q 99 [(0, .ref v0), (1, .int v1), (2, .int v2), (3, .int v3), (4, .int v4), (5, .int v5), (6, .int (kI h (rf h v0 23) (Int32.toNatClampNeg v5))), (7, .int 0)] [] h) ∧ (¬ (kI h (rf h v0 15) (Int32.toNatClampNeg (kI h (rf h v0 23) (Int32.toNatClampNeg v5)))) = 0 → K (some (.int 1)) h)))))))) : X G M Q 68 [(0, .ref v0), (1, .int v1), (2, .int v2), (3, .int v3), (4, .int v4), (5, .int v5)] [] h := by
  refine x_iload hM d_Mo_isReachedWithout_68 5 rfl ?_
  refine x_iload hM d_Mo_isReachedWithout_70 4 rfl ?_
  refine x_icmp_ge (tgt := 192) hM d_Mo_isReachedWithout_72 (by decide) (fun q10 => ?_) (fun q10 => ?_)
  · replace F := F.1 q10
    refine x_iconst (v := 0) hM d_Mo_isReachedWithout_192 (by decide) ?_
    exact x_zreturn hM d_Mo_isReachedWithout_193 rfl (Or.inl rfl) F
  · replace F := F.2 q10
    refine x_aload_n hM d_Mo_isReachedWithout_75 rfl 0 rfl ?_
    obtain ⟨c8, F⟩ := F
    obtain ⟨c9, F⟩ := F
    refine x_getr hG hM ck_Mo 23 (Nat.le_of_ble_eq_true rfl) rfl rfl w_920 rfl d_Mo_isReachedWithout_76 c8 c9 ?_
    refine x_iload hM d_Mo_isReachedWithout_79 5 rfl ?_
    obtain ⟨c6, F⟩ := F
    obtain ⟨c7, F⟩ := F
    refine x_iaload hG hM d_Mo_isReachedWithout_81 c6 c7 ?_
    refine x_istore (lv2 := [(6, .int (kI h (rf h v0 23) (Int32.toNatClampNeg v5))), (0, .ref v0), (1, .int v1), (2, .int v2), (3, .int v3), (4, .int v4), (5, .int v5)]) hM d_Mo_isReachedWithout_82 (Nat.le_of_ble_eq_true rfl) rfl ?_
    refine x_aload_n hM d_Mo_isReachedWithout_84 rfl 1 rfl ?_
    obtain ⟨c4, F⟩ := F
    obtain ⟨c5, F⟩ := F
    refine x_getr hG hM ck_Mo 15 (Nat.le_of_ble_eq_true rfl) rfl rfl w_912 rfl d_Mo_isReachedWithout_85 c4 c5 ?_
    refine x_iload hM d_Mo_isReachedWithout_88 0 rfl ?_
    obtain ⟨c2, F⟩ := F
    obtain ⟨c3, F⟩ := F
    refine x_zaload hG hM d_Mo_isReachedWithout_90 c2 c3 ?_
    refine x_if_eq (tgt := 96) hM d_Mo_isReachedWithout_91 (by decide) (fun q1 => ?_) (fun q1 => ?_)
    · replace F := F.1 q1
      refine x_iconst (v := 0) hM d_Mo_isReachedWithout_96 (by decide) ?_
      refine x_istore (lv2 := [(7, .int 0), (6, .int (kI h (rf h v0 23) (Int32.toNatClampNeg v5))), (0, .ref v0), (1, .int v1), (2, .int v2), (3, .int v3), (4, .int v4), (5, .int v5)]) hM d_Mo_isReachedWithout_97 (Nat.le_of_ble_eq_true rfl) rfl ?_
      refine x_sub [2, 3, 4, 5, 6, 7, 1, 0] rfl ?_
      exact F
    · replace F := F.2 q1
      refine x_iconst (v := 1) hM d_Mo_isReachedWithout_94 (by decide) ?_
      exact x_zreturn hM d_Mo_isReachedWithout_95 rfl (Or.inr rfl) F
set_option maxRecDepth 100000 in
set_option maxHeartbeats 4000000 in
theorem S_Mo_isReachedWithout_99 {G : Gc} {M : Mc} {Q : State → Prop} {K : Option Value → Hp → Prop} (hG : gok G) (hM : mok G M r_Mo_isReachedWithout Q K) (v0 : Nat) (v1 : Int32) (v2 : Int32) (v3 : Int32) (v4 : Int32) (v5 : Int32) (v6 : Int32) (v7 : Int32) (h : Hp) (F : kT h v0 = 12 ∧ (((3 * (kI h v0 3)) ≤ v7 → X G M Q 68 [(0, .ref v0), (1, .int v1), (2, .int v2), (3, .int v3), (4, .int v4), (5, .int (v5 + 1))] [] h) ∧ (¬ (3 * (kI h v0 3)) ≤ v7 → (kT h v0 = 12 ∧ kR h v0 14 = some (rf h v0 14) ∧ (kT h (rf h v0 14) = 50 ∧ vp_in ((36 * v6) + v7) (kN h (rf h v0 14)) ∧ (((kI h (rf h v0 14) (Int32.toNatClampNeg ((36 * v6) + v7))) = (-1) → X G M Q 99 [(0, .ref v0), (1, .int v1), (2, .int v2), (3, .int v3), (4, .int v4), (5, .int v5), (6, .int v6), (7, .int (v7 + 1))] [] h) ∧ (¬ (kI h (rf h v0 14) (Int32.toNatClampNeg ((36 * v6) + v7))) = (-1) → (((v7 / 3) = v1 → X G M Q 99 [(0, .ref v0), (1, .int v1), (2, .int v2), (3, .int v3), (4, .int v4), (5, .int v5), (6, .int v6), (7, .int (v7 + 1))] [] h) ∧ (¬ (v7 / 3) = v1 → (kT h v0 = 12 ∧ kR h v0 34 = some (rf h v0 34) ∧ (kT h (rf h v0 34) = 51 ∧ vp_in (kI h (rf h v0 14) (Int32.toNatClampNeg ((36 * v6) + v7))) (kN h (rf h v0 34)) ∧ (((kI h (rf h v0 34) (Int32.toNatClampNeg (kI h (rf h v0 14) (Int32.toNatClampNeg ((36 * v6) + v7))))) = 0 → (kT h v0 = 12 ∧ sem G r_Mo_isBarred [.ref v0, .int (kI h (rf h v0 14) (Int32.toNatClampNeg ((36 * v6) + v7))), .int v2, .int v3] h (fun u2 h1 => ∃ x3 : Int32, u2 = some (.int x3) ∧ ((x3 = 0 → (kT h1 v0 = 12 ∧ kR h1 v0 34 = some (rf h1 v0 34) ∧ (kT h1 (rf h1 v0 34) = 51 ∧ vp_in (kI h (rf h v0 14) (Int32.toNatClampNeg ((36 * v6) + v7))) (kN h1 (rf h1 v0 34)) ∧ (∀ h4 : Hp, h4 = wI h1 (rf h1 v0 34) (Int32.toNatClampNeg (kI h (rf h v0 14) (Int32.toNatClampNeg ((36 * v6) + v7)))) 1 → (kT h4 v0 = 12 ∧ kR h4 v0 23 = some (rf h4 v0 23) ∧ (kT h4 (rf h4 v0 23) = 50 ∧ vp_in v4 (kN h4 (rf h4 v0 23)) ∧ (∀ h5 : Hp, h5 = wI h4 (rf h4 v0 23) (Int32.toNatClampNeg v4) (kI h (rf h v0 14) (Int32.toNatClampNeg ((36 * v6) + v7))) → X G M Q 99 [(0, .ref v0), (1, .int v1), (2, .int v2), (3, .int v3), (4, .int (v4 + 1)), (5, .int v5), (6, .int v6), (7, .int (v7 + 1))] [] h5))))))) ∧ (¬ x3 = 0 → X G M Q 99 [(0, .ref v0), (1, .int v1), (2, .int v2), (3, .int v3), (4, .int v4), (5, .int v5), (6, .int v6), (7, .int (v7 + 1))] [] h1))))) ∧ (¬ (kI h (rf h v0 34) (Int32.toNatClampNeg (kI h (rf h v0 14) (Int32.toNatClampNeg ((36 * v6) + v7))))) = 0 → X G M Q 99 [(0, .ref v0), (1, .int v1), (2, .int v2), (3, .int v3), (4, .int v4), (5, .int v5), (6, .int v6), (7, .int (v7 + 1))] [] h))))))))))))) : X G M Q 99 [(0, .ref v0), (1, .int v1), (2, .int v2), (3, .int v3), (4, .int v4), (5, .int v5), (6, .int v6), (7, .int v7)] [] h := by
  refine x_iload hM d_Mo_isReachedWithout_99 7 rfl ?_
  refine x_iconst (v := 3) hM d_Mo_isReachedWithout_101 (by decide) ?_
  refine x_aload_n hM d_Mo_isReachedWithout_102 rfl 0 rfl ?_
  obtain ⟨c28, F⟩ := F
  refine x_geti hG hM ck_Mo 3 (Nat.le_of_ble_eq_true rfl) rfl rfl w_900 rfl d_Mo_isReachedWithout_103 c28 ?_
  refine x_imul hM d_Mo_isReachedWithout_106 ?_
  refine x_icmp_ge (tgt := 186) hM d_Mo_isReachedWithout_107 (by decide) (fun q27 => ?_) (fun q27 => ?_)
  · replace F := F.1 q27
    refine x_iinc (v := (v5 + 1)) (lv2 := [(5, .int (v5 + 1)), (0, .ref v0), (1, .int v1), (2, .int v2), (3, .int v3), (4, .int v4), (6, .int v6), (7, .int v7)]) hM d_Mo_isReachedWithout_186 (j := 5) rfl rfl (Nat.le_of_ble_eq_true rfl) rfl ?_
    refine x_goto (tgt := 68) hM d_Mo_isReachedWithout_189 (by decide) ?_
    refine x_sub [1, 2, 3, 4, 5, 0] rfl ?_
    exact F
  · replace F := F.2 q27
    refine x_aload_n hM d_Mo_isReachedWithout_110 rfl 0 rfl ?_
    obtain ⟨c25, F⟩ := F
    obtain ⟨c26, F⟩ := F
    refine x_getr hG hM ck_Mo 14 (Nat.le_of_ble_eq_true rfl) rfl rfl w_911 rfl d_Mo_isReachedWithout_111 c25 c26 ?_
    refine x_bipush (v := 36) hM d_Mo_isReachedWithout_114 (by decide) ?_
    refine x_iload hM d_Mo_isReachedWithout_116 6 rfl ?_
    refine x_imul hM d_Mo_isReachedWithout_118 ?_
    refine x_iload hM d_Mo_isReachedWithout_119 7 rfl ?_
    refine x_iadd hM d_Mo_isReachedWithout_121 ?_
    obtain ⟨c23, F⟩ := F
    obtain ⟨c24, F⟩ := F
    refine x_iaload hG hM d_Mo_isReachedWithout_122 c23 c24 ?_
    refine x_istore (lv2 := [(8, .int (kI h (rf h v0 14) (Int32.toNatClampNeg ((36 * v6) + v7)))), (0, .ref v0), (1, .int v1), (2, .int v2), (3, .int v3), (4, .int v4), (5, .int v5), (6, .int v6), (7, .int v7)]) hM d_Mo_isReachedWithout_123 (Nat.le_of_ble_eq_true rfl) rfl ?_
    refine x_iload hM d_Mo_isReachedWithout_125 0 rfl ?_
    refine x_iconst (v := (-1)) hM d_Mo_isReachedWithout_127 (by decide) ?_
    refine x_icmp_eq (tgt := 180) hM d_Mo_isReachedWithout_128 (by decide) (fun q22 => ?_) (fun q22 => ?_)
    · replace F := F.1 q22
      refine x_iinc (v := (v7 + 1)) (lv2 := [(7, .int (v7 + 1)), (8, .int (kI h (rf h v0 14) (Int32.toNatClampNeg ((36 * v6) + v7)))), (0, .ref v0), (1, .int v1), (2, .int v2), (3, .int v3), (4, .int v4), (5, .int v5), (6, .int v6)]) hM d_Mo_isReachedWithout_180 (j := 8) rfl rfl (Nat.le_of_ble_eq_true rfl) rfl ?_
      refine x_goto (tgt := 99) hM d_Mo_isReachedWithout_183 (by decide) ?_
      refine x_sub [2, 3, 4, 5, 6, 7, 8, 0] rfl ?_
      exact F
    · replace F := F.2 q22
      refine x_iload hM d_Mo_isReachedWithout_131 8 rfl ?_
      refine x_iconst (v := 3) hM d_Mo_isReachedWithout_133 (by decide) ?_
      refine x_idiv hM d_Mo_isReachedWithout_134 (by decide) ?_
      refine x_iload_n hM d_Mo_isReachedWithout_135 rfl 2 rfl ?_
      refine x_icmp_eq (tgt := 180) hM d_Mo_isReachedWithout_136 (by decide) (fun q21 => ?_) (fun q21 => ?_)
      · replace F := F.1 q21
        refine x_iinc (v := (v7 + 1)) (lv2 := [(7, .int (v7 + 1)), (8, .int (kI h (rf h v0 14) (Int32.toNatClampNeg ((36 * v6) + v7)))), (0, .ref v0), (1, .int v1), (2, .int v2), (3, .int v3), (4, .int v4), (5, .int v5), (6, .int v6)]) hM d_Mo_isReachedWithout_180 (j := 8) rfl rfl (Nat.le_of_ble_eq_true rfl) rfl ?_
        refine x_goto (tgt := 99) hM d_Mo_isReachedWithout_183 (by decide) ?_
        refine x_sub [2, 3, 4, 5, 6, 7, 8, 0] rfl ?_
        exact F
      · replace F := F.2 q21
        refine x_aload_n hM d_Mo_isReachedWithout_139 rfl 1 rfl ?_
        obtain ⟨c19, F⟩ := F
        obtain ⟨c20, F⟩ := F
        refine x_getr hG hM ck_Mo 34 (Nat.le_of_ble_eq_true rfl) rfl rfl w_931 rfl d_Mo_isReachedWithout_140 c19 c20 ?_
        refine x_iload hM d_Mo_isReachedWithout_143 0 rfl ?_
        obtain ⟨c17, F⟩ := F
        obtain ⟨c18, F⟩ := F
        refine x_zaload hG hM d_Mo_isReachedWithout_145 c17 c18 ?_
        refine x_if_ne (tgt := 180) hM d_Mo_isReachedWithout_146 (by decide) (fun q16 => ?_) (fun q16 => ?_)
        · replace F := F.2 q16
          refine x_iinc (v := (v7 + 1)) (lv2 := [(7, .int (v7 + 1)), (8, .int (kI h (rf h v0 14) (Int32.toNatClampNeg ((36 * v6) + v7)))), (0, .ref v0), (1, .int v1), (2, .int v2), (3, .int v3), (4, .int v4), (5, .int v5), (6, .int v6)]) hM d_Mo_isReachedWithout_180 (j := 8) rfl rfl (Nat.le_of_ble_eq_true rfl) rfl ?_
          refine x_goto (tgt := 99) hM d_Mo_isReachedWithout_183 (by decide) ?_
          refine x_sub [2, 3, 4, 5, 6, 7, 8, 0] rfl ?_
          exact F
        · replace F := F.1 q16
          refine x_aload_n hM d_Mo_isReachedWithout_149 rfl 1 rfl ?_
          refine x_iload hM d_Mo_isReachedWithout_150 0 rfl ?_
          refine x_iload_n hM d_Mo_isReachedWithout_152 rfl 3 rfl ?_
          refine x_iload_n hM d_Mo_isReachedWithout_153 rfl 4 rfl ?_
          obtain ⟨c15, F⟩ := F
          refine x_callV hG hM (r' := r_Mo_isBarred) (ci := 11) [.int (kI h (rf h v0 14) (Int32.toNatClampNeg ((36 * v6) + v7))), .int v2, .int v3] rfl rfl (Nat.le_of_ble_eq_true rfl) yk_Mo_isBarred ⟨Nat.le_of_ble_eq_true rfl, Nat.le_of_ble_eq_true rfl⟩ w_1185 w_1187 ws_Mo_isBarred rfl rfl (Nat.le_of_ble_eq_true rfl) d_Mo_isReachedWithout_154 c15 (sem_mono F ?_)
          intro u2 h1 F
          obtain ⟨x3, rfl, F⟩ := F
          refine x_if_ne (tgt := 180) hM d_Mo_isReachedWithout_157 (by decide) (fun q14 => ?_) (fun q14 => ?_)
          · replace F := F.2 q14
            refine x_iinc (v := (v7 + 1)) (lv2 := [(7, .int (v7 + 1)), (8, .int (kI h (rf h v0 14) (Int32.toNatClampNeg ((36 * v6) + v7)))), (0, .ref v0), (1, .int v1), (2, .int v2), (3, .int v3), (4, .int v4), (5, .int v5), (6, .int v6)]) hM d_Mo_isReachedWithout_180 (j := 8) rfl rfl (Nat.le_of_ble_eq_true rfl) rfl ?_
            refine x_goto (tgt := 99) hM d_Mo_isReachedWithout_183 (by decide) ?_
            refine x_sub [2, 3, 4, 5, 6, 7, 8, 0] rfl ?_
            exact F
          · replace F := F.1 q14
            refine x_aload_n hM d_Mo_isReachedWithout_160 rfl 1 rfl ?_
            obtain ⟨c12, F⟩ := F
            obtain ⟨c13, F⟩ := F
            refine x_getr hG hM ck_Mo 34 (Nat.le_of_ble_eq_true rfl) rfl rfl w_931 rfl d_Mo_isReachedWithout_161 c12 c13 ?_
            refine x_iload hM d_Mo_isReachedWithout_164 0 rfl ?_
            refine x_iconst (v := 1) hM d_Mo_isReachedWithout_166 (by decide) ?_
            obtain ⟨c10, F⟩ := F
            obtain ⟨c11, F⟩ := F
            obtain ⟨h4, eh4⟩ : ∃ z : Hp, z = wI h1 (rf h1 v0 34) (Int32.toNatClampNeg (kI h (rf h v0 14) (Int32.toNatClampNeg ((36 * v6) + v7)))) 1 := ⟨_, rfl⟩
            replace F := F h4 eh4
            refine x_zastore hG hM d_Mo_isReachedWithout_167 c10 c11 (Or.inr rfl) ?_
            rw [← eh4]
            clear eh4
            refine x_aload_n hM d_Mo_isReachedWithout_168 rfl 1 rfl ?_
            obtain ⟨c8, F⟩ := F
            obtain ⟨c9, F⟩ := F
            refine x_getr hG hM ck_Mo 23 (Nat.le_of_ble_eq_true rfl) rfl rfl w_920 rfl d_Mo_isReachedWithout_169 c8 c9 ?_
            refine x_iload hM d_Mo_isReachedWithout_172 5 rfl ?_
            refine x_iload hM d_Mo_isReachedWithout_174 0 rfl ?_
            obtain ⟨c6, F⟩ := F
            obtain ⟨c7, F⟩ := F
            obtain ⟨h5, eh5⟩ : ∃ z : Hp, z = wI h4 (rf h4 v0 23) (Int32.toNatClampNeg v4) (kI h (rf h v0 14) (Int32.toNatClampNeg ((36 * v6) + v7))) := ⟨_, rfl⟩
            replace F := F h5 eh5
            refine x_iastore hG hM d_Mo_isReachedWithout_176 c6 c7 ?_
            rw [← eh5]
            clear eh5
            refine x_iinc (v := (v4 + 1)) (lv2 := [(4, .int (v4 + 1)), (8, .int (kI h (rf h v0 14) (Int32.toNatClampNeg ((36 * v6) + v7)))), (0, .ref v0), (1, .int v1), (2, .int v2), (3, .int v3), (5, .int v5), (6, .int v6), (7, .int v7)]) hM d_Mo_isReachedWithout_177 (j := 5) rfl rfl (Nat.le_of_ble_eq_true rfl) rfl ?_
            refine x_iinc (v := (v7 + 1)) (lv2 := [(7, .int (v7 + 1)), (4, .int (v4 + 1)), (8, .int (kI h (rf h v0 14) (Int32.toNatClampNeg ((36 * v6) + v7)))), (0, .ref v0), (1, .int v1), (2, .int v2), (3, .int v3), (5, .int v5), (6, .int v6)]) hM d_Mo_isReachedWithout_180 (j := 8) rfl rfl (Nat.le_of_ble_eq_true rfl) rfl ?_
            refine x_goto (tgt := 99) hM d_Mo_isReachedWithout_183 (by decide) ?_
            refine x_sub [3, 4, 5, 6, 1, 7, 8, 0] rfl ?_
            exact F
theorem d_Mo_isBarred_0 : decode b_Mo_isBarred 0 = .ok (.iload_n 2, 1) := by decide +kernel
theorem d_Mo_isBarred_1 : decode b_Mo_isBarred 1 = .ok (.iconst (-1), 1) := by decide +kernel
theorem d_Mo_isBarred_2 : decode b_Mo_isBarred 2 = .ok (.if_icmp .ne 5, 3) := by decide +kernel
theorem d_Mo_isBarred_5 : decode b_Mo_isBarred 5 = .ok (.iconst 0, 1) := by decide +kernel
theorem d_Mo_isBarred_6 : decode b_Mo_isBarred 6 = .ok (.ireturn, 1) := by decide +kernel
theorem d_Mo_isBarred_7 : decode b_Mo_isBarred 7 = .ok (.aload_n 0, 1) := by decide +kernel
theorem d_Mo_isBarred_8 : decode b_Mo_isBarred 8 = .ok (.iload_n 1, 1) := by decide +kernel
theorem d_Mo_isBarred_9 : decode b_Mo_isBarred 9 = .ok (.invokevirtual 146, 3) := by decide +kernel
theorem d_Mo_isBarred_12 : decode b_Mo_isBarred 12 = .ok (.aload_n 0, 1) := by decide +kernel
theorem d_Mo_isBarred_13 : decode b_Mo_isBarred 13 = .ok (.getfield 28, 3) := by decide +kernel
theorem d_Mo_isBarred_16 : decode b_Mo_isBarred 16 = .ok (.iload_n 2, 1) := by decide +kernel
theorem d_Mo_isBarred_17 : decode b_Mo_isBarred 17 = .ok (.iaload, 1) := by decide +kernel
theorem d_Mo_isBarred_18 : decode b_Mo_isBarred 18 = .ok (.iload_n 3, 1) := by decide +kernel
theorem d_Mo_isBarred_19 : decode b_Mo_isBarred 19 = .ok (.if_icmp .ne 7, 3) := by decide +kernel
theorem d_Mo_isBarred_22 : decode b_Mo_isBarred 22 = .ok (.iconst 1, 1) := by decide +kernel
theorem d_Mo_isBarred_23 : decode b_Mo_isBarred 23 = .ok (.goto 4, 3) := by decide +kernel
theorem d_Mo_isBarred_26 : decode b_Mo_isBarred 26 = .ok (.iconst 0, 1) := by decide +kernel
theorem d_Mo_isBarred_27 : decode b_Mo_isBarred 27 = .ok (.ireturn, 1) := by decide +kernel
set_option maxRecDepth 100000 in
set_option maxHeartbeats 4000000 in
theorem S_Mo_isBarred_0 {G : Gc} {M : Mc} {Q : State → Prop} {K : Option Value → Hp → Prop} (hG : gok G) (hM : mok G M r_Mo_isBarred Q K) (v0 : Nat) (v1 : Int32) (v2 : Int32) (v3 : Int32) (h : Hp) (F : (v2 = (-1) → K (some (.int 0)) h) ∧ (¬ v2 = (-1) → (kT h v0 = 12 ∧ sem G r_Mo_open [.ref v0, .int v1] h (fun u2 h1 => u2 = none ∧ (kT h1 v0 = 12 ∧ kR h1 v0 10 = some (rf h1 v0 10) ∧ (kT h1 (rf h1 v0 10) = 50 ∧ vp_in v2 (kN h1 (rf h1 v0 10)) ∧ (∀ z3 : Int32, z3 = (if (kI h1 (rf h1 v0 10) (Int32.toNatClampNeg v2)) = v3 then 1 else 0) → (nb z3 ∧ K (some (.int z3)) h1)))))))) : X G M Q 0 [(0, .ref v0), (1, .int v1), (2, .int v2), (3, .int v3)] [] h := by
  refine x_iload_n hM d_Mo_isBarred_0 rfl 2 rfl ?_
  refine x_iconst (v := (-1)) hM d_Mo_isBarred_1 (by decide) ?_
  refine x_icmp_ne (tgt := 7) hM d_Mo_isBarred_2 (by decide) (fun q10 => ?_) (fun q10 => ?_)
  · replace F := F.2 q10
    refine x_aload_n hM d_Mo_isBarred_7 rfl 0 rfl ?_
    refine x_iload_n hM d_Mo_isBarred_8 rfl 1 rfl ?_
    obtain ⟨c9, F⟩ := F
    refine x_callV hG hM (r' := r_Mo_open) (ci := 11) [.int v1] rfl rfl (Nat.le_of_ble_eq_true rfl) yk_Mo_open ⟨Nat.le_of_ble_eq_true rfl, Nat.le_of_ble_eq_true rfl⟩ w_1092 w_1094 ws_Mo_open rfl rfl (Nat.le_of_ble_eq_true rfl) d_Mo_isBarred_9 c9 (sem_mono F ?_)
    intro u2 h1 F
    obtain ⟨rfl, F⟩ := F
    refine x_aload_n hM d_Mo_isBarred_12 rfl 0 rfl ?_
    obtain ⟨c7, F⟩ := F
    obtain ⟨c8, F⟩ := F
    refine x_getr hG hM ck_Mo 10 (Nat.le_of_ble_eq_true rfl) rfl rfl w_907 rfl d_Mo_isBarred_13 c7 c8 ?_
    refine x_iload_n hM d_Mo_isBarred_16 rfl 2 rfl ?_
    obtain ⟨c5, F⟩ := F
    obtain ⟨c6, F⟩ := F
    refine x_iaload hG hM d_Mo_isBarred_17 c5 c6 ?_
    refine x_iload_n hM d_Mo_isBarred_18 rfl 3 rfl ?_
    have JJ : ∀ (z3 : Int32) (ez3 : z3 = (if (kI h1 (rf h1 v0 10) (Int32.toNatClampNeg v2)) = v3 then 1 else 0)), X G M Q 27 [] [.int z3] h1 := by
      intro z3 ez3
      replace F := F _ ez3
      exact x_zreturn hM d_Mo_isBarred_27 rfl F.1 F.2
    refine x_icmp_ne (tgt := 26) hM d_Mo_isBarred_19 (by decide) (fun q4 => ?_) (fun q4 => ?_)
    · refine x_iconst (v := 0) hM d_Mo_isBarred_26 (by decide) ?_
      refine x_sub [] rfl ?_
      exact JJ _ (Eq.symm (if_neg q4))
    · refine x_iconst (v := 1) hM d_Mo_isBarred_22 (by decide) ?_
      refine x_goto (tgt := 27) hM d_Mo_isBarred_23 (by decide) ?_
      refine x_sub [] rfl ?_
      exact JJ _ (Eq.symm (if_pos q4))
  · replace F := F.1 q10
    refine x_iconst (v := 0) hM d_Mo_isBarred_5 (by decide) ?_
    exact x_zreturn hM d_Mo_isBarred_6 rfl (Or.inl rfl) F
theorem d_Mo_fact_0 : decode b_Mo_fact 0 = .ok (.aload_n 0, 1) := by decide +kernel
theorem d_Mo_fact_1 : decode b_Mo_fact 1 = .ok (.iload_n 1, 1) := by decide +kernel
theorem d_Mo_fact_2 : decode b_Mo_fact 2 = .ok (.invokevirtual 133, 3) := by decide +kernel
theorem d_Mo_fact_5 : decode b_Mo_fact 5 = .ok (.ifCond .eq 19, 3) := by decide +kernel
theorem d_Mo_fact_8 : decode b_Mo_fact 8 = .ok (.iload_n 2, 1) := by decide +kernel
theorem d_Mo_fact_9 : decode b_Mo_fact 9 = .ok (.iconst 0, 1) := by decide +kernel
theorem d_Mo_fact_10 : decode b_Mo_fact 10 = .ok (.aload_n 0, 1) := by decide +kernel
theorem d_Mo_fact_11 : decode b_Mo_fact 11 = .ok (.getfield 7, 3) := by decide +kernel
theorem d_Mo_fact_14 : decode b_Mo_fact 14 = .ok (.iload_n 1, 1) := by decide +kernel
theorem d_Mo_fact_15 : decode b_Mo_fact 15 = .ok (.iaload, 1) := by decide +kernel
theorem d_Mo_fact_16 : decode b_Mo_fact 16 = .ok (.iconst 1, 1) := by decide +kernel
theorem d_Mo_fact_17 : decode b_Mo_fact 17 = .ok (.isub, 1) := by decide +kernel
theorem d_Mo_fact_18 : decode b_Mo_fact 18 = .ok (.invokestatic 118, 3) := by decide +kernel
theorem d_Mo_fact_21 : decode b_Mo_fact 21 = .ok (.ifCond .ne 6, 3) := by decide +kernel
theorem d_Mo_fact_24 : decode b_Mo_fact 24 = .ok (.bipush (-2), 2) := by decide +kernel
theorem d_Mo_fact_26 : decode b_Mo_fact 26 = .ok (.ireturn, 1) := by decide +kernel
theorem d_Mo_fact_27 : decode b_Mo_fact 27 = .ok (.aload_n 0, 1) := by decide +kernel
theorem d_Mo_fact_28 : decode b_Mo_fact 28 = .ok (.invokevirtual 191, 3) := by decide +kernel
theorem d_Mo_fact_31 : decode b_Mo_fact 31 = .ok (.aload_n 0, 1) := by decide +kernel
theorem d_Mo_fact_32 : decode b_Mo_fact 32 = .ok (.iconst (-1), 1) := by decide +kernel
theorem d_Mo_fact_33 : decode b_Mo_fact 33 = .ok (.iload_n 1, 1) := by decide +kernel
theorem d_Mo_fact_34 : decode b_Mo_fact 34 = .ok (.iload_n 2, 1) := by decide +kernel
theorem d_Mo_fact_35 : decode b_Mo_fact 35 = .ok (.invokevirtual 212, 3) := by decide +kernel
theorem d_Mo_fact_38 : decode b_Mo_fact 38 = .ok (.ifCond .eq 7, 3) := by decide +kernel
theorem d_Mo_fact_41 : decode b_Mo_fact 41 = .ok (.iconst 0, 1) := by decide +kernel
theorem d_Mo_fact_42 : decode b_Mo_fact 42 = .ok (.goto 4, 3) := by decide +kernel
theorem d_Mo_fact_45 : decode b_Mo_fact 45 = .ok (.iconst 1, 1) := by decide +kernel
theorem d_Mo_fact_46 : decode b_Mo_fact 46 = .ok (.ireturn, 1) := by decide +kernel
set_option maxRecDepth 100000 in
set_option maxHeartbeats 4000000 in
theorem S_Mo_fact_0 {G : Gc} {M : Mc} {Q : State → Prop} {K : Option Value → Hp → Prop} (hG : gok G) (hM : mok G M r_Mo_fact Q K) (v0 : Nat) (v1 : Int32) (v2 : Int32) (h : Hp) (F : kT h v0 = 12 ∧ sem G r_Mo_isThing [.ref v0, .int v1] h (fun u2 h1 => ∃ x3 : Int32, u2 = some (.int x3) ∧ ((x3 = 0 → K (some (.int (-2))) h1) ∧ (¬ x3 = 0 → (kT h1 v0 = 12 ∧ kR h1 v0 1 = some (rf h1 v0 1) ∧ (kT h1 (rf h1 v0 1) = 50 ∧ vp_in v1 (kN h1 (rf h1 v0 1)) ∧ (sem G r_Mo_isIn [.int v2, .int 0, .int ((kI h1 (rf h1 v0 1) (Int32.toNatClampNeg v1)) - 1)] h1 (fun u5 h4 => ∃ x6 : Int32, u5 = some (.int x6) ∧ ((x6 = 0 → K (some (.int (-2))) h4) ∧ (¬ x6 = 0 → (kT h4 v0 = 12 ∧ sem G r_Mo_lay [.ref v0] h4 (fun u8 h7 => u8 = none ∧ (kT h7 v0 = 12 ∧ sem G r_Mo_isReachedWithout [.ref v0, .int (-1), .int v1, .int v2] h7 (fun u10 h9 => ∃ x11 : Int32, u10 = some (.int x11) ∧ (∀ z12 : Int32, z12 = (if x11 = 0 then 1 else 0) → K (some (.int z12)) h9))))))))))))))) : X G M Q 0 [(0, .ref v0), (1, .int v1), (2, .int v2)] [] h := by
  refine x_aload_n hM d_Mo_fact_0 rfl 0 rfl ?_
  refine x_iload_n hM d_Mo_fact_1 rfl 1 rfl ?_
  obtain ⟨c22, F⟩ := F
  refine x_callV hG hM (r' := r_Mo_isThing) (ci := 11) [.int v1] rfl rfl (Nat.le_of_ble_eq_true rfl) yk_Mo_isThing ⟨Nat.le_of_ble_eq_true rfl, Nat.le_of_ble_eq_true rfl⟩ w_1052 w_1054 ws_Mo_isThing rfl rfl (Nat.le_of_ble_eq_true rfl) d_Mo_fact_2 c22 (sem_mono F ?_)
  intro u2 h1 F
  obtain ⟨x3, rfl, F⟩ := F
  refine x_if_eq (tgt := 24) hM d_Mo_fact_5 (by decide) (fun q21 => ?_) (fun q21 => ?_)
  · replace F := F.1 q21
    refine x_bipush (v := (-2)) hM d_Mo_fact_24 (by decide) ?_
    exact x_ireturn hM d_Mo_fact_26 rfl F
  · replace F := F.2 q21
    refine x_iload_n hM d_Mo_fact_8 rfl 2 rfl ?_
    refine x_iconst (v := 0) hM d_Mo_fact_9 (by decide) ?_
    refine x_aload_n hM d_Mo_fact_10 rfl 0 rfl ?_
    obtain ⟨c19, F⟩ := F
    obtain ⟨c20, F⟩ := F
    refine x_getr hG hM ck_Mo 1 (Nat.le_of_ble_eq_true rfl) rfl rfl w_898 rfl d_Mo_fact_11 c19 c20 ?_
    refine x_iload_n hM d_Mo_fact_14 rfl 1 rfl ?_
    obtain ⟨c17, F⟩ := F
    obtain ⟨c18, F⟩ := F
    refine x_iaload hG hM d_Mo_fact_15 c17 c18 ?_
    refine x_iconst (v := 1) hM d_Mo_fact_16 (by decide) ?_
    refine x_isub hM d_Mo_fact_17 ?_
    refine x_callS hG hM (r' := r_Mo_isIn) [.int v2, .int 0, .int ((kI h1 (rf h1 v0 1) (Int32.toNatClampNeg v1)) - 1)] rfl yk_Mo_isIn ⟨Nat.le_of_ble_eq_true rfl, Nat.le_of_ble_eq_true rfl⟩ w_1017 w_1018 rfl rfl (Nat.le_of_ble_eq_true rfl) d_Mo_fact_18 (sem_mono F ?_)
    intro u5 h4 F
    obtain ⟨x6, rfl, F⟩ := F
    refine x_if_ne (tgt := 27) hM d_Mo_fact_21 (by decide) (fun q16 => ?_) (fun q16 => ?_)
    · replace F := F.2 q16
      refine x_aload_n hM d_Mo_fact_27 rfl 0 rfl ?_
      obtain ⟨c15, F⟩ := F
      refine x_callV hG hM (r' := r_Mo_lay) (ci := 11) [] rfl rfl (Nat.le_of_ble_eq_true rfl) yk_Mo_lay ⟨Nat.le_of_ble_eq_true rfl, Nat.le_of_ble_eq_true rfl⟩ w_1112 w_1114 ws_Mo_lay rfl rfl (Nat.le_of_ble_eq_true rfl) d_Mo_fact_28 c15 (sem_mono F ?_)
      intro u8 h7 F
      obtain ⟨rfl, F⟩ := F
      refine x_aload_n hM d_Mo_fact_31 rfl 0 rfl ?_
      refine x_iconst (v := (-1)) hM d_Mo_fact_32 (by decide) ?_
      refine x_iload_n hM d_Mo_fact_33 rfl 1 rfl ?_
      refine x_iload_n hM d_Mo_fact_34 rfl 2 rfl ?_
      obtain ⟨c14, F⟩ := F
      refine x_callV hG hM (r' := r_Mo_isReachedWithout) (ci := 11) [.int (-1), .int v1, .int v2] rfl rfl (Nat.le_of_ble_eq_true rfl) yk_Mo_isReachedWithout ⟨Nat.le_of_ble_eq_true rfl, Nat.le_of_ble_eq_true rfl⟩ w_1181 w_1183 ws_Mo_isReachedWithout rfl rfl (Nat.le_of_ble_eq_true rfl) d_Mo_fact_35 c14 (sem_mono F ?_)
      intro u10 h9 F
      obtain ⟨x11, rfl, F⟩ := F
      have JJ : ∀ (z12 : Int32) (ez12 : z12 = (if x11 = 0 then 1 else 0)), X G M Q 46 [] [.int z12] h9 := by
        intro z12 ez12
        replace F := F _ ez12
        exact x_ireturn hM d_Mo_fact_46 rfl F
      refine x_if_eq (tgt := 45) hM d_Mo_fact_38 (by decide) (fun q13 => ?_) (fun q13 => ?_)
      · refine x_iconst (v := 1) hM d_Mo_fact_45 (by decide) ?_
        refine x_sub [] rfl ?_
        exact JJ _ (Eq.symm (if_pos q13))
      · refine x_iconst (v := 0) hM d_Mo_fact_41 (by decide) ?_
        refine x_goto (tgt := 46) hM d_Mo_fact_42 (by decide) ?_
        refine x_sub [] rfl ?_
        exact JJ _ (Eq.symm (if_neg q13))
    · replace F := F.1 q16
      refine x_bipush (v := (-2)) hM d_Mo_fact_24 (by decide) ?_
      exact x_ireturn hM d_Mo_fact_26 rfl F
theorem d_Mo_values_0 : decode b_Mo_values 0 = .ok (.aload_n 0, 1) := by decide +kernel
theorem d_Mo_values_1 : decode b_Mo_values 1 = .ok (.iload_n 1, 1) := by decide +kernel
theorem d_Mo_values_2 : decode b_Mo_values 2 = .ok (.invokevirtual 133, 3) := by decide +kernel
theorem d_Mo_values_5 : decode b_Mo_values 5 = .ok (.ifCond .ne 6, 3) := by decide +kernel
theorem d_Mo_values_8 : decode b_Mo_values 8 = .ok (.bipush (-2), 2) := by decide +kernel
theorem d_Mo_values_10 : decode b_Mo_values 10 = .ok (.ireturn, 1) := by decide +kernel
theorem d_Mo_values_11 : decode b_Mo_values 11 = .ok (.aload_n 0, 1) := by decide +kernel
theorem d_Mo_values_12 : decode b_Mo_values 12 = .ok (.invokevirtual 191, 3) := by decide +kernel
theorem d_Mo_values_15 : decode b_Mo_values 15 = .ok (.iconst 0, 1) := by decide +kernel
theorem d_Mo_values_16 : decode b_Mo_values 16 = .ok (.istore_n 2, 1) := by decide +kernel
theorem d_Mo_values_17 : decode b_Mo_values 17 = .ok (.iconst 0, 1) := by decide +kernel
theorem d_Mo_values_18 : decode b_Mo_values 18 = .ok (.istore_n 3, 1) := by decide +kernel
theorem d_Mo_values_19 : decode b_Mo_values 19 = .ok (.iload_n 3, 1) := by decide +kernel
theorem d_Mo_values_20 : decode b_Mo_values 20 = .ok (.aload_n 0, 1) := by decide +kernel
theorem d_Mo_values_21 : decode b_Mo_values 21 = .ok (.getfield 157, 3) := by decide +kernel
theorem d_Mo_values_24 : decode b_Mo_values 24 = .ok (.if_icmp .ge 35, 3) := by decide +kernel
theorem d_Mo_values_27 : decode b_Mo_values 27 = .ok (.aload_n 0, 1) := by decide +kernel
theorem d_Mo_values_28 : decode b_Mo_values 28 = .ok (.getfield 51, 3) := by decide +kernel
theorem d_Mo_values_31 : decode b_Mo_values 31 = .ok (.iload_n 3, 1) := by decide +kernel
theorem d_Mo_values_32 : decode b_Mo_values 32 = .ok (.iaload, 1) := by decide +kernel
theorem d_Mo_values_33 : decode b_Mo_values 33 = .ok (.iconst (-1), 1) := by decide +kernel
theorem d_Mo_values_34 : decode b_Mo_values 34 = .ok (.if_icmp .eq 19, 3) := by decide +kernel
theorem d_Mo_values_37 : decode b_Mo_values 37 = .ok (.aload_n 0, 1) := by decide +kernel
theorem d_Mo_values_38 : decode b_Mo_values 38 = .ok (.iload_n 3, 1) := by decide +kernel
theorem d_Mo_values_39 : decode b_Mo_values 39 = .ok (.invokevirtual 146, 3) := by decide +kernel
theorem d_Mo_values_42 : decode b_Mo_values 42 = .ok (.iload_n 2, 1) := by decide +kernel
theorem d_Mo_values_43 : decode b_Mo_values 43 = .ok (.iconst 1, 1) := by decide +kernel
theorem d_Mo_values_44 : decode b_Mo_values 44 = .ok (.aload_n 0, 1) := by decide +kernel
theorem d_Mo_values_45 : decode b_Mo_values 45 = .ok (.getfield 28, 3) := by decide +kernel
theorem d_Mo_values_48 : decode b_Mo_values 48 = .ok (.iload_n 1, 1) := by decide +kernel
theorem d_Mo_values_49 : decode b_Mo_values 49 = .ok (.iaload, 1) := by decide +kernel
theorem d_Mo_values_50 : decode b_Mo_values 50 = .ok (.ishl, 1) := by decide +kernel
theorem d_Mo_values_51 : decode b_Mo_values 51 = .ok (.ior, 1) := by decide +kernel
theorem d_Mo_values_52 : decode b_Mo_values 52 = .ok (.istore_n 2, 1) := by decide +kernel
theorem d_Mo_values_53 : decode b_Mo_values 53 = .ok (.iinc 3 1, 3) := by decide +kernel
theorem d_Mo_values_56 : decode b_Mo_values 56 = .ok (.goto (-37), 3) := by decide +kernel
theorem d_Mo_values_59 : decode b_Mo_values 59 = .ok (.iload_n 2, 1) := by decide +kernel
theorem d_Mo_values_60 : decode b_Mo_values 60 = .ok (.ireturn, 1) := by decide +kernel
set_option maxRecDepth 100000 in
set_option maxHeartbeats 4000000 in
theorem S_Mo_values_0 {G : Gc} {M : Mc} {Q : State → Prop} {K : Option Value → Hp → Prop} (hG : gok G) (hM : mok G M r_Mo_values Q K) (v0 : Nat) (v1 : Int32) (h : Hp) (F : kT h v0 = 12 ∧ sem G r_Mo_isThing [.ref v0, .int v1] h (fun u2 h1 => ∃ x3 : Int32, u2 = some (.int x3) ∧ ((x3 = 0 → K (some (.int (-2))) h1) ∧ (¬ x3 = 0 → (kT h1 v0 = 12 ∧ sem G r_Mo_lay [.ref v0] h1 (fun u5 h4 => u5 = none ∧ X G M Q 19 [(0, .ref v0), (1, .int v1), (2, .int 0), (3, .int 0)] [] h4)))))) : X G M Q 0 [(0, .ref v0), (1, .int v1)] [] h := by
  refine x_aload_n hM d_Mo_values_0 rfl 0 rfl ?_
  refine x_iload_n hM d_Mo_values_1 rfl 1 rfl ?_
  obtain ⟨c8, F⟩ := F
  refine x_callV hG hM (r' := r_Mo_isThing) (ci := 11) [.int v1] rfl rfl (Nat.le_of_ble_eq_true rfl) yk_Mo_isThing ⟨Nat.le_of_ble_eq_true rfl, Nat.le_of_ble_eq_true rfl⟩ w_1052 w_1054 ws_Mo_isThing rfl rfl (Nat.le_of_ble_eq_true rfl) d_Mo_values_2 c8 (sem_mono F ?_)
  intro u2 h1 F
  obtain ⟨x3, rfl, F⟩ := F
  refine x_if_ne (tgt := 11) hM d_Mo_values_5 (by decide) (fun q7 => ?_) (fun q7 => ?_)
  · replace F := F.2 q7
    refine x_aload_n hM d_Mo_values_11 rfl 0 rfl ?_
    obtain ⟨c6, F⟩ := F
    refine x_callV hG hM (r' := r_Mo_lay) (ci := 11) [] rfl rfl (Nat.le_of_ble_eq_true rfl) yk_Mo_lay ⟨Nat.le_of_ble_eq_true rfl, Nat.le_of_ble_eq_true rfl⟩ w_1112 w_1114 ws_Mo_lay rfl rfl (Nat.le_of_ble_eq_true rfl) d_Mo_values_12 c6 (sem_mono F ?_)
    intro u5 h4 F
    obtain ⟨rfl, F⟩ := F
    refine x_iconst (v := 0) hM d_Mo_values_15 (by decide) ?_
    refine x_istore_n (lv2 := [(2, .int 0), (0, .ref v0), (1, .int v1)]) hM d_Mo_values_16 rfl (Nat.le_of_ble_eq_true rfl) rfl ?_
    refine x_iconst (v := 0) hM d_Mo_values_17 (by decide) ?_
    refine x_istore_n (lv2 := [(3, .int 0), (2, .int 0), (0, .ref v0), (1, .int v1)]) hM d_Mo_values_18 rfl (Nat.le_of_ble_eq_true rfl) rfl ?_
    refine x_sub [2, 3, 1, 0] rfl ?_
    exact F
  · replace F := F.1 q7
    refine x_bipush (v := (-2)) hM d_Mo_values_8 (by decide) ?_
    exact x_ireturn hM d_Mo_values_10 rfl F
set_option maxRecDepth 100000 in
set_option maxHeartbeats 4000000 in
theorem S_Mo_values_19 {G : Gc} {M : Mc} {Q : State → Prop} {K : Option Value → Hp → Prop} (hG : gok G) (hM : mok G M r_Mo_values Q K) (v0 : Nat) (v1 : Int32) (v2 : Int32) (v3 : Int32) (h : Hp) (F : kT h v0 = 12 ∧ (((kI h v0 13) ≤ v3 → K (some (.int v2)) h) ∧ (¬ (kI h v0 13) ≤ v3 → (kT h v0 = 12 ∧ kR h v0 19 = some (rf h v0 19) ∧ (kT h (rf h v0 19) = 50 ∧ vp_in v3 (kN h (rf h v0 19)) ∧ (((kI h (rf h v0 19) (Int32.toNatClampNeg v3)) = (-1) → X G M Q 19 [(0, .ref v0), (1, .int v1), (2, .int v2), (3, .int (v3 + 1))] [] h) ∧ (¬ (kI h (rf h v0 19) (Int32.toNatClampNeg v3)) = (-1) → (kT h v0 = 12 ∧ sem G r_Mo_open [.ref v0, .int v3] h (fun u2 h1 => u2 = none ∧ (kT h1 v0 = 12 ∧ kR h1 v0 10 = some (rf h1 v0 10) ∧ (kT h1 (rf h1 v0 10) = 50 ∧ vp_in v1 (kN h1 (rf h1 v0 10)) ∧ X G M Q 19 [(0, .ref v0), (1, .int v1), (2, .int (v2 ||| (1 <<< ((kI h1 (rf h1 v0 10) (Int32.toNatClampNeg v1)) &&& 31)))), (3, .int (v3 + 1))] [] h1))))))))))) : X G M Q 19 [(0, .ref v0), (1, .int v1), (2, .int v2), (3, .int v3)] [] h := by
  refine x_iload_n hM d_Mo_values_19 rfl 3 rfl ?_
  refine x_aload_n hM d_Mo_values_20 rfl 0 rfl ?_
  obtain ⟨c14, F⟩ := F
  refine x_geti hG hM ck_Mo 13 (Nat.le_of_ble_eq_true rfl) rfl rfl w_910 rfl d_Mo_values_21 c14 ?_
  refine x_icmp_ge (tgt := 59) hM d_Mo_values_24 (by decide) (fun q13 => ?_) (fun q13 => ?_)
  · replace F := F.1 q13
    refine x_iload_n hM d_Mo_values_59 rfl 2 rfl ?_
    exact x_ireturn hM d_Mo_values_60 rfl F
  · replace F := F.2 q13
    refine x_aload_n hM d_Mo_values_27 rfl 0 rfl ?_
    obtain ⟨c11, F⟩ := F
    obtain ⟨c12, F⟩ := F
    refine x_getr hG hM ck_Mo 19 (Nat.le_of_ble_eq_true rfl) rfl rfl w_916 rfl d_Mo_values_28 c11 c12 ?_
    refine x_iload_n hM d_Mo_values_31 rfl 3 rfl ?_
    obtain ⟨c9, F⟩ := F
    obtain ⟨c10, F⟩ := F
    refine x_iaload hG hM d_Mo_values_32 c9 c10 ?_
    refine x_iconst (v := (-1)) hM d_Mo_values_33 (by decide) ?_
    refine x_icmp_eq (tgt := 53) hM d_Mo_values_34 (by decide) (fun q8 => ?_) (fun q8 => ?_)
    · replace F := F.1 q8
      refine x_iinc (v := (v3 + 1)) (lv2 := [(3, .int (v3 + 1)), (0, .ref v0), (1, .int v1), (2, .int v2)]) hM d_Mo_values_53 (j := 3) rfl rfl (Nat.le_of_ble_eq_true rfl) rfl ?_
      refine x_goto (tgt := 19) hM d_Mo_values_56 (by decide) ?_
      refine x_sub [1, 2, 3, 0] rfl ?_
      exact F
    · replace F := F.2 q8
      refine x_aload_n hM d_Mo_values_37 rfl 0 rfl ?_
      refine x_iload_n hM d_Mo_values_38 rfl 3 rfl ?_
      obtain ⟨c7, F⟩ := F
      refine x_callV hG hM (r' := r_Mo_open) (ci := 11) [.int v3] rfl rfl (Nat.le_of_ble_eq_true rfl) yk_Mo_open ⟨Nat.le_of_ble_eq_true rfl, Nat.le_of_ble_eq_true rfl⟩ w_1092 w_1094 ws_Mo_open rfl rfl (Nat.le_of_ble_eq_true rfl) d_Mo_values_39 c7 (sem_mono F ?_)
      intro u2 h1 F
      obtain ⟨rfl, F⟩ := F
      refine x_iload_n hM d_Mo_values_42 rfl 2 rfl ?_
      refine x_iconst (v := 1) hM d_Mo_values_43 (by decide) ?_
      refine x_aload_n hM d_Mo_values_44 rfl 0 rfl ?_
      obtain ⟨c5, F⟩ := F
      obtain ⟨c6, F⟩ := F
      refine x_getr hG hM ck_Mo 10 (Nat.le_of_ble_eq_true rfl) rfl rfl w_907 rfl d_Mo_values_45 c5 c6 ?_
      refine x_iload_n hM d_Mo_values_48 rfl 1 rfl ?_
      obtain ⟨c3, F⟩ := F
      obtain ⟨c4, F⟩ := F
      refine x_iaload hG hM d_Mo_values_49 c3 c4 ?_
      refine x_ishl hM d_Mo_values_50 ?_
      refine x_ior hM d_Mo_values_51 ?_
      refine x_istore_n (lv2 := [(2, .int (v2 ||| (1 <<< ((kI h1 (rf h1 v0 10) (Int32.toNatClampNeg v1)) &&& 31)))), (0, .ref v0), (1, .int v1), (3, .int v3)]) hM d_Mo_values_52 rfl (Nat.le_of_ble_eq_true rfl) rfl ?_
      refine x_iinc (v := (v3 + 1)) (lv2 := [(3, .int (v3 + 1)), (2, .int (v2 ||| (1 <<< ((kI h1 (rf h1 v0 10) (Int32.toNatClampNeg v1)) &&& 31)))), (0, .ref v0), (1, .int v1)]) hM d_Mo_values_53 (j := 3) rfl rfl (Nat.le_of_ble_eq_true rfl) rfl ?_
      refine x_goto (tgt := 19) hM d_Mo_values_56 (by decide) ?_
      refine x_sub [2, 3, 1, 0] rfl ?_
      exact F
theorem d_Mo_flaw_0 : decode b_Mo_flaw 0 = .ok (.iload_n 1, 1) := by decide +kernel
theorem d_Mo_flaw_1 : decode b_Mo_flaw 1 = .ok (.iconst 0, 1) := by decide +kernel
theorem d_Mo_flaw_2 : decode b_Mo_flaw 2 = .ok (.iconst 3, 1) := by decide +kernel
theorem d_Mo_flaw_3 : decode b_Mo_flaw 3 = .ok (.invokestatic 118, 3) := by decide +kernel
theorem d_Mo_flaw_6 : decode b_Mo_flaw 6 = .ok (.ifCond .ne 6, 3) := by decide +kernel
theorem d_Mo_flaw_9 : decode b_Mo_flaw 9 = .ok (.bipush (-2), 2) := by decide +kernel
theorem d_Mo_flaw_11 : decode b_Mo_flaw 11 = .ok (.ireturn, 1) := by decide +kernel
theorem d_Mo_flaw_12 : decode b_Mo_flaw 12 = .ok (.aload_n 0, 1) := by decide +kernel
theorem d_Mo_flaw_13 : decode b_Mo_flaw 13 = .ok (.invokevirtual 224, 3) := by decide +kernel
theorem d_Mo_flaw_16 : decode b_Mo_flaw 16 = .ok (.istore_n 2, 1) := by decide +kernel
theorem d_Mo_flaw_17 : decode b_Mo_flaw 17 = .ok (.iload_n 1, 1) := by decide +kernel
theorem d_Mo_flaw_18 : decode b_Mo_flaw 18 = .ok (.ifCond .ne 7, 3) := by decide +kernel
theorem d_Mo_flaw_21 : decode b_Mo_flaw 21 = .ok (.iload_n 2, 1) := by decide +kernel
theorem d_Mo_flaw_22 : decode b_Mo_flaw 22 = .ok (.goto 47, 3) := by decide +kernel
theorem d_Mo_flaw_25 : decode b_Mo_flaw 25 = .ok (.iload_n 1, 1) := by decide +kernel
theorem d_Mo_flaw_26 : decode b_Mo_flaw 26 = .ok (.iconst 1, 1) := by decide +kernel
theorem d_Mo_flaw_27 : decode b_Mo_flaw 27 = .ok (.if_icmp .ne 10, 3) := by decide +kernel
theorem d_Mo_flaw_30 : decode b_Mo_flaw 30 = .ok (.aload_n 0, 1) := by decide +kernel
theorem d_Mo_flaw_31 : decode b_Mo_flaw 31 = .ok (.getfield 215, 3) := by decide +kernel
theorem d_Mo_flaw_34 : decode b_Mo_flaw 34 = .ok (.goto 35, 3) := by decide +kernel
theorem d_Mo_flaw_37 : decode b_Mo_flaw 37 = .ok (.aload_n 0, 1) := by decide +kernel
theorem d_Mo_flaw_38 : decode b_Mo_flaw 38 = .ok (.getfield 218, 3) := by decide +kernel
theorem d_Mo_flaw_41 : decode b_Mo_flaw 41 = .ok (.iconst (-1), 1) := by decide +kernel
theorem d_Mo_flaw_42 : decode b_Mo_flaw 42 = .ok (.if_icmp .ne 7, 3) := by decide +kernel
theorem d_Mo_flaw_45 : decode b_Mo_flaw 45 = .ok (.iconst (-1), 1) := by decide +kernel
theorem d_Mo_flaw_46 : decode b_Mo_flaw 46 = .ok (.goto 23, 3) := by decide +kernel
theorem d_Mo_flaw_49 : decode b_Mo_flaw 49 = .ok (.iload_n 1, 1) := by decide +kernel
theorem d_Mo_flaw_50 : decode b_Mo_flaw 50 = .ok (.iconst 2, 1) := by decide +kernel
theorem d_Mo_flaw_51 : decode b_Mo_flaw 51 = .ok (.if_icmp .ne 12, 3) := by decide +kernel
theorem d_Mo_flaw_54 : decode b_Mo_flaw 54 = .ok (.aload_n 0, 1) := by decide +kernel
theorem d_Mo_flaw_55 : decode b_Mo_flaw 55 = .ok (.getfield 218, 3) := by decide +kernel
theorem d_Mo_flaw_58 : decode b_Mo_flaw 58 = .ok (.iconst 3, 1) := by decide +kernel
theorem d_Mo_flaw_59 : decode b_Mo_flaw 59 = .ok (.idiv, 1) := by decide +kernel
theorem d_Mo_flaw_60 : decode b_Mo_flaw 60 = .ok (.goto 9, 3) := by decide +kernel
theorem d_Mo_flaw_63 : decode b_Mo_flaw 63 = .ok (.aload_n 0, 1) := by decide +kernel
theorem d_Mo_flaw_64 : decode b_Mo_flaw 64 = .ok (.getfield 218, 3) := by decide +kernel
theorem d_Mo_flaw_67 : decode b_Mo_flaw 67 = .ok (.iconst 3, 1) := by decide +kernel
theorem d_Mo_flaw_68 : decode b_Mo_flaw 68 = .ok (.irem, 1) := by decide +kernel
theorem d_Mo_flaw_69 : decode b_Mo_flaw 69 = .ok (.ireturn, 1) := by decide +kernel
set_option maxRecDepth 100000 in
set_option maxHeartbeats 4000000 in
theorem S_Mo_flaw_0 {G : Gc} {M : Mc} {Q : State → Prop} {K : Option Value → Hp → Prop} (hG : gok G) (hM : mok G M r_Mo_flaw Q K) (v0 : Nat) (v1 : Int32) (h : Hp) (F : sem G r_Mo_isIn [.int v1, .int 0, .int 3] h (fun u2 h1 => ∃ x3 : Int32, u2 = some (.int x3) ∧ ((x3 = 0 → K (some (.int (-2))) h1) ∧ (¬ x3 = 0 → (kT h1 v0 = 12 ∧ sem G r_Mo_findFlaw [.ref v0] h1 (fun u5 h4 => ∃ x6 : Int32, u5 = some (.int x6) ∧ ((¬ v1 = 0 → ((v1 = 1 → kT h4 v0 = 12) ∧ (¬ v1 = 1 → (kT h4 v0 = 12 ∧ (¬ (kI h4 v0 36) = (-1) → ((v1 = 2 → kT h4 v0 = 12) ∧ (¬ v1 = 2 → kT h4 v0 = 12))))))) ∧ (∀ z7 : Int32, z7 = (if v1 = 0 then x6 else (if v1 = 1 then (kI h4 v0 35) else (if (kI h4 v0 36) = (-1) then (-1) else (if v1 = 2 then ((kI h4 v0 36) / 3) else ((kI h4 v0 36) - (kI h4 v0 36) / 3 * 3))))) → K (some (.int z7)) h4)))))))) : X G M Q 0 [(0, .ref v0), (1, .int v1)] [] h := by
  refine x_iload_n hM d_Mo_flaw_0 rfl 1 rfl ?_
  refine x_iconst (v := 0) hM d_Mo_flaw_1 (by decide) ?_
  refine x_iconst (v := 3) hM d_Mo_flaw_2 (by decide) ?_
  refine x_callS hG hM (r' := r_Mo_isIn) [.int v1, .int 0, .int 3] rfl yk_Mo_isIn ⟨Nat.le_of_ble_eq_true rfl, Nat.le_of_ble_eq_true rfl⟩ w_1017 w_1018 rfl rfl (Nat.le_of_ble_eq_true rfl) d_Mo_flaw_3 (sem_mono F ?_)
  intro u2 h1 F
  obtain ⟨x3, rfl, F⟩ := F
  refine x_if_ne (tgt := 12) hM d_Mo_flaw_6 (by decide) (fun q17 => ?_) (fun q17 => ?_)
  · replace F := F.2 q17
    refine x_aload_n hM d_Mo_flaw_12 rfl 0 rfl ?_
    obtain ⟨c16, F⟩ := F
    refine x_callV hG hM (r' := r_Mo_findFlaw) (ci := 11) [] rfl rfl (Nat.le_of_ble_eq_true rfl) yk_Mo_findFlaw ⟨Nat.le_of_ble_eq_true rfl, Nat.le_of_ble_eq_true rfl⟩ w_1201 w_1203 ws_Mo_findFlaw rfl rfl (Nat.le_of_ble_eq_true rfl) d_Mo_flaw_13 c16 (sem_mono F ?_)
    intro u5 h4 F
    obtain ⟨x6, rfl, F⟩ := F
    refine x_istore_n (lv2 := [(2, .int x6), (0, .ref v0), (1, .int v1)]) hM d_Mo_flaw_16 rfl (Nat.le_of_ble_eq_true rfl) rfl ?_
    refine x_iload_n hM d_Mo_flaw_17 rfl 2 rfl ?_
    obtain ⟨S, F⟩ := F
    have JJ : ∀ (z7 : Int32) (ez7 : z7 = (if v1 = 0 then x6 else (if v1 = 1 then (kI h4 v0 35) else (if (kI h4 v0 36) = (-1) then (-1) else (if v1 = 2 then ((kI h4 v0 36) / 3) else ((kI h4 v0 36) - (kI h4 v0 36) / 3 * 3)))))), X G M Q 69 [] [.int z7] h4 := by
      intro z7 ez7
      replace F := F _ ez7
      exact x_ireturn hM d_Mo_flaw_69 rfl F
    refine x_if_ne (tgt := 25) hM d_Mo_flaw_18 (by decide) (fun q8 => ?_) (fun q8 => ?_)
    · replace S := S q8
      refine x_iload_n hM d_Mo_flaw_25 rfl 2 rfl ?_
      refine x_iconst (v := 1) hM d_Mo_flaw_26 (by decide) ?_
      refine x_icmp_ne (tgt := 37) hM d_Mo_flaw_27 (by decide) (fun q9 => ?_) (fun q9 => ?_)
      · replace S := S.2 q9
        refine x_aload_n hM d_Mo_flaw_37 rfl 1 rfl ?_
        obtain ⟨c10, S⟩ := S
        refine x_geti hG hM ck_Mo 36 (Nat.le_of_ble_eq_true rfl) rfl rfl w_933 rfl d_Mo_flaw_38 c10 ?_
        refine x_iconst (v := (-1)) hM d_Mo_flaw_41 (by decide) ?_
        refine x_icmp_ne (tgt := 49) hM d_Mo_flaw_42 (by decide) (fun q11 => ?_) (fun q11 => ?_)
        · replace S := S q11
          refine x_iload_n hM d_Mo_flaw_49 rfl 2 rfl ?_
          refine x_iconst (v := 2) hM d_Mo_flaw_50 (by decide) ?_
          refine x_icmp_ne (tgt := 63) hM d_Mo_flaw_51 (by decide) (fun q12 => ?_) (fun q12 => ?_)
          · replace S := S.2 q12
            refine x_aload_n hM d_Mo_flaw_63 rfl 1 rfl ?_
            have c13 := S
            refine x_geti hG hM ck_Mo 36 (Nat.le_of_ble_eq_true rfl) rfl rfl w_933 rfl d_Mo_flaw_64 c13 ?_
            refine x_iconst (v := 3) hM d_Mo_flaw_67 (by decide) ?_
            refine x_irem hM d_Mo_flaw_68 (by decide) ?_
            refine x_sub [] rfl ?_
            exact JJ _ (Eq.symm (Eq.trans (if_neg q8) (Eq.trans (if_neg q9) (Eq.trans (if_neg q11) (if_neg q12)))))
          · replace S := S.1 q12
            refine x_aload_n hM d_Mo_flaw_54 rfl 1 rfl ?_
            have c14 := S
            refine x_geti hG hM ck_Mo 36 (Nat.le_of_ble_eq_true rfl) rfl rfl w_933 rfl d_Mo_flaw_55 c14 ?_
            refine x_iconst (v := 3) hM d_Mo_flaw_58 (by decide) ?_
            refine x_idiv hM d_Mo_flaw_59 (by decide) ?_
            refine x_goto (tgt := 69) hM d_Mo_flaw_60 (by decide) ?_
            refine x_sub [] rfl ?_
            exact JJ _ (Eq.symm (Eq.trans (if_neg q8) (Eq.trans (if_neg q9) (Eq.trans (if_neg q11) (if_pos q12)))))
        · refine x_iconst (v := (-1)) hM d_Mo_flaw_45 (by decide) ?_
          refine x_goto (tgt := 69) hM d_Mo_flaw_46 (by decide) ?_
          refine x_sub [] rfl ?_
          exact JJ _ (Eq.symm (Eq.trans (if_neg q8) (Eq.trans (if_neg q9) (if_pos q11))))
      · replace S := S.1 q9
        refine x_aload_n hM d_Mo_flaw_30 rfl 1 rfl ?_
        have c15 := S
        refine x_geti hG hM ck_Mo 35 (Nat.le_of_ble_eq_true rfl) rfl rfl w_932 rfl d_Mo_flaw_31 c15 ?_
        refine x_goto (tgt := 69) hM d_Mo_flaw_34 (by decide) ?_
        refine x_sub [] rfl ?_
        exact JJ _ (Eq.symm (Eq.trans (if_neg q8) (if_pos q9)))
    · refine x_iload_n hM d_Mo_flaw_21 rfl 0 rfl ?_
      refine x_goto (tgt := 69) hM d_Mo_flaw_22 (by decide) ?_
      refine x_sub [] rfl ?_
      exact JJ _ (Eq.symm (if_pos q8))
  · replace F := F.1 q17
    refine x_bipush (v := (-2)) hM d_Mo_flaw_9 (by decide) ?_
    exact x_ireturn hM d_Mo_flaw_11 rfl F
